/-! ===== the reference: while a module is read ===== -/
/-- parts are no more than half the characters -/
def RSl (T : xT) (n p : Nat) : Prop := 2 * n ≤ p ∨ (2 * n ≤ p + 1 ∧ (lx_kind T p = 3 ∨ lx_kind T p = 5))
theorem RSl.on {T : xT} {n p p' : Nat} (h : RSl T n p) (hp : p < p') : RSl T n p' := by
  left
  rcases h with q | q <;> omega
theorem RSl.le {T : xT} {n p p' : Nat} (h : RSl T n p) (hp : p ≤ p') : RSl T n p' := by
  by_cases e : p = p'
  · exact e ▸ h
  · exact h.on (by omega)
theorem RSl.b {T : xT} {n p : Nat} (h : RSl T n p) (hT : TV T) (hp : p ≤ T.2) : n ≤ 500 := by
  have := hT.1
  rcases h with q | q <;> omega
theorem nx_1 {T : xT} {p : Nat} (hk : lx_kind T p = 0) (h : lx_nx T p = p + 1) : lx_kind T (p + 1) = 3 ∨ lx_kind T (p + 1) = 5 := by
  obtain ⟨k1, k2, k3, k4⟩ := kind_nm (Or.inl hk)
  have el := end_le k1
  have e1 : lx_end T p = p + 1 := by
    have sk := skip_le T (T.2 - lx_end T p) false (by omega)
    have : lx_nx T p = lx_skip T (T.2 - lx_end T p) false := by unfold lx_nx; rw [if_pos k1]
    omega
  by_cases e : T.2 ≤ p + 1
  · exact Or.inr (kind_5.mpr e)
  · left
    have na : NmAt T p (lx_nm T p) := ⟨hk, rfl⟩
    have ln : (lx_nm T p).length = 1 := by rw [nm_len]; omega
    have := na.out (by omega)
    rw [ln] at this
    unfold lx_kind
    rw [if_neg e, if_neg (by rw [this.1]; simp), if_neg (by rw [this.2]; simp)]
theorem RSl.part {T : xT} (hT : TV T) {lng : Bool} {ns : List xNet} {n p : Nat} {q : xPart × Nat} (h : RSl T n p) (he : sp_part T lng ns p = .ok q) : RSl T (n + 1) q.2 := by
  have net : ∀ c1 c2 q, sp_netPart T c1 c2 ns p = .ok q → (RSl T (n + 1) q.2) := by
    intro c1 c2 q hq
    unfold sp_netPart at hq
    obtain ⟨l, h1, h2⟩ := eb_eq hq
    have hk := (sp_name_ok h1).1
    have hn := po_name h1
    have h2n : 2 * n ≤ p := by
      rcases h with z | ⟨_, z | z⟩
      · exact z
      · omega
      · omega
    split at h2
    · cases h2
    · split at h2
      · cases h2
      · split at h2
        · rename_i e1
          have e2 := is_p e1
          obtain ⟨a, h3, h4⟩ := eb_eq h2
          have hn2 := po_num h3
          split at h4
          · rename_i e3
            have e4 := is_p e3
            obtain ⟨b, h5, h6⟩ := eb_eq h4
            have hn3 := po_num h5
            cases h6
            exact Or.inl (by simp only; omega)
          · cases h4
            exact Or.inl (by simp only; omega)
        · cases h2
          simp only
          by_cases e : lx_nx T p = p + 1
          · have := nx_1 hk e
            rw [e]
            exact Or.inr ⟨by omega, this⟩
          · exact Or.inl (by omega)
  have h1 : 2 * n ≤ p + 1 := by rcases h with z | z <;> omega
  have dg : ∀ pl lo hi p2 q, 1 ≤ lo → sp_digits T pl lo hi p2 = .ok q → p2 + 2 ≤ q.2 := by
    intro pl lo hi p2 q hlo hq
    have d := sp_digits_ok hT hlo (ns := ns) hq
    obtain ⟨d1, d2, d3, d4, d5, d6⟩ := d
    have el := end_le d4
    have ln : lx_end T p2 - p2 = (98 :: q.1.2.2.2.2.2).length := by rw [← d5, nm_len]
    have l1 : 1 ≤ q.1.2.2.2.2.2.length := (PW3 d1 d2).2.2.1
    simp only [List.length_cons] at ln
    have sk := skip_le T (T.2 - lx_end T p2) false (by omega)
    have : lx_nx T p2 = lx_skip T (T.2 - lx_end T p2) false := by unfold lx_nx; rw [if_pos d4]
    rw [d6]
    omega
  unfold sp_part at he
  split at he
  · unfold sp_longPart at he
    split at he
    · obtain ⟨a, h3, h4⟩ := eb_eq he
      obtain ⟨b, h5, h6⟩ := eb_eq h4
      have a1 := sp_num_ok h3
      have n1 := po_num h3
      have n2 := po_sign h5
      have n3 := dg _ _ _ _ _ (by omega) h6
      exact Or.inl (by omega)
    · obtain ⟨a, h3, h4⟩ := eb_eq he
      have q1 := net _ _ _ h3
      split at h4
      · cases h4; exact q1
      · obtain ⟨b, h5, h6⟩ := eb_eq h4
        have n2 := po_sign h5
        cases h6
        exact q1.on n2.1
  · unfold sp_shortPart at he
    split at he
    · rename_i hs
      have n2 := is_p hs
      have n3 := dg _ _ _ _ _ (by omega) he
      exact Or.inl (by omega)
    · exact net _ _ _ he
/-- the reference reads module number ms.length, m so far; n parts; the cursor at p -/
def RX (P : xP) (T : xT) (hv : Nat) (lng : Bool) (ms : List xMod) (m : xMod) (n : Nat) (σ : xS) (p : Nat) : Prop := TX P T hv σ ∧ RC P T σ p ∧ σ.I 1141 (P.base + 11) = nI ms.length ∧ ms.length < 8 ∧ (σ.AI (P.base + 24) hv = nI n ∧ RSl T n p) ∧ (∃ ni, RMc P σ T hv n (8 * hv + ms.length) m ni) ∧ WX lng m p ∧ DX lng ms m.pl ∧ ∀ k m', ms[k]? = some m' → RMd P σ T hv n (8 * hv + k) m'
theorem RMc.fl {P : xP} {T : xT} {hv n M ni : Nat} {σ σ' : xS} {m : xMod} (h : RMc P σ T hv n M m ni) (f : FL P σ σ') : RMc P σ' T hv n M m ni := by
  have e : σ'.AI = σ.AI := f.2.2.2.2.1
  unfold RMc RNs RNet RAs RIs RIn RLk RRef at *
  rw [e]
  exact h
theorem RMd.fl {P : xP} {T : xT} {hv n M : Nat} {σ σ' : xS} {m : xMod} (h : RMd P σ T hv n M m) (f : FL P σ σ') : RMd P σ' T hv n M m := RMc.fl h f
theorem RX.fl {P : xP} {T : xT} {hv : Nat} {lng : Bool} {ms : List xMod} {m : xMod} {n : Nat} {σ σ' : xS} {p p' : Nat} (h : RX P T hv lng ms m n σ p) (f : FL P σ σ') (c : RC P T σ' p') (hp : p ≤ p') : RX P T hv lng ms m n σ' p' := by
  obtain ⟨h1, h2, h3, h4, ⟨h5, h6⟩, ⟨ni, h7⟩, h8, h9, h10⟩ := h
  have e : σ'.AI = σ.AI := f.2.2.2.2.1
  exact ⟨h1.fl f, c, (f.2.2.2.2.2.2.2.2.2 1141 _ (by omega)).trans h3, h4, ⟨by rw [e]; exact h5, h6.le hp⟩, ⟨ni, h7.fl f⟩, h8.up hp, h9, fun k m' hm' => (h10 k m' hm').fl f⟩
theorem RX.net {P : xP} {T : xT} {hv : Nat} {lng : Bool} {ms : List xMod} {m : xMod} {n : Nat} {σ : xS} {p : Nat} (h : RX P T hv lng ms m n σ p) {j : Nat} {x : xNet} (hj : m.nets[j]? = some x) : RNet P σ T (16 * (8 * hv + ms.length) + j) x := by
  obtain ⟨h1, h2, h3, h4, h5, ⟨ni, h7⟩, h8⟩ := h
  exact h7.2.1 j x hj
theorem rw_mod {P : xP} {T : xT} {hv k : Nat} {σ : xS} (h : TX P T hv σ) (hm : σ.I 1141 (P.base + 11) = nI k) : dm_X12_mod P (P.base + 11) σ = some (.inl (nI (8 * hv + k)), σ) := by
  have a0 := ri_0 h.1
  have hh := h.2.2.2.1
  unfold dm_X12_mod
  simp (disch := first | assumption | omega) [ck_T, sm_s, bd_l, bd_r, lt_e, eq_self, and_self, if_true, true_and, and_true, lit_nI, nI_add, nI_mul, nI_sub, nI_clamp, nI_eq, nI_ltI, nI_leI, nN_e, nI_nN, nN_nI, bI_0, bI_1, bI_n, bool_0, bool_1, in_T, lg_cmp0, ofN_nI, a0, hh, hm]
theorem rw_netCell {P : xP} {T : xT} {hv k : Nat} {σ : xS} (h : TX P T hv σ) (hm : σ.I 1141 (P.base + 11) = nI k) (j : Nat) : dm_X12_netCell P (P.base + 11) (nI j) σ = some (.inl (nI (16 * (8 * hv + k) + j)), σ) := by
  have a0 := ri_0 h.1
  have md := rw_mod h hm
  unfold dm_X12_netCell
  simp (disch := first | assumption | omega) [ck_T, sm_s, bd_l, bd_r, lt_e, eq_self, and_self, if_true, true_and, and_true, lit_nI, nI_add, nI_mul, nI_sub, nI_clamp, nI_eq, nI_ltI, nI_leI, nN_e, nI_nN, nN_nI, bI_0, bI_1, bI_n, bool_0, bool_1, in_T, lg_cmp0, ofN_nI, a0, md]
/-- where a name is -/
def fIx (ns : List xNet) (nm : List Nat) : Int32 := match ns.findIdx? (fun x => decide (x.1 = nm)) with
  | none => nN
  | some i => nI i
theorem fIx_snoc {l : List xNet} {x : xNet} {nm : List Nat} (hd : ((l ++ [x]).map fun x => x.1).Nodup) : fIx (l ++ [x]) nm = if x.1 = nm then nI l.length else fIx l nm := by
  unfold fIx
  rw [List.findIdx?_append]
  by_cases e : x.1 = nm
  · rw [if_pos e]
    have : l.findIdx? (fun x => decide (x.1 = nm)) = none := by
      rw [List.findIdx?_eq_none_iff]
      intro y hy
      simp only [decide_eq_false_iff_not]
      intro z
      rw [List.map_append, List.nodup_append] at hd
      exact hd.2.2 y.1 (List.mem_map.mpr ⟨y, hy, rfl⟩) x.1 (by simp) (z.trans e.symm)
    rw [this]
    simp [List.findIdx?_cons, e]
  · rw [if_neg e]
    cases z : l.findIdx? (fun x => decide (x.1 = nm)) with
    | none => simp [List.findIdx?_cons, e]
    | some i => simp
theorem rw_netNamedL {P : xP} {T : xT} {hv : Nat} {lng : Bool} {ms : List xMod} {m : xMod} {n : Nat} {σ : xS} {p q : Nat} {nm : List Nat} (h : RX P T hv lng ms m n σ p) (hq : NmAt T q nm) : ∀ (r j f : Nat), j + r = m.nets.length → r < f → dm_X12_netNamed_L4 P (P.base + 11) f (nI q) (fIx (m.nets.take j) nm) (nI j) σ = some (.inl (fIx m.nets nm), σ) := by
  obtain ⟨h1, h2, h3, h4, ⟨h5, h6⟩, ⟨ni, h7⟩, h8, h9, h10⟩ := h
  have a0 := ri_0 h1.1
  have a19 := ri_19 h1.1
  have a20 := ri_20 h1.1
  have a21 := ri_21 h1.1
  have a22 := ri_22 h1.1
  have a23 := ri_23 h1.1
  have a24 := ri_24 h1.1
  have hv1 := h1.2.2.1
  have md := rw_mod h1 h3
  have cnt := h7.1.2.2.2.1
  have l16 := h8.2.2.2.1.1
  have nd := h8.1.2.2.2.2
  intro r
  induction r with
  | zero =>
    intro j f hj hf
    obtain ⟨f, rfl⟩ : ∃ m, f = m + 1 := ⟨f - 1, by omega⟩
    have e : m.nets.take j = m.nets := List.take_of_length_le (by omega)
    have e1 : m.nets.length ≤ j := by omega
    rw [e]
    unfold dm_X12_netNamed_L4
    simp (disch := first | assumption | omega) [ck_T, sm_s, bd_l, bd_r, lt_e, eq_self, and_self, if_true, true_and, and_true, lit_nI, nI_add, nI_mul, nI_sub, nI_clamp, nI_eq, nI_ltI, nI_leI, nN_e, nI_nN, nN_nI, bI_0, bI_1, bI_n, bool_0, bool_1, in_T, lg_cmp0, ofN_nI, a0, a19, a20, a21, md, cnt, e1, x_in, dlt_T]
  | succ r ih =>
    intro j f hj hf
    obtain ⟨f, rfl⟩ : ∃ m, f = m + 1 := ⟨f - 1, by omega⟩
    obtain ⟨x, hx⟩ : ∃ x, m.nets[j]? = some x := ⟨_, List.getElem?_eq_getElem (by omega)⟩
    have e1 : ¬ m.nets.length ≤ j := by omega
    have nc := rw_netCell h1 h3 j
    obtain ⟨⟨y, y1, y2⟩, -⟩ := h7.2.1 j x hx
    have sm := rw_areSame h1 y2 hq
    have et : m.nets.take (j + 1) = m.nets.take j ++ [x] := by rw [List.take_succ, hx]; rfl
    have nd2 : ((m.nets.take j ++ [x]).map fun x => x.1).Nodup := by
      rw [← et, List.map_take]
      exact nd.sublist (List.take_sublist _ _)
    have fs := fIx_snoc (nm := nm) nd2
    have ihh := ih (j + 1) f (by omega) (by omega)
    rw [et, fs] at ihh
    have lt : (m.nets.take j).length = j := by rw [List.length_take]; omega
    rw [lt] at ihh
    conv => lhs; unfold dm_X12_netNamed_L4 dm_X12_netNamed_p40
    by_cases e : x.1 = nm
    · rw [decide_eq_true e] at sm
      rw [if_pos e] at ihh
      simp (disch := first | assumption | omega) [ck_T, sm_s, bd_l, bd_r, lt_e, eq_self, and_self, if_true, true_and, and_true, lit_nI, nI_add, nI_mul, nI_sub, nI_clamp, nI_eq, nI_ltI, nI_leI, nN_e, nI_nN, nN_nI, bI_0, bI_1, bI_n, bool_0, bool_1, in_T, lg_cmp0, ofN_nI, a0, a19, a20, a21, a22, a23, a24, md, nc, cnt, e1, x_in, dlt_T, y1, sm, bI_tt, ihh]
    · rw [decide_eq_false e] at sm
      rw [if_neg e] at ihh
      simp (disch := first | assumption | omega) [ck_T, sm_s, bd_l, bd_r, lt_e, eq_self, and_self, if_true, true_and, and_true, lit_nI, nI_add, nI_mul, nI_sub, nI_clamp, nI_eq, nI_ltI, nI_leI, nN_e, nI_nN, nN_nI, bI_0, bI_1, bI_n, bool_0, bool_1, in_T, lg_cmp0, ofN_nI, a0, a19, a20, a21, a22, a23, a24, md, nc, cnt, e1, x_in, dlt_T, y1, sm, bI_ff, ihh]
theorem rw_netNamed {P : xP} {T : xT} {hv : Nat} {lng : Bool} {ms : List xMod} {m : xMod} {n : Nat} {σ : xS} {p q : Nat} {nm : List Nat} (h : RX P T hv lng ms m n σ p) (hq : NmAt T q nm) : dm_X12_netNamed P (P.base + 11) (nI q) σ = some (.inl (fIx m.nets nm), σ) := by
  have hN := h.1.2.2.2.2.2.2
  have l16 := h.2.2.2.2.2.2.1.2.2.2.1.1
  exact rw_netNamedL h hq m.nets.length 0 P.N (by omega) (by omega)
theorem fIx_N {ns : List xNet} {nm : List Nat} (hl : ns.length < 2 ^ 31) : fIx ns nm = nN ↔ sp_find ns nm = none := by
  unfold fIx sp_find
  cases e : ns.findIdx? (fun x => decide (x.1 = nm)) with
  | none =>
    simp only [true_iff]
    rw [List.findIdx?_eq_none_iff] at e
    rw [List.find?_eq_none]
    intro x hx
    have := e x hx
    simp only [decide_eq_false_iff_not] at this
    simpa using this
  | some i =>
    rw [List.findIdx?_eq_some_iff_getElem] at e
    obtain ⟨e1, e2, e3⟩ := e
    have : ¬ nI i = nN := by
      rw [nI_nN (by omega)]
      simp
    simp only [this, false_iff]
    intro z
    rw [List.find?_eq_none] at z
    exact z _ (List.getElem_mem e1) e2
theorem fIx_S {ns : List xNet} {nm : List Nat} {x : xNet} (h : sp_find ns nm = some x) : ∃ j, fIx ns nm = nI j ∧ ns[j]? = some x ∧ j = ns.findIdx (fun x => decide (x.1 = nm)) := by
  have fi := find_idx h
  have lt := get_lt fi
  refine ⟨ns.findIdx fun x => decide (x.1 = nm), ?_, fi, rfl⟩
  unfold fIx
  have : ns.findIdx? (fun x => decide (x.1 = nm)) = some (ns.findIdx fun x => decide (x.1 = nm)) := by
    rw [List.findIdx?_eq_some_iff_findIdx_eq]
    exact ⟨lt, rfl⟩
  rw [this]
