/-! ===== the reference: bits, links, letters ===== -/
theorem tS_e (P : xP) (σ : xS) (b : Nat) : σ.setI 1100 (P.base + 11) (nI b) = tS P σ b := of_eq_true (eq_self _)
theorem idx_nodup {ns : List xNet} (hd : (ns.map fun x => x.1).Nodup) {j : Nat} {y : xNet} (hj : ns[j]? = some y) : (ns.findIdx fun x => decide (x.1 = y.1)) = j := by
  have h1 := find_idx (find_nodup hd hj)
  have e : (ns.map fun x => x.1)[ns.findIdx fun x => decide (x.1 = y.1)]? = (ns.map fun x => x.1)[j]? := by
    rw [List.getElem?_map, List.getElem?_map, h1, hj]
  exact (List.getElem?_inj (by rw [List.length_map]; exact get_lt h1) hd).mp e
theorem rw_bitOf {P : xP} {T : xT} {hv : Nat} {lng : Bool} {ms : List xMod} {n k r bit : Nat} {σ : xS} {m : xMod} {x : xPart} (h : RU P T hv lng ms n σ) (hm : ms[k]? = some m) (hr : RRef P σ T hv n m.nets r x) (hw : PW m.nets x) (hb : bit < sp_w x) : dm_X12_bitOf P (P.base + 11) (nI (8 * hv + k)) (nI r) (nI bit) σ = some (.inl (sp_bit m x bit), σ) := by
  have r0 := h.ri
  obtain ⟨b1, b2, b3, b4, b5⟩ := h.b
  have q1 := h.2
  have kl := get_lt hm
  have wm := h.wx hm
  have w1 := wm.2.2.2.1.1
  obtain ⟨⟨ra, rb⟩, c2, c3, c4, c5, c6⟩ := hr
  have rN : ¬ nI r = nN := by rw [nI_nN (by omega)]; simp
  unfold dm_X12_bitOf dm_X12_refPlaceOf dm_X12_bitOf_p57 dm_X12_bitOf_p99 sp_bit
  rcases hw with ⟨w1, w2, w3, w4, w5, w6, w7⟩ | ⟨w1, w2, y, w3, w4, w5, w6, w7, w8⟩
  · obtain ⟨d, d1, d2, d3⟩ := c4 w1
    have ew : sp_w x = x.2.2.2.2.2.length := by unfold sp_w; omega
    rw [ew] at hb
    rw [w1] at c2
    rw [if_pos w1]
    obtain ⟨g1, g2⟩ := d2.get (i := x.2.2.2.2.2.length - bit) (by simp; omega)
    have tx := h.1.1.1.2.2.2.2.1 _ g2
    have tv := h.1.1.1.2.1.2 _ g2
    have gd : x.2.2.2.2.2.getD (x.2.2.2.2.2.length - 1 - bit) 0 = T.1 (d + (x.2.2.2.2.2.length - bit)) := by
      rw [List.getD_eq_getElem?_getD]
      rw [show x.2.2.2.2.2.length - bit = (x.2.2.2.2.2.length - 1 - bit) + 1 by omega, List.getElem?_cons_succ] at g1
      rw [g1, show (x.2.2.2.2.2.length - 1 - bit) + 1 = x.2.2.2.2.2.length - bit by omega]
      rfl
    rw [gd]
    have ix : 1000 * hv + d + x.2.2.2.2.2.length - bit = 1000 * hv + (d + (x.2.2.2.2.2.length - bit)) := by omega
    by_cases e : T.1 (d + (x.2.2.2.2.2.length - bit)) = 49
    · rw [e] at tx
      rw [if_pos e]
      simp (disch := first | assumption | omega) [ck_T, sm_s, bd_l, bd_r, lt_e, eq_self, and_self, if_true, true_and, and_true, lit_nI, nI_add, nI_mul, nI_sub, nI_clamp, nI_eq, nI_ltI, nI_leI, nN_e, nI_nN, nN_nI, bI_0, bI_1, bI_n, bool_0, bool_1, in_T, lg_cmp0, ofN_nI, ri_0 r0, ri_43 r0, ri_44 r0, ri_45 r0, ri_49 r0, ri_50 r0, ri_51 r0, ri_52 r0, ri_53 r0, ri_54 r0, ri_4 r0, ri_5 r0, ri_6 r0, rN, c2, d1, d3, q1, ix, tx, x_in, dlt_T, dle_T]
    · rw [if_neg e]
      simp (disch := first | assumption | omega) [ck_T, sm_s, bd_l, bd_r, lt_e, eq_self, and_self, if_true, true_and, and_true, lit_nI, nI_add, nI_mul, nI_sub, nI_clamp, nI_eq, nI_ltI, nI_leI, nN_e, nI_nN, nN_nI, bI_0, bI_1, bI_n, bool_0, bool_1, in_T, lg_cmp0, ofN_nI, ri_0 r0, ri_43 r0, ri_44 r0, ri_45 r0, ri_49 r0, ri_50 r0, ri_51 r0, ri_52 r0, ri_53 r0, ri_54 r0, ri_4 r0, ri_5 r0, ri_6 r0, rN, c2, d1, d3, q1, ix, tx, e, x_in, dlt_T, dle_T]
  · have n3 : ¬ x.1 = 3 := by omega
    rw [if_neg n3]
    obtain ⟨j, j1, j2, j3⟩ := c5 n3
    cases ej : m.nets[j]? with
    | none => rw [ej] at j3; cases j3
    | some z =>
      rw [ej] at j3
      simp only [Option.map_some, Option.some.injEq] at j3
      have ix := idx_nodup wm.1.2.2.2.2 ej
      have jl := get_lt ej
      have f1 := (h.1.2.2.2 k m hm).2.1 j jl
      have fb := fb_le wm.2.1.1 j (by omega)
      have y8 := (wm.2.1.1 y (sp_find_mem w3).1).2.2.1
      have sb : sp_w x ≤ 8 := by
        have := (wm.2.1.1 y (sp_find_mem w3).1).2.2.2 w4
        unfold sp_w; omega
      unfold sp_first
      rw [← j3, ix]
      by_cases e0 : x.1 = 0
      · obtain ⟨f2, f3⟩ := w7 e0
        rw [e0] at c2
        rw [f3]
        simp (disch := first | assumption | omega) [ck_T, sm_s, bd_l, bd_r, lt_e, eq_self, and_self, if_true, true_and, and_true, lit_nI, nI_add, nI_mul, nI_sub, nI_clamp, nI_eq, nI_ltI, nI_leI, nN_e, nI_nN, nN_nI, bI_0, bI_1, bI_n, bool_0, bool_1, in_T, lg_cmp0, ofN_nI, ri_0 r0, ri_43 r0, ri_44 r0, ri_45 r0, ri_46 r0, ri_47 r0, ri_48 r0, ri_31 r0, ri_32 r0, ri_33 r0, rN, c2, j1, f1, x_in, dlt_T, dle_T]
      · obtain ⟨g1, g2⟩ := c6 (by omega)
        have cc : ¬ nI x.1 = nI 0 := by rw [nI_eq (by omega) (by omega)]; exact e0
        have c3' : ¬ nI x.1 = nI 3 := by rw [nI_eq (by omega) (by omega)]; exact n3
        have ar : sp_fb m.nets j + bit + x.2.2.2.2.1 = sp_fb m.nets j + x.2.2.2.2.1 + bit := by omega
        simp (disch := first | assumption | omega) [ck_T, sm_s, bd_l, bd_r, lt_e, eq_self, and_self, if_true, true_and, and_true, lit_nI, nI_add, nI_mul, nI_sub, nI_clamp, nI_eq, nI_ltI, nI_leI, nN_e, nI_nN, nN_nI, bI_0, bI_1, bI_n, bool_0, bool_1, in_T, lg_cmp0, ofN_nI, ri_0 r0, ri_43 r0, ri_44 r0, ri_45 r0, ri_46 r0, ri_47 r0, ri_48 r0, ri_31 r0, ri_32 r0, ri_33 r0, ri_52 r0, ri_53 r0, ri_54 r0, rN, c2, j1, f1, cc, c3', e0, n3, g2, ar, x_in, dlt_T, dle_T]
theorem rw_bitN {P : xP} {σ : xS} (a b : Int32) : dm_X12_bitOf P (P.base + 11) a nN b σ = some (.inl nN, σ) := by
  unfold dm_X12_bitOf
  simp (disch := first | assumption | omega) [ck_T, sm_s, bd_l, bd_r, lt_e, eq_self, and_self, if_true, true_and, and_true, lit_nI, nI_add, nI_mul, nI_sub, nI_clamp, nI_eq, nI_ltI, nI_leI, nN_e, nI_nN, nN_nI, bI_0, bI_1, bI_n, bool_0, bool_1, in_T, lg_cmp0, ofN_nI]
theorem set_back {P : xP} {σ : xS} {f : Nat} {v : Int32} : (σ.setI f (P.base + 11) v).setI f (P.base + 11) (σ.I f (P.base + 11)) = σ := by
  have e : x_up2 (x_up2 σ.I f (P.base + 11) v) f (P.base + 11) (σ.I f (P.base + 11)) = σ.I := by
    funext k a
    by_cases z : k = f ∧ a = P.base + 11
    · obtain ⟨rfl, rfl⟩ := z
      simp [q_up2, q_up]
    · rw [up2_ne z, up2_ne z]
  show (σ.K, x_up2 (x_up2 σ.I f (P.base + 11) v) f (P.base + 11) (σ.I f (P.base + 11)), σ.J, σ.R, σ.L, σ.AI, σ.AJ, σ.AR, σ.sz, σ.su) = _
  rw [e]
  rfl
theorem RLk.rv {P : xP} {σ : xS} {T : xT} {hv n c : Nat} {ns : List xNet} {byN : Bool} {l : xLnk} (h : RLk P σ T hv n ns byN c l) : RV P σ T hv n ns l.2.2 (σ.AI (P.base + 39) c) := by
  have h1 := h.1
  cases e : l.2.2 with
  | none => rw [e] at h1; exact h1
  | some x => rw [e] at h1; exact h1
theorem rw_lo72 {P : xP} {T : xT} {hv : Nat} {lng : Bool} {ms : List xMod} {n k j q : Nat} {σ : xS} {m : xMod} {i : xIns} {nm : List Nat} (h : RU P T hv lng ms n σ) (hm : ms[k]? = some m) (hi : m.ins[j]? = some i) (hb : i.2.2.2.1 = true) (hh : σ.I 1140 (P.base + 11) = nI hv) (hq : NmAt T q nm) (kp : Int32) : ∀ (r t F : Nat) (v : Int32), t + r = i.2.2.2.2.length → r < F → ∃ v', dm_X12_linkOf_L72 P (P.base + 11) F (nI (12 * (8 * hv + k) + j)) v (nI q) kp (nI t) σ = some (.inl v', σ.setI 1140 (P.base + 11) kp) ∧ match (i.2.2.2.2.drop t).find? (fun l => decide (l.1 = nm)) with
    | none => v' = v
    | some l => RV P σ T hv n m.nets l.2.2 v' := by
  have r0 := h.ri
  obtain ⟨b1, b2, b3, b4, b5⟩ := h.b
  have kl := get_lt hm
  have jl := get_lt hi
  have wm := h.wx hm
  have w3 := wm.2.2.2.1.2.2
  have ix := (wm.2.2.2.2.1.2.2 i (List.mem_of_getElem? hi)).2
  have i16 := ix.2.1
  have nd := ix.2.2.1 hb
  obtain ⟨-, -, -, -, q5, q6⟩ := (h.rm hm).2.2.2 j i hi
  have tx := h.1.1.1.tx hh
  intro r
  induction r with
  | zero =>
    intro t F v ht hF
    obtain ⟨F, rfl⟩ : ∃ m, F = m + 1 := ⟨F - 1, by omega⟩
    have e : i.2.2.2.2.drop t = [] := List.drop_eq_nil_of_le (by omega)
    have e1 : i.2.2.2.2.length ≤ t := by omega
    refine ⟨v, ?_, by rw [e]; rfl⟩
    unfold dm_X12_linkOf_L72
    simp (disch := first | assumption | omega) [ck_T, sm_s, bd_l, bd_r, lt_e, eq_self, and_self, if_true, true_and, and_true, lit_nI, nI_add, nI_mul, nI_sub, nI_clamp, nI_eq, nI_ltI, nI_leI, nN_e, nI_nN, nN_nI, bI_0, bI_1, bI_n, bool_0, bool_1, in_T, lg_cmp0, ofN_nI, ri_0 r0, ri_79 r0, ri_80 r0, ri_81 r0, q5, e1, x_in, dlt_T, dle_T]
  | succ r ih =>
    intro t F v ht hF
    obtain ⟨F, rfl⟩ : ∃ m, F = m + 1 := ⟨F - 1, by omega⟩
    have e1 : ¬ i.2.2.2.2.length ≤ t := by omega
    obtain ⟨l, hl⟩ : ∃ l, i.2.2.2.2[t]? = some l := ⟨_, List.getElem?_eq_getElem (by omega)⟩
    have rl := q6 t l hl
    obtain ⟨p1, p2⟩ := rl.2.1 hb
    have sm := rw_areSame tx p2 hq
    rw [drop_at hl]
    by_cases e : l.1 = nm
    · rw [decide_eq_true e] at sm
      obtain ⟨v', g1, g2⟩ := ih (t + 1) F (σ.AI (P.base + 39) (16 * (12 * (8 * hv + k) + j) + t)) (by omega) (by omega)
      have fn : (i.2.2.2.2.drop (t + 1)).find? (fun l => decide (l.1 = nm)) = none := by
        rw [List.find?_eq_none]
        intro y hy
        simp only [decide_eq_true_eq]
        intro z
        have nd2 : ((i.2.2.2.2.drop t).map fun x => x.1).Nodup := by
          rw [List.map_drop]
          exact nd.sublist (List.drop_sublist _ _)
        rw [drop_at hl, List.map_cons, List.nodup_cons] at nd2
        exact nd2.1 (List.mem_map.mpr ⟨y, hy, z.trans e.symm⟩)
      rw [fn] at g2
      simp only at g2
      refine ⟨v', ?_, ?_⟩
      · rw [← g1]
        conv => lhs; unfold dm_X12_linkOf_L72 dm_X12_linkOf_p120
        simp (disch := first | assumption | omega) [ck_T, sm_s, bd_l, bd_r, lt_e, eq_self, and_self, if_true, true_and, and_true, lit_nI, nI_add, nI_mul, nI_sub, nI_clamp, nI_eq, nI_ltI, nI_leI, nN_e, nI_nN, nN_nI, bI_0, bI_1, bI_n, bool_0, bool_1, in_T, lg_cmp0, ofN_nI, ri_0 r0, ri_79 r0, ri_80 r0, ri_81 r0, ri_85 r0, ri_86 r0, ri_87 r0, ri_82 r0, ri_83 r0, ri_84 r0, q5, e1, p1, sm, bI_tt, x_in, dlt_T, dle_T]
      · rw [List.find?_cons_of_pos (by simpa using e)]
        simp only
        rw [g2]
        exact rl.rv
    · rw [decide_eq_false e] at sm
      obtain ⟨v', g1, g2⟩ := ih (t + 1) F v (by omega) (by omega)
      refine ⟨v', ?_, ?_⟩
      · rw [← g1]
        conv => lhs; unfold dm_X12_linkOf_L72 dm_X12_linkOf_p120
        simp (disch := first | assumption | omega) [ck_T, sm_s, bd_l, bd_r, lt_e, eq_self, and_self, if_true, true_and, and_true, lit_nI, nI_add, nI_mul, nI_sub, nI_clamp, nI_eq, nI_ltI, nI_leI, nN_e, nI_nN, nN_nI, bI_0, bI_1, bI_n, bool_0, bool_1, in_T, lg_cmp0, ofN_nI, ri_0 r0, ri_79 r0, ri_80 r0, ri_81 r0, ri_85 r0, ri_86 r0, ri_87 r0, ri_82 r0, ri_83 r0, ri_84 r0, q5, e1, p1, sm, bI_ff, x_in, dlt_T, dle_T]
      · rw [List.find?_cons_of_neg (by simpa using e)]
        exact g2
theorem rw_linkOf {P : xP} {T : xT} {hv : Nat} {lng : Bool} {ms : List xMod} {n k j p : Nat} {σ : xS} {m : xMod} {i : xIns} (h : RU P T hv lng ms n σ) (hm : ms[k]? = some m) (hi : m.ins[j]? = some i) (hp : p < pn_cnt ms i) : ∃ v, dm_X12_linkOf P (P.base + 11) (nI (12 * (8 * hv + k) + j)) (nI p) σ = some (.inl v, σ) ∧ RV P σ T hv n m.nets (pn_pt ms i p) v := by
  have r0 := h.ri
  obtain ⟨b1, b2, b3, b4, b5⟩ := h.b
  have q1 := h.2
  have kl := get_lt hm
  have jl := get_lt hi
  have wm := h.wx hm
  have w3 := wm.2.2.2.1.2.2
  have im := List.mem_of_getElem? hi
  have ix := (wm.2.2.2.2.1.2.2 i im).2
  have i16 := ix.2.1
  have o1 := (h.1.2.2.2 k m hm).1 j i hi
  obtain ⟨-, -, -, q4, q5, q6⟩ := (h.rm hm).2.2.2 j i hi
  have c16 := (rw_pins h hm hi).2
  have ord : ∀ l, i.2.2.2.2[p]? = some l → RV P σ T hv n m.nets ((i.2.2.2.2[p]?).bind fun l => l.2.2) (σ.AI (P.base + 39) (16 * (12 * (8 * hv + k) + j) + p)) := by
    intro l hl
    rw [hl]
    exact (q6 p l hl).rv
  rcases pn_get (ms := ms) (i := i) with ⟨s1, s2⟩ | ⟨jj, o, s1, s2, s3⟩
  · rw [mIx_N s1] at o1
    unfold pn_cnt at hp
    rw [s2] at hp
    simp only at hp
    unfold pn_pt
    rw [s2]
    obtain ⟨l, hl⟩ : ∃ l, i.2.2.2.2[p]? = some l := ⟨_, List.getElem?_eq_getElem hp⟩
    refine ⟨_, ?_, ord l hl⟩
    unfold dm_X12_linkOf dm_X12_linkOf_p19
    simp (disch := first | assumption | omega) [ck_T, sm_s, bd_l, bd_r, lt_e, eq_self, and_self, if_true, true_and, and_true, lit_nI, nI_add, nI_mul, nI_sub, nI_clamp, nI_eq, nI_ltI, nI_leI, nN_e, nI_nN, nN_nI, bI_0, bI_1, bI_n, bool_0, bool_1, in_T, lg_cmp0, ofN_nI, ri_0 r0, ri_76 r0, ri_77 r0, ri_78 r0, ri_82 r0, ri_83 r0, ri_84 r0, o1, x_in, dlt_T, dle_T]
  · rw [mIx_S s1] at o1
    have jjl := get_lt s2
    have nk : ¬ nI jj = nN := by rw [nI_nN (by omega)]; simp
    unfold pn_cnt at hp
    rw [s3] at hp
    unfold pn_pt
    rw [s3]
    simp only at hp ⊢
    cases eb : i.2.2.2.1 with
    | false =>
      rw [eb] at q4
      have ml := mis_len h.1.2.1 (List.mem_of_getElem? hm) im h.1.1.2.2.1 (by omega) s1 s2 eb
      obtain ⟨l, hl⟩ : ∃ l, i.2.2.2.2[p]? = some l := ⟨_, List.getElem?_eq_getElem (by omega)⟩
      rw [if_neg (by simp)]
      refine ⟨_, ?_, ord l hl⟩
      unfold dm_X12_linkOf dm_X12_linkOf_p19
      simp (disch := first | assumption | omega) [ck_T, sm_s, bd_l, bd_r, lt_e, eq_self, and_self, if_true, true_and, and_true, lit_nI, nI_add, nI_mul, nI_sub, nI_clamp, nI_eq, nI_ltI, nI_leI, nN_e, nI_nN, nN_nI, bI_0, bI_1, bI_n, bool_0, bool_1, in_T, lg_cmp0, ofN_nI, ri_0 r0, ri_76 r0, ri_77 r0, ri_78 r0, ri_82 r0, ri_83 r0, ri_84 r0, ri_73 r0, ri_74 r0, ri_75 r0, o1, nk, q4, bI_ff, x_in, dlt_T, dle_T]
    | true =>
      rw [eb] at q4
      rw [if_pos rfl]
      obtain ⟨x, hx⟩ : ∃ x, o.ports[p]? = some x := ⟨_, List.getElem?_eq_getElem hp⟩
      have pn : o.ports.length ≤ o.nets.length := by unfold xMod.nets; simp
      have hx' : o.nets[p]? = some x := by unfold xMod.nets; rw [List.getElem?_append_left (by omega)]; exact hx
      obtain ⟨⟨q, y1, y2⟩, -⟩ := (h.rm s2).2.1 p x hx'
      have o16 := (h.wx s2).2.2.2.1.1
      rw [hx]
      simp only
      have hu : RU P T hv lng ms n (σ.setI 1140 (P.base + 11) (nI hv)) := h.setI (by omega)
      obtain ⟨v', g1, g2⟩ := rw_lo72 hu hm hi eb (by simp [q_K_setI, q_I_setI, q_J_setI, q_R_setI, q_L_setI, q_AI_setI, q_AJ_setI, q_AR_setI, q_sz_setI, q_su_setI, q_K_setJ, q_I_setJ, q_J_setJ, q_R_setJ, q_L_setJ, q_AI_setJ, q_AJ_setJ, q_AR_setJ, q_sz_setJ, q_su_setJ, q_K_setR, q_I_setR, q_J_setR, q_R_setR, q_L_setR, q_AI_setR, q_AJ_setR, q_AR_setR, q_sz_setR, q_su_setR, q_K_setAI, q_I_setAI, q_J_setAI, q_R_setAI, q_L_setAI, q_AI_setAI, q_AJ_setAI, q_AR_setAI, q_sz_setAI, q_su_setAI, q_K_setAJ, q_I_setAJ, q_J_setAJ, q_R_setAJ, q_L_setAJ, q_AI_setAJ, q_AJ_setAJ, q_AR_setAJ, q_sz_setAJ, q_su_setAJ, q_K_setAR, q_I_setAR, q_J_setAR, q_R_setAR, q_L_setAR, q_AI_setAR, q_AJ_setAR, q_AR_setAR, q_sz_setAR, q_su_setAR, q_K_newO, q_I_newO, q_J_newO, q_R_newO, q_L_newO, q_AI_newO, q_AJ_newO, q_AR_newO, q_sz_newO, q_su_newO, q_K_newA, q_I_newA, q_J_newA, q_R_newA, q_L_newA, q_AI_newA, q_AJ_newA, q_AR_newA, q_sz_newA, q_su_newA, q_K_skip, q_I_skip, q_J_skip, q_R_skip, q_L_skip, q_AI_skip, q_AJ_skip, q_AR_skip, q_sz_skip, q_su_skip, q_up2, q_up]) y2 (σ.I 1140 (P.base + 11)) i.2.2.2.2.length 0 P.N nN (by omega) (by omega)
      rw [set_back] at g1
      rw [List.drop_zero] at g2
      refine ⟨v', ?_, ?_⟩
      · rw [← g1]
        conv => lhs; unfold dm_X12_linkOf dm_X12_of
        simp (disch := first | assumption | omega) [ck_T, sm_s, bd_l, bd_r, lt_e, eq_self, and_self, if_true, true_and, and_true, lit_nI, nI_add, nI_mul, nI_sub, nI_clamp, nI_eq, nI_ltI, nI_leI, nN_e, nI_nN, nN_nI, bI_0, bI_1, bI_n, bool_0, bool_1, in_T, lg_cmp0, ofN_nI, ri_0 r0, ri_76 r0, ri_77 r0, ri_78 r0, ri_73 r0, ri_74 r0, ri_75 r0, ri_22 r0, ri_23 r0, ri_24 r0, o1, nk, q4, q1, y1, bI_tt, x_in, dlt_T, dle_T]
      · cases ef : i.2.2.2.2.find? (fun l => decide (l.1 = x.1)) with
        | none => rw [ef] at g2; exact g2
        | some l =>
          rw [ef] at g2
          exact g2
theorem pt_mem {ms : List xMod} {i : xIns} {p : Nat} {r : xPart} (h : pn_pt ms i p = some r) : ∃ l ∈ i.2.2.2.2, l.2.2 = some r := by
  have a1 : ∀ o : Option xLnk, (∀ l, o = some l → l ∈ i.2.2.2.2) → (o.bind fun l => l.2.2) = some r → ∃ l ∈ i.2.2.2.2, l.2.2 = some r := by
    intro o ho hb
    cases o with
    | none => cases hb
    | some l => exact ⟨l, ho l rfl, hb⟩
  unfold pn_pt at h
  split at h
  · exact a1 _ (fun l hl => List.mem_of_getElem? hl) h
  · split at h
    · split at h
      · cases h
      · exact a1 _ (fun l hl => List.mem_of_find?_eq_some hl) h
    · exact a1 _ (fun l hl => List.mem_of_getElem? hl) h
theorem rw_pinWidth {P : xP} {T : xT} {hv : Nat} {lng : Bool} {ms : List xMod} {n k j p : Nat} {σ : xS} {m : xMod} {i : xIns} (h : RU P T hv lng ms n σ) (hm : ms[k]? = some m) (hi : m.ins[j]? = some i) (hp : p < pn_cnt ms i) : dm_X12_pinWidth P (P.base + 11) (nI (8 * hv + k)) (nI (12 * (8 * hv + k) + j)) (nI p) σ = some (.inl (nI (pn_w ms i p)), σ) ∧ pn_w ms i p ≤ 8 := by
  have r0 := h.ri
  obtain ⟨b1, b2, b3, b4, b5⟩ := h.b
  have q1 := h.2
  have kl := get_lt hm
  have jl := get_lt hi
  have wm := h.wx hm
  have w3 := wm.2.2.2.1.2.2
  have im := List.mem_of_getElem? hi
  have ix := (wm.2.2.2.2.1.2.2 i im).2
  have i16 := ix.2.1
  have o1 := (h.1.2.2.2 k m hm).1 j i hi
  obtain ⟨-, -, -, q4, q5, q6⟩ := (h.rm hm).2.2.2 j i hi
  unfold dm_X12_pinWidth dm_X12_pinWidth_p65 dm_X12_of
  rcases pn_get (ms := ms) (i := i) with ⟨s1, s2⟩ | ⟨jj, o, s1, s2, s3⟩
  · rw [mIx_N s1] at o1
    unfold pn_cnt at hp
    rw [s2] at hp
    unfold pn_w
    rw [s2]
    simp only at hp ⊢
    obtain ⟨l, hl⟩ : ∃ l, i.2.2.2.2[p]? = some l := ⟨_, List.getElem?_eq_getElem hp⟩
    have rv := (q6 p l hl).1
    rw [hl]
    unfold pn_lw
    simp only
    cases el : l.2.2 with
    | none =>
      rw [el] at rv
      simp only at rv
      refine ⟨?_, by simp⟩
      simp (disch := first | assumption | omega) [ck_T, sm_s, bd_l, bd_r, lt_e, eq_self, and_self, if_true, true_and, and_true, lit_nI, nI_add, nI_mul, nI_sub, nI_clamp, nI_eq, nI_ltI, nI_leI, nN_e, nI_nN, nN_nI, bI_0, bI_1, bI_n, bool_0, bool_1, in_T, lg_cmp0, ofN_nI, ri_0 r0, ri_76 r0, ri_77 r0, ri_78 r0, ri_82 r0, ri_83 r0, ri_84 r0, o1, rv, x_in, dlt_T, dle_T]
    | some x =>
      rw [el] at rv
      obtain ⟨r, z1, z2⟩ := rv
      have rb := z2.1
      have rN : ¬ nI r = nN := by rw [nI_nN (by omega)]; simp
      have pw := wm.1.2.1 i im l (List.mem_of_getElem? hl) x el
      obtain ⟨rw1, rw2⟩ := rw_refWidth (v1 := nI hv) r0 b1 (M := 8 * hv + k) (by omega) (by omega) z2 pw (h.rm hm).2.1 wm.1.2.2.2.2 wm.2.1.1 wm.2.2.2.1.1
      refine ⟨?_, rw2⟩
      simp (disch := first | assumption | omega) [ck_T, sm_s, bd_l, bd_r, lt_e, eq_self, and_self, if_true, true_and, and_true, lit_nI, nI_add, nI_mul, nI_sub, nI_clamp, nI_eq, nI_ltI, nI_leI, nN_e, nI_nN, nN_nI, bI_0, bI_1, bI_n, bool_0, bool_1, in_T, lg_cmp0, ofN_nI, ri_0 r0, ri_76 r0, ri_77 r0, ri_78 r0, ri_82 r0, ri_83 r0, ri_84 r0, o1, z1, rN, q1, rw1, x_in, dlt_T, dle_T]
  · rw [mIx_S s1] at o1
    have jjl := get_lt s2
    have nk : ¬ nI jj = nN := by rw [nI_nN (by omega)]; simp
    unfold pn_cnt at hp
    rw [s3] at hp
    unfold pn_w
    rw [s3]
    simp only at hp ⊢
    obtain ⟨x, hx⟩ : ∃ x, o.ports[p]? = some x := ⟨_, List.getElem?_eq_getElem hp⟩
    have pn : o.ports.length ≤ o.nets.length := by unfold xMod.nets; simp
    have hx' : o.nets[p]? = some x := by unfold xMod.nets; rw [List.getElem?_append_left (by omega)]; exact hx
    have o16 := (h.wx s2).2.2.2.1.1
    have wd := ((h.rm s2).2.1 p x hx').2.2.1
    have x8 := ((h.wx s2).2.1.1 x (List.mem_of_getElem? hx')).2.2.1
    rw [hx]
    simp only
    refine ⟨?_, x8⟩
    simp (disch := first | assumption | omega) [ck_T, sm_s, bd_l, bd_r, lt_e, eq_self, and_self, if_true, true_and, and_true, lit_nI, nI_add, nI_mul, nI_sub, nI_clamp, nI_eq, nI_ltI, nI_leI, nN_e, nI_nN, nN_nI, bI_0, bI_1, bI_n, bool_0, bool_1, in_T, lg_cmp0, ofN_nI, ri_0 r0, ri_76 r0, ri_77 r0, ri_78 r0, ri_28 r0, ri_29 r0, ri_30 r0, o1, nk, q1, wd, x_in, dlt_T, dle_T]
theorem rw_joined {P : xP} {T : xT} {hv : Nat} {lng : Bool} {ms : List xMod} {n : Nat} {σ : xS} (h : RU P T hv lng ms n σ) (a k p b : Int32) : RAns P σ (dm_X12_joined P (P.base + 11) a k p b σ) (aq_joined ms a k p b) := by
  have r0 := h.ri
  obtain ⟨b1, b2, b3, b4, b5⟩ := h.b
  have q1 := h.2
  have im := rw_isInstance h a k
  have no : ∀ (v1 v3 v4 v6 : Int32), dm_X12_joined_p87 P (P.base + 11) v1 v3 v4 v6 (some (P.base + 11)) σ = some (.inl (nI 0), tS P σ 1) := by
    intro v1 v3 v4 v6
    unfold dm_X12_joined_p87 dm_X12_joined_p88 dm_X12_joined_p120 tS
    simp (disch := first | assumption | omega) [ck_T, sm_s, bd_l, bd_r, lt_e, eq_self, and_self, if_true, true_and, and_true, lit_nI, nI_add, nI_mul, nI_sub, nI_clamp, nI_eq, nI_ltI, nI_leI, nN_e, nI_nN, nN_nI, bI_0, bI_1, bI_n, bool_0, bool_1, in_T, lg_cmp0, ofN_nI, q_K_setI, q_I_setI, q_J_setI, q_R_setI, q_L_setI, q_AI_setI, q_AJ_setI, q_AR_setI, q_sz_setI, q_su_setI, q_K_setJ, q_I_setJ, q_J_setJ, q_R_setJ, q_L_setJ, q_AI_setJ, q_AJ_setJ, q_AR_setJ, q_sz_setJ, q_su_setJ, q_K_setR, q_I_setR, q_J_setR, q_R_setR, q_L_setR, q_AI_setR, q_AJ_setR, q_AR_setR, q_sz_setR, q_su_setR, q_K_setAI, q_I_setAI, q_J_setAI, q_R_setAI, q_L_setAI, q_AI_setAI, q_AJ_setAI, q_AR_setAI, q_sz_setAI, q_su_setAI, q_K_setAJ, q_I_setAJ, q_J_setAJ, q_R_setAJ, q_L_setAJ, q_AI_setAJ, q_AJ_setAJ, q_AR_setAJ, q_sz_setAJ, q_su_setAJ, q_K_setAR, q_I_setAR, q_J_setAR, q_R_setAR, q_L_setAR, q_AI_setAR, q_AJ_setAR, q_AR_setAR, q_sz_setAR, q_su_setAR, q_K_newO, q_I_newO, q_J_newO, q_R_newO, q_L_newO, q_AI_newO, q_AJ_newO, q_AR_newO, q_sz_newO, q_su_newO, q_K_newA, q_I_newA, q_J_newA, q_R_newA, q_L_newA, q_AI_newA, q_AJ_newA, q_AR_newA, q_sz_newA, q_su_newA, q_K_skip, q_I_skip, q_J_skip, q_R_skip, q_L_skip, q_AI_skip, q_AJ_skip, q_AR_skip, q_sz_skip, q_su_skip, q_up2, q_up, ri_0 r0]
  have no2 : ∀ (v1 v3 v4 v6 : Int32), dm_X12_joined_p52 P (P.base + 11) v1 v3 v4 v6 σ = some (.inl (nI 0), tS P σ 1) := by
    intro v1 v3 v4 v6
    unfold dm_X12_joined_p52 dm_X12_joined_p53
    rw [if_pos rfl, no]
  unfold dm_X12_joined dm_X12_joined_p27 aq_joined dm_X12_of
  cases e : aq_at ms xMod.ins a k with
  | none =>
    rw [e] at im
    show _ = _
    simp (disch := first | assumption | omega) [ck_T, sm_s, bd_l, bd_r, lt_e, eq_self, and_self, if_true, true_and, and_true, lit_nI, nI_add, nI_mul, nI_sub, nI_clamp, nI_eq, nI_ltI, nI_leI, nN_e, nI_nN, nN_nI, bI_0, bI_1, bI_n, bool_0, bool_1, in_T, lg_cmp0, ofN_nI, ri_0 r0, im, bI_ff, no2]
  | some q =>
    rcases at_cases ms xMod.ins a k with ⟨e1, e2⟩ | ⟨i, m, rfl, e2, e3, z⟩
    · rw [e] at e2; cases e2
    · rcases z with ⟨z1, z2⟩ | ⟨j, z1, rfl, z3, z4⟩ | ⟨j, x, rfl, z2, z3⟩
      · rw [e] at z2; cases z2
      · rw [e] at z4; cases z4
      · rw [e] at im z3
        cases z3
        simp only
        have il := get_lt e2
        have jl := get_lt z2
        have w3 := (h.wx e2).2.2.2.1.2.2
        obtain ⟨ps, p16⟩ := rw_pins h e2 z2
        rcases i32_cases p with ⟨y1, y2⟩ | ⟨pp, y1, rfl, y3⟩
        · rw [y2]
          show _ = _
          simp (disch := first | assumption | omega) [ck_T, sm_s, bd_l, bd_r, lt_e, eq_self, and_self, if_true, true_and, and_true, lit_nI, nI_add, nI_mul, nI_sub, nI_clamp, nI_eq, nI_ltI, nI_leI, nN_e, nI_nN, nN_nI, bI_0, bI_1, bI_n, bool_0, bool_1, in_T, lg_cmp0, ofN_nI, ri_0 r0, im, q1, bI_tt, y1, no2]
        · rw [y3]
          simp only
          by_cases g : pn_cnt ms x ≤ pp
          · rw [if_neg (by omega)]
            have n0 : ¬ nI pp < nI 0 := by rw [nI_ltI (by omega) (by omega)]; omega
            show _ = _
            simp (disch := first | assumption | omega) [ck_T, sm_s, bd_l, bd_r, lt_e, eq_self, and_self, if_true, true_and, and_true, lit_nI, nI_add, nI_mul, nI_sub, nI_clamp, nI_eq, nI_ltI, nI_leI, nN_e, nI_nN, nN_nI, bI_0, bI_1, bI_n, bool_0, bool_1, in_T, lg_cmp0, ofN_nI, ri_0 r0, im, q1, bI_tt, n0, ps, g, no2]
          · rw [if_pos (by omega)]
            obtain ⟨pw, p8⟩ := rw_pinWidth h e2 z2 (show pp < pn_cnt ms x by omega)
            unfold dm_X12_joined_p53 dm_X12_of
            rcases i32_cases b with ⟨u1, u2⟩ | ⟨bb, u1, rfl, u3⟩
            · rw [u2]
              show _ = _
              simp (disch := first | assumption | omega) [ck_T, sm_s, bd_l, bd_r, lt_e, eq_self, and_self, if_true, true_and, and_true, lit_nI, nI_add, nI_mul, nI_sub, nI_clamp, nI_eq, nI_ltI, nI_leI, nN_e, nI_nN, nN_nI, bI_0, bI_1, bI_n, bool_0, bool_1, in_T, lg_cmp0, ofN_nI, ri_0 r0, im, q1, bI_tt, ps, g, u1, no]
            · rw [u3]
              simp only
              by_cases g2 : pn_w ms x pp ≤ bb
              · rw [if_neg (by omega)]
                have n0 : ¬ nI bb < nI 0 := by rw [nI_ltI (by omega) (by omega)]; omega
                show _ = _
                simp (disch := first | assumption | omega) [ck_T, sm_s, bd_l, bd_r, lt_e, eq_self, and_self, if_true, true_and, and_true, lit_nI, nI_add, nI_mul, nI_sub, nI_clamp, nI_eq, nI_ltI, nI_leI, nN_e, nI_nN, nN_nI, bI_0, bI_1, bI_n, bool_0, bool_1, in_T, lg_cmp0, ofN_nI, ri_0 r0, im, q1, bI_tt, ps, g, n0, pw, g2, no]
              · rw [if_pos (by omega)]
                have h0 : RU P T hv lng ms n (tS P σ 0) := h.setI (by omega)
                obtain ⟨v, l1, l2⟩ := rw_linkOf h0 e2 z2 (show pp < pn_cnt ms x by omega)
                have bo : dm_X12_bitOf P (P.base + 11) (nI (8 * hv + i)) v (nI bb) (tS P σ 0) = some (.inl (match pn_pt ms x pp with
                    | none => nN
                    | some r => sp_bit m r bb), tS P σ 0) := by
                  cases er : pn_pt ms x pp with
                  | none =>
                    rw [er] at l2
                    rw [show v = nN from l2]
                    exact rw_bitN _ _
                  | some r =>
                    rw [er] at l2
                    obtain ⟨rr, y4, y5⟩ := l2
                    subst y4
                    obtain ⟨l, l3, l4⟩ := pt_mem er
                    have wl := pn_wle h.1.2.1 (List.mem_of_getElem? e2) (List.mem_of_getElem? z2) h.1.1.2.2.1 (by omega) (show pp < pn_cnt ms x by omega) er
                    exact rw_bitOf h0 e2 y5 ((h.wx e2).1.2.1 x (List.mem_of_getElem? z2) l l3 r l4) (by omega)
                show _ = _
                have fin : ∀ v6, v6 = nI (12 * (8 * hv + i) + j) → dm_X12_joined_p88 P (P.base + 11) (nI i) (nI pp) (nI bb) v6 (some (P.base + 11)) (nI 0) σ = some (.inl (match pn_pt ms x pp with
                    | none => nN
                    | some r => sp_bit m r bb), tS P σ 0) := by
                  intro v6 hv6
                  subst hv6
                  have q1' : (tS P σ 0).I 1103 (P.base + 11) = nI hv := h0.2
                  have k1 : (tS P σ 0).K (P.base + 11) = 12 := ri_0 r0
                  have z0 : (tS P σ 0).I 1100 (P.base + 11) = nI 0 := tS_I
                  unfold dm_X12_joined_p88 dm_X12_of dm_X12_joined_p120
                  simp (disch := first | assumption | omega) [tS_e, ck_T, sm_s, bd_l, bd_r, lt_e, eq_self, and_self, if_true, true_and, and_true, lit_nI, nI_add, nI_mul, nI_sub, nI_clamp, nI_eq, nI_ltI, nI_leI, nN_e, nI_nN, nN_nI, bI_0, bI_1, bI_n, bool_0, bool_1, in_T, lg_cmp0, ofN_nI, ri_0 r0, k1, z0, q1', l1, bo]
                have f1 := fin _ rfl
                simp (disch := first | assumption | omega) [ck_T, sm_s, bd_l, bd_r, lt_e, eq_self, and_self, if_true, true_and, and_true, lit_nI, nI_add, nI_mul, nI_sub, nI_clamp, nI_eq, nI_ltI, nI_leI, nN_e, nI_nN, nN_nI, bI_0, bI_1, bI_n, bool_0, bool_1, in_T, lg_cmp0, ofN_nI, ri_0 r0, im, q1, bI_tt, ps, g, pw, g2, f1]
                cases pn_pt ms x pp <;> rfl
theorem rw_assign {P : xP} {T : xT} {hv : Nat} {lng : Bool} {ms : List xMod} {n : Nat} {σ : xS} (h : RU P T hv lng ms n σ) (a k s b : Int32) : RAns P σ (dm_X12_assign P (P.base + 11) a k s b σ) (aq_asg ms a k s b) := by
  have r0 := h.ri
  obtain ⟨b1, b2, b3, b4, b5⟩ := h.b
  have q1 := h.2
  have im := rw_isModule h a
  have no : ∀ (v1 v4 v6 : Int32), dm_X12_assign_p137 P (P.base + 11) v1 v4 v6 (some (P.base + 11)) σ = some (.inl (nI 0), tS P σ 1) := by
    intro v1 v4 v6
    unfold dm_X12_assign_p137 dm_X12_assign_p138 dm_X12_assign_p165 tS
    simp (disch := first | assumption | omega) [ck_T, sm_s, bd_l, bd_r, lt_e, eq_self, and_self, if_true, true_and, and_true, lit_nI, nI_add, nI_mul, nI_sub, nI_clamp, nI_eq, nI_ltI, nI_leI, nN_e, nI_nN, nN_nI, bI_0, bI_1, bI_n, bool_0, bool_1, in_T, lg_cmp0, ofN_nI, q_K_setI, q_I_setI, q_J_setI, q_R_setI, q_L_setI, q_AI_setI, q_AJ_setI, q_AR_setI, q_sz_setI, q_su_setI, q_K_setJ, q_I_setJ, q_J_setJ, q_R_setJ, q_L_setJ, q_AI_setJ, q_AJ_setJ, q_AR_setJ, q_sz_setJ, q_su_setJ, q_K_setR, q_I_setR, q_J_setR, q_R_setR, q_L_setR, q_AI_setR, q_AJ_setR, q_AR_setR, q_sz_setR, q_su_setR, q_K_setAI, q_I_setAI, q_J_setAI, q_R_setAI, q_L_setAI, q_AI_setAI, q_AJ_setAI, q_AR_setAI, q_sz_setAI, q_su_setAI, q_K_setAJ, q_I_setAJ, q_J_setAJ, q_R_setAJ, q_L_setAJ, q_AI_setAJ, q_AJ_setAJ, q_AR_setAJ, q_sz_setAJ, q_su_setAJ, q_K_setAR, q_I_setAR, q_J_setAR, q_R_setAR, q_L_setAR, q_AI_setAR, q_AJ_setAR, q_AR_setAR, q_sz_setAR, q_su_setAR, q_K_newO, q_I_newO, q_J_newO, q_R_newO, q_L_newO, q_AI_newO, q_AJ_newO, q_AR_newO, q_sz_newO, q_su_newO, q_K_newA, q_I_newA, q_J_newA, q_R_newA, q_L_newA, q_AI_newA, q_AJ_newA, q_AR_newA, q_sz_newA, q_su_newA, q_K_skip, q_I_skip, q_J_skip, q_R_skip, q_L_skip, q_AI_skip, q_AJ_skip, q_AR_skip, q_sz_skip, q_su_skip, q_up2, q_up, ri_0 r0]
  have no2 : ∀ (v1 v2 v3 v4 : Int32), dm_X12_assign_p51 P (P.base + 11) v1 v2 v3 v4 σ = some (.inl (nI 0), tS P σ 1) := by
    intro v1 v2 v3 v4
    unfold dm_X12_assign_p51 dm_X12_assign_p52 dm_X12_assign_p100
    rw [if_pos rfl, if_pos rfl, no]
  unfold dm_X12_assign dm_X12_assign_p31 aq_asg dm_X12_of
  rcases at_cases ms xMod.asg a k with ⟨e1, e2⟩ | ⟨i, m, rfl, e2, e3, z⟩
  · rw [e1] at im
    rw [e2]
    show _ = _
    simp (disch := first | assumption | omega) [ck_T, sm_s, bd_l, bd_r, lt_e, eq_self, and_self, if_true, true_and, and_true, lit_nI, nI_add, nI_mul, nI_sub, nI_clamp, nI_eq, nI_ltI, nI_leI, nN_e, nI_nN, nN_nI, bI_0, bI_1, bI_n, bool_0, bool_1, in_T, lg_cmp0, ofN_nI, ri_0 r0, im, bI_ff, no2]
  · rw [e3] at im
    have il := get_lt e2
    have a5 := (h.rm e2).1.2.2.2.2.1
    have wm := h.wx e2
    have w2 := wm.2.2.2.1.2.1
    rcases z with ⟨z1, z2⟩ | ⟨j, z1, rfl, z3, z4⟩ | ⟨j, x, rfl, z2, z3⟩
    · rw [z2]
      show _ = _
      simp (disch := first | assumption | omega) [ck_T, sm_s, bd_l, bd_r, lt_e, eq_self, and_self, if_true, true_and, and_true, lit_nI, nI_add, nI_mul, nI_sub, nI_clamp, nI_eq, nI_ltI, nI_leI, nN_e, nI_nN, nN_nI, bI_0, bI_1, bI_n, bool_0, bool_1, in_T, lg_cmp0, ofN_nI, ri_0 r0, im, z1, bI_tt, no2]
    · rw [z4]
      have n0 : ¬ nI j < nI 0 := by rw [nI_ltI (by omega) (by omega)]; omega
      show _ = _
      simp (disch := first | assumption | omega) [ck_T, sm_s, bd_l, bd_r, lt_e, eq_self, and_self, if_true, true_and, and_true, lit_nI, nI_add, nI_mul, nI_sub, nI_clamp, nI_eq, nI_ltI, nI_leI, nN_e, nI_nN, nN_nI, bI_0, bI_1, bI_n, bool_0, bool_1, in_T, lg_cmp0, ofN_nI, ri_0 r0, ri_55 r0, ri_56 r0, ri_57 r0, im, n0, q1, a5, z3, x_in, dlt_T, dle_T, bI_tt, no2]
    · rw [z3]
      simp only
      have jl := get_lt z2
      have e4 : ¬ m.asg.length ≤ j := by omega
      obtain ⟨r1, r2, c1, c2, c3, c4⟩ := (h.rm e2).2.2.1 j x z2
      have pw := wm.1.1 x (List.mem_of_getElem? z2)
      have h0 : RU P T hv lng ms n (tS P σ 0) := h.setI (by omega)
      have fin : ∀ (r : Nat) (y : xPart), RRef P σ T hv n m.nets r y → PW m.nets y → RAns P σ (dm_X12_assign_p100 P (P.base + 11) (nI i) b (nI 1) (nI r) σ) (match aI b with
          | none => none
          | some bit => if bit < sp_w y then some (sp_bit m y bit) else none) := by
        intro r y hr hw
        obtain ⟨x1, x2⟩ := rw_refWidth (v1 := nI hv) r0 b1 (M := 8 * hv + i) (by omega) (by omega) hr hw (h.rm e2).2.1 wm.1.2.2.2.2 wm.2.1.1 wm.2.2.2.1.1
        unfold dm_X12_assign_p100 dm_X12_of
        rcases i32_cases b with ⟨u1, u2⟩ | ⟨bb, u1, rfl, u3⟩
        · rw [u2]
          show _ = _
          simp (disch := first | assumption | omega) [ck_T, sm_s, bd_l, bd_r, lt_e, eq_self, and_self, if_true, true_and, and_true, lit_nI, nI_add, nI_mul, nI_sub, nI_clamp, nI_eq, nI_ltI, nI_leI, nN_e, nI_nN, nN_nI, bI_0, bI_1, bI_n, bool_0, bool_1, in_T, lg_cmp0, ofN_nI, ri_0 r0, u1, no]
        · rw [u3]
          simp only
          by_cases g2 : sp_w y ≤ bb
          · rw [if_neg (show ¬ bb < sp_w y by omega)]
            have n0 : ¬ nI bb < nI 0 := by rw [nI_ltI (by omega) (by omega)]; omega
            show _ = _
            simp (disch := first | assumption | omega) [ck_T, sm_s, bd_l, bd_r, lt_e, eq_self, and_self, if_true, true_and, and_true, lit_nI, nI_add, nI_mul, nI_sub, nI_clamp, nI_eq, nI_ltI, nI_leI, nN_e, nI_nN, nN_nI, bI_0, bI_1, bI_n, bool_0, bool_1, in_T, lg_cmp0, ofN_nI, ri_0 r0, q1, n0, x1, g2, no]
          · rw [if_pos (show bb < sp_w y by omega)]
            have hr0 : RRef P (tS P σ 0) T hv n m.nets r y := hr
            have bo := rw_bitOf h0 e2 hr0 hw (show bb < sp_w y by omega)
            have q1' : (tS P σ 0).I 1103 (P.base + 11) = nI hv := h0.2
            have k1 : (tS P σ 0).K (P.base + 11) = 12 := ri_0 r0
            have z0 : (tS P σ 0).I 1100 (P.base + 11) = nI 0 := tS_I
            have f1 : dm_X12_assign_p138 P (P.base + 11) (nI i) (nI bb) (nI r) (some (P.base + 11)) (nI 0) σ = some (.inl (sp_bit m y bb), tS P σ 0) := by
              unfold dm_X12_assign_p138 dm_X12_of dm_X12_assign_p165
              simp (disch := first | assumption | omega) [tS_e, ck_T, sm_s, bd_l, bd_r, lt_e, eq_self, and_self, if_true, true_and, and_true, lit_nI, nI_add, nI_mul, nI_sub, nI_clamp, nI_eq, nI_ltI, nI_leI, nN_e, nI_nN, nN_nI, bI_0, bI_1, bI_n, bool_0, bool_1, in_T, lg_cmp0, ofN_nI, ri_0 r0, k1, z0, q1', bo]
            show _ = _
            simp (disch := first | assumption | omega) [ck_T, sm_s, bd_l, bd_r, lt_e, eq_self, and_self, if_true, true_and, and_true, lit_nI, nI_add, nI_mul, nI_sub, nI_clamp, nI_eq, nI_ltI, nI_leI, nN_e, nI_nN, nN_nI, bI_0, bI_1, bI_n, bool_0, bool_1, in_T, lg_cmp0, ofN_nI, ri_0 r0, q1, x1, g2, f1]
      by_cases s0 : s = nI 0
      · subst s0
        rw [if_pos (Or.inl rfl), if_pos rfl]
        have f1 := fin r1 x.1 c3 pw.1
        have st : (x_chk (σ.K (P.base + 11) = 12) <| x_bind (dm_X12_isModule P (P.base + 11) (nI i) σ) (fun v_1 σ_2 => if v_1 = 0 then dm_X12_assign_p51 P (P.base + 11) (nI i) (nI j) (nI 0) b σ_2 else if nI j < 0 then dm_X12_assign_p51 P (P.base + 11) (nI i) (nI j) (nI 0) b σ_2 else dm_X12_assign_p52 P (P.base + 11) (nI i) (nI j) (nI 0) b 1 σ_2) (fun E σ_2 => some (.inr E, σ_2))) = dm_X12_assign_p100 P (P.base + 11) (nI i) b (nI 1) (nI r1) σ := by
          unfold dm_X12_assign_p52 dm_X12_of
          simp (disch := first | assumption | omega) [ck_T, sm_s, bd_l, bd_r, lt_e, eq_self, and_self, if_true, true_and, and_true, lit_nI, nI_add, nI_mul, nI_sub, nI_clamp, nI_eq, nI_ltI, nI_leI, nN_e, nI_nN, nN_nI, bI_0, bI_1, bI_n, bool_0, bool_1, in_T, lg_cmp0, ofN_nI, ri_0 r0, ri_58 r0, ri_59 r0, ri_60 r0, im, bI_tt, q1, c1, x_in, dlt_T, dle_T]
        rw [← st] at f1
        simp (disch := first | assumption | omega) [ck_T, sm_s, bd_l, bd_r, lt_e, eq_self, and_self, if_true, true_and, and_true, lit_nI, nI_add, nI_mul, nI_sub, nI_clamp, nI_eq, nI_ltI, nI_leI, nN_e, nI_nN, nN_nI, bI_0, bI_1, bI_n, bool_0, bool_1, in_T, lg_cmp0, ofN_nI, ri_0 r0, ri_55 r0, ri_56 r0, ri_57 r0, im, bI_tt, q1, a5, e4, x_in, dlt_T, dle_T, dm_X12_assign_p47] at f1 ⊢
        exact f1
      · by_cases s1 : s = nI 1
        · subst s1
          rw [if_pos (Or.inr rfl), if_neg s0]
          have f1 := fin r2 x.2 c4 pw.2
          have st : (x_chk (σ.K (P.base + 11) = 12) <| x_bind (dm_X12_isModule P (P.base + 11) (nI i) σ) (fun v_1 σ_2 => if v_1 = 0 then dm_X12_assign_p51 P (P.base + 11) (nI i) (nI j) (nI 1) b σ_2 else if nI j < 0 then dm_X12_assign_p51 P (P.base + 11) (nI i) (nI j) (nI 1) b σ_2 else dm_X12_assign_p52 P (P.base + 11) (nI i) (nI j) (nI 1) b 1 σ_2) (fun E σ_2 => some (.inr E, σ_2))) = dm_X12_assign_p100 P (P.base + 11) (nI i) b (nI 1) (nI r2) σ := by
            unfold dm_X12_assign_p52 dm_X12_of
            simp (disch := first | assumption | omega) [ck_T, sm_s, bd_l, bd_r, lt_e, eq_self, and_self, if_true, true_and, and_true, lit_nI, nI_add, nI_mul, nI_sub, nI_clamp, nI_eq, nI_ltI, nI_leI, nN_e, nI_nN, nN_nI, bI_0, bI_1, bI_n, bool_0, bool_1, in_T, lg_cmp0, ofN_nI, ri_0 r0, ri_61 r0, ri_62 r0, ri_63 r0, im, bI_tt, q1, c2, x_in, dlt_T, dle_T]
          rw [← st] at f1
          simp (disch := first | assumption | omega) [ck_T, sm_s, bd_l, bd_r, lt_e, eq_self, and_self, if_true, true_and, and_true, lit_nI, nI_add, nI_mul, nI_sub, nI_clamp, nI_eq, nI_ltI, nI_leI, nN_e, nI_nN, nN_nI, bI_0, bI_1, bI_n, bool_0, bool_1, in_T, lg_cmp0, ofN_nI, ri_0 r0, ri_55 r0, ri_56 r0, ri_57 r0, im, bI_tt, q1, a5, e4, x_in, dlt_T, dle_T, dm_X12_assign_p47] at f1 ⊢
          exact f1
        · rw [if_neg (by intro z; rcases z with z | z; exact s0 z; exact s1 z)]
          show _ = _
          simp (disch := first | assumption | omega) [ck_T, sm_s, bd_l, bd_r, lt_e, eq_self, and_self, if_true, true_and, and_true, lit_nI, nI_add, nI_mul, nI_sub, nI_clamp, nI_eq, nI_ltI, nI_leI, nN_e, nI_nN, nN_nI, bI_0, bI_1, bI_n, bool_0, bool_1, in_T, lg_cmp0, ofN_nI, ri_0 r0, ri_55 r0, ri_56 r0, ri_57 r0, im, bI_tt, q1, a5, e4, s0, s1, x_in, dlt_T, dle_T, no2]
theorem rw_p179 {P : xP} {T : xT} {hv : Nat} {lng : Bool} {ms : List xMod} {n q j : Nat} {σ : xS} {l : List Nat} (h : RU P T hv lng ms n σ) (hq : NmAt T q l) (hj : j < 2 ^ 31) : dm_X12_letter_p179 P (P.base + 11) (nI j) (nI q) σ = some (.inl (match l[j]? with
    | none => nN
    | some c => nI c), σ) := by
  have r0 := h.ri
  obtain ⟨b1, b2, b3, b4, b5⟩ := h.b
  have q1 := h.2
  have ln := rw_length h.1.1.1 hq
  have l8 := hq.le8
  unfold dm_X12_letter_p179 dm_X12_letter_p219
  by_cases e : l.length ≤ j
  · rw [List.getElem?_eq_none e]
    simp (disch := first | assumption | omega) [ck_T, sm_s, bd_l, bd_r, lt_e, eq_self, and_self, if_true, true_and, and_true, lit_nI, nI_add, nI_mul, nI_sub, nI_clamp, nI_eq, nI_ltI, nI_leI, nN_e, nI_nN, nN_nI, bI_0, bI_1, bI_n, bool_0, bool_1, in_T, lg_cmp0, ofN_nI, ri_0 r0, q1, ln, e]
  · obtain ⟨g1, g2⟩ := hq.get (i := j) (by omega)
    have tx := h.1.1.1.2.2.2.2.1 _ g2
    have ix : 1000 * hv + q + j = 1000 * hv + (q + j) := by omega
    rw [g1]
    simp (disch := first | assumption | omega) [ck_T, sm_s, bd_l, bd_r, lt_e, eq_self, and_self, if_true, true_and, and_true, lit_nI, nI_add, nI_mul, nI_sub, nI_clamp, nI_eq, nI_ltI, nI_leI, nN_e, nI_nN, nN_nI, bI_0, bI_1, bI_n, bool_0, bool_1, in_T, lg_cmp0, ofN_nI, ri_0 r0, ri_4 r0, ri_5 r0, ri_6 r0, q1, ln, e, ix, tx, x_in, dlt_T, dle_T]
theorem rw_letter {P : xP} {T : xT} {hv : Nat} {lng : Bool} {ms : List xMod} {n : Nat} {σ : xS} (h : RU P T hv lng ms n σ) (s a b i : Int32) : RAns P σ (dm_X12_letter P (P.base + 11) s a b i σ) (aq_letter ms s a b i) := by
  have r0 := h.ri
  obtain ⟨b1, b2, b3, b4, b5⟩ := h.b
  have q1 := h.2
  have im := rw_isModule h a
  have ii := rw_isInstance h a b
  have h0 : RU P T hv lng ms n (tS P σ 0) := h.setI (by omega)
  have q1' : (tS P σ 0).I 1103 (P.base + 11) = nI hv := h0.2
  have k1 : (tS P σ 0).K (P.base + 11) = 12 := ri_0 r0
  have z0 : (tS P σ 0).I 1100 (P.base + 11) = nI 0 := tS_I
  have rt := h0.ri
  have no : ∀ (v1 v2 v3 v4 : Int32), dm_X12_letter_p75 P (P.base + 11) v1 v2 v3 v4 σ = some (.inl (nI 0), tS P σ 1) := by
    intro v1 v2 v3 v4
    unfold dm_X12_letter_p75 dm_X12_letter_p76 dm_X12_letter_p89 tS
    simp (disch := first | assumption | omega) [ck_T, sm_s, bd_l, bd_r, lt_e, eq_self, and_self, if_true, true_and, and_true, lit_nI, nI_add, nI_mul, nI_sub, nI_clamp, nI_eq, nI_ltI, nI_leI, nN_e, nI_nN, nN_nI, bI_0, bI_1, bI_n, bool_0, bool_1, in_T, lg_cmp0, ofN_nI, q_K_setI, q_I_setI, q_J_setI, q_R_setI, q_L_setI, q_AI_setI, q_AJ_setI, q_AR_setI, q_sz_setI, q_su_setI, q_K_setJ, q_I_setJ, q_J_setJ, q_R_setJ, q_L_setJ, q_AI_setJ, q_AJ_setJ, q_AR_setJ, q_sz_setJ, q_su_setJ, q_K_setR, q_I_setR, q_J_setR, q_R_setR, q_L_setR, q_AI_setR, q_AJ_setR, q_AR_setR, q_sz_setR, q_su_setR, q_K_setAI, q_I_setAI, q_J_setAI, q_R_setAI, q_L_setAI, q_AI_setAI, q_AJ_setAI, q_AR_setAI, q_sz_setAI, q_su_setAI, q_K_setAJ, q_I_setAJ, q_J_setAJ, q_R_setAJ, q_L_setAJ, q_AI_setAJ, q_AJ_setAJ, q_AR_setAJ, q_sz_setAJ, q_su_setAJ, q_K_setAR, q_I_setAR, q_J_setAR, q_R_setAR, q_L_setAR, q_AI_setAR, q_AJ_setAR, q_AR_setAR, q_sz_setAR, q_su_setAR, q_K_newO, q_I_newO, q_J_newO, q_R_newO, q_L_newO, q_AI_newO, q_AJ_newO, q_AR_newO, q_sz_newO, q_su_newO, q_K_newA, q_I_newA, q_J_newA, q_R_newA, q_L_newA, q_AI_newA, q_AJ_newA, q_AR_newA, q_sz_newA, q_su_newA, q_K_skip, q_I_skip, q_J_skip, q_R_skip, q_L_skip, q_AI_skip, q_AJ_skip, q_AR_skip, q_sz_skip, q_su_skip, q_up2, q_up, ri_0 r0]
  have no2 : ∀ (v1 v2 v3 v4 : Int32), dm_X12_letter_p26 P (P.base + 11) v1 v2 v3 v4 σ = some (.inl (nI 0), tS P σ 1) := by
    intro v1 v2 v3 v4
    unfold dm_X12_letter_p26 dm_X12_letter_p27
    rw [if_pos rfl, no]
  have nil : aq_m ms a = none → aq_nm ms s a b = none := by
    intro e
    have z : ∀ {α : Type} (f : xMod → List α), aq_at ms f a b = none := fun f => by unfold aq_at; rw [e]
    unfold aq_nm
    rw [e, z, z]
    simp
  rcases i32_cases i with ⟨u1, u2⟩ | ⟨j, u1, rfl, u3⟩
  · have e0 : aq_letter ms s a b i = none := by unfold aq_letter; rw [u2]
    rw [e0]
    show _ = _
    unfold dm_X12_letter
    cases e : aq_m ms a with
    | none =>
      rw [e] at im
      simp (disch := first | assumption | omega) [ck_T, sm_s, bd_l, bd_r, lt_e, eq_self, and_self, if_true, true_and, and_true, lit_nI, nI_add, nI_mul, nI_sub, nI_clamp, nI_eq, nI_ltI, nI_leI, nN_e, nI_nN, nN_nI, bI_0, bI_1, bI_n, bool_0, bool_1, in_T, lg_cmp0, ofN_nI, ri_0 r0, im, bI_ff, no2]
    | some q =>
      rw [e] at im
      simp (disch := first | assumption | omega) [ck_T, sm_s, bd_l, bd_r, lt_e, eq_self, and_self, if_true, true_and, and_true, lit_nI, nI_add, nI_mul, nI_sub, nI_clamp, nI_eq, nI_ltI, nI_leI, nN_e, nI_nN, nN_nI, bI_0, bI_1, bI_n, bool_0, bool_1, in_T, lg_cmp0, ofN_nI, ri_0 r0, im, bI_tt, u1, no2]
  · have e0 : aq_letter ms s a b (nI j) = match aq_nm ms s a b with
        | none => none
        | some l => some (match l[j]? with
          | none => nN
          | some c => nI c) := by unfold aq_letter; rw [u3]; cases aq_nm ms s a b <;> rfl
    rw [e0]
    have nj : ¬ nI j < nI 0 := by rw [nI_ltI (by omega) (by omega)]; omega
    rcases m_cases ms a with ⟨m1, m2⟩ | ⟨k, m1, rfl, m3, m2⟩ | ⟨k, m, rfl, m2, m3⟩
    · rw [nil m2]
      rw [m2] at im
      show _ = _
      unfold dm_X12_letter
      simp (disch := first | assumption | omega) [ck_T, sm_s, bd_l, bd_r, lt_e, eq_self, and_self, if_true, true_and, and_true, lit_nI, nI_add, nI_mul, nI_sub, nI_clamp, nI_eq, nI_ltI, nI_leI, nN_e, nI_nN, nN_nI, bI_0, bI_1, bI_n, bool_0, bool_1, in_T, lg_cmp0, ofN_nI, ri_0 r0, im, bI_ff, no2]
    · rw [nil m2]
      rw [m2] at im
      show _ = _
      unfold dm_X12_letter
      simp (disch := first | assumption | omega) [ck_T, sm_s, bd_l, bd_r, lt_e, eq_self, and_self, if_true, true_and, and_true, lit_nI, nI_add, nI_mul, nI_sub, nI_clamp, nI_eq, nI_ltI, nI_leI, nN_e, nI_nN, nN_nI, bI_0, bI_1, bI_n, bool_0, bool_1, in_T, lg_cmp0, ofN_nI, ri_0 r0, im, bI_ff, no2]
    · rw [m3] at im
      have kl := get_lt m2
      have wm := h.wx m2
      obtain ⟨⟨c1, c2, -, c4, -, c6⟩, c7, -, c9⟩ := h.rm m2
      rcases i32_cases s with ⟨s1, s2⟩ | ⟨w, s1, rfl, s3⟩
      · have nw : ∀ i, i < 2 ^ 31 → ¬ s = nI i := by
          intro i hi e
          rw [e, nI_ltI hi (by omega)] at s1
          omega
        have en : aq_nm ms s (nI k) b = none := by unfold aq_nm; rw [if_neg (nw 0 (by omega)), if_neg (nw 1 (by omega)), if_neg (nw 2 (by omega)), if_neg (nw 3 (by omega))]
        rw [en]
        show _ = _
        unfold dm_X12_letter
        simp (disch := first | assumption | omega) [ck_T, sm_s, bd_l, bd_r, lt_e, eq_self, and_self, if_true, true_and, and_true, lit_nI, nI_add, nI_mul, nI_sub, nI_clamp, nI_eq, nI_ltI, nI_leI, nN_e, nI_nN, nN_nI, bI_0, bI_1, bI_n, bool_0, bool_1, in_T, lg_cmp0, ofN_nI, ri_0 r0, im, bI_tt, nj, s1, no2]
      · by_cases g : 3 < w
        · have nw : ∀ i, i ≤ 3 → ¬ nI w = nI i := by
            intro i hi
            rw [nI_eq (by omega) (by omega)]
            omega
          have en : aq_nm ms (nI w) (nI k) b = none := by unfold aq_nm; rw [if_neg (nw 0 (by omega)), if_neg (nw 1 (by omega)), if_neg (nw 2 (by omega)), if_neg (nw 3 (by omega))]
          rw [en]
          show _ = _
          unfold dm_X12_letter
          simp (disch := first | assumption | omega) [ck_T, sm_s, bd_l, bd_r, lt_e, eq_self, and_self, if_true, true_and, and_true, lit_nI, nI_add, nI_mul, nI_sub, nI_clamp, nI_eq, nI_ltI, nI_leI, nN_e, nI_nN, nN_nI, bI_0, bI_1, bI_n, bool_0, bool_1, in_T, lg_cmp0, ofN_nI, ri_0 r0, im, bI_tt, nj, g, no2]
        · obtain rfl | rfl | rfl | rfl : w = 0 ∨ w = 1 ∨ w = 2 ∨ w = 3 := by omega
          · have en : aq_nm ms (nI 0) (nI k) b = some m.nm := by unfold aq_nm; rw [if_pos rfl, m3]; rfl
            rw [en]
            have fi := rw_p179 h0 c2 u1
            have c1' : (tS P σ 0).AI (P.base + 16) (8 * hv + k) = nI m.pl := c1
            show _ = _
            unfold dm_X12_letter dm_X12_letter_p27 dm_X12_letter_p57 dm_X12_letter_p71 dm_X12_letter_p76 dm_X12_letter_p89 dm_X12_of
            simp (disch := first | assumption | omega) [tS_e, ck_T, sm_s, bd_l, bd_r, lt_e, eq_self, and_self, if_true, true_and, and_true, lit_nI, nI_add, nI_mul, nI_sub, nI_clamp, nI_eq, nI_ltI, nI_leI, nN_e, nI_nN, nN_nI, bI_0, bI_1, bI_n, bool_0, bool_1, in_T, lg_cmp0, ofN_nI, ri_0 rt, ri_13 rt, ri_14 rt, ri_15 rt, ri_0 r0, im, bI_tt, nj, z0, q1', c1', fi, x_in, dlt_T, dle_T]
          · rcases at_cases ms xMod.nets (nI k) b with ⟨y1, y2⟩ | ⟨k2, m', y1, y2, y3, y⟩
            · rw [m3] at y1; cases y1
            · rw [m3] at y3
              cases y3
              have w1 := wm.2.2.2.1.1
              have e1 : aq_nm ms (nI 1) (nI k) b = (aq_at ms xMod.nets (nI k) b).map fun q => q.2.2.2.1 := by
                unfold aq_nm
                rw [if_neg (by decide), if_pos rfl]
              rw [e1]
              rcases y with ⟨y4, y5⟩ | ⟨jb, y4, rfl, y6, y7⟩ | ⟨jb, x, rfl, y5, y6⟩
              · rw [y5]
                show _ = _
                unfold dm_X12_letter dm_X12_letter_p27
                simp (disch := first | assumption | omega) [ck_T, sm_s, bd_l, bd_r, lt_e, eq_self, and_self, if_true, true_and, and_true, lit_nI, nI_add, nI_mul, nI_sub, nI_clamp, nI_eq, nI_ltI, nI_leI, nN_e, nI_nN, nN_nI, bI_0, bI_1, bI_n, bool_0, bool_1, in_T, lg_cmp0, ofN_nI, ri_0 r0, im, bI_tt, nj, y4, no]
              · rw [y7]
                have n0 : ¬ nI jb < nI 0 := by rw [nI_ltI (by omega) (by omega)]; omega
                show _ = _
                unfold dm_X12_letter dm_X12_letter_p27 dm_X12_of
                simp (disch := first | assumption | omega) [ck_T, sm_s, bd_l, bd_r, lt_e, eq_self, and_self, if_true, true_and, and_true, lit_nI, nI_add, nI_mul, nI_sub, nI_clamp, nI_eq, nI_ltI, nI_leI, nN_e, nI_nN, nN_nI, bI_0, bI_1, bI_n, bool_0, bool_1, in_T, lg_cmp0, ofN_nI, ri_0 r0, ri_19 r0, ri_20 r0, ri_21 r0, im, bI_tt, nj, n0, q1, c4, y6, x_in, dlt_T, dle_T, no]
              · rw [y6]
                have jl := get_lt y5
                have e4 : ¬ m.nets.length ≤ jb := by omega
                obtain ⟨⟨q, x1, x2⟩, -⟩ := c7 jb x y5
                have fi := rw_p179 h0 x2 u1
                have x1' : (tS P σ 0).AI (P.base + 19) (16 * (8 * hv + k) + jb) = nI q := x1
                show _ = _
                unfold dm_X12_letter dm_X12_letter_p27 dm_X12_letter_p57 dm_X12_letter_p71 dm_X12_letter_p76 dm_X12_letter_p89 dm_X12_of
                simp (disch := first | assumption | omega) [tS_e, ck_T, sm_s, bd_l, bd_r, lt_e, eq_self, and_self, if_true, true_and, and_true, lit_nI, nI_add, nI_mul, nI_sub, nI_clamp, nI_eq, nI_ltI, nI_leI, nN_e, nI_nN, nN_nI, bI_0, bI_1, bI_n, bool_0, bool_1, in_T, lg_cmp0, ofN_nI, ri_0 rt, ri_22 rt, ri_23 rt, ri_24 rt, ri_0 r0, ri_19 r0, ri_20 r0, ri_21 r0, im, bI_tt, nj, z0, q1, q1', c4, e4, x1', fi, x_in, dlt_T, dle_T]
          · have e1 : aq_nm ms (nI 2) (nI k) b = (aq_at ms xMod.ins (nI k) b).map fun q => q.2.2.2.2.1 := by
              unfold aq_nm
              rw [if_neg (by decide), if_neg (by decide), if_pos rfl]
            rw [e1]
            cases ea : aq_at ms xMod.ins (nI k) b with
            | none =>
              rw [ea] at ii
              show _ = _
              unfold dm_X12_letter dm_X12_letter_p27 dm_X12_letter_p57
              simp (disch := first | assumption | omega) [ck_T, sm_s, bd_l, bd_r, lt_e, eq_self, and_self, if_true, true_and, and_true, lit_nI, nI_add, nI_mul, nI_sub, nI_clamp, nI_eq, nI_ltI, nI_leI, nN_e, nI_nN, nN_nI, bI_0, bI_1, bI_n, bool_0, bool_1, in_T, lg_cmp0, ofN_nI, ri_0 r0, im, ii, bI_tt, bI_ff, nj, no]
            | some qq =>
              rw [ea] at ii
              rcases at_cases ms xMod.ins (nI k) b with ⟨y1, y2⟩ | ⟨k2, m', y1, y2, y3, y⟩
              · rw [ea] at y2; cases y2
              · rw [m3] at y3
                cases y3
                have w3 := wm.2.2.2.1.2.2
                rcases y with ⟨y4, y5⟩ | ⟨jb, y4, rfl, y6, y7⟩ | ⟨jb, x, rfl, y5, y6⟩
                · rw [ea] at y5; cases y5
                · rw [ea] at y7; cases y7
                · rw [ea] at y6
                  cases y6
                  have jl := get_lt y5
                  obtain ⟨-, x1, x2, -⟩ := c9 jb x y5
                  have fi := rw_p179 h0 x2 u1
                  have x1' : (tS P σ 0).AI (P.base + 35) (12 * (8 * hv + k) + jb) = nI x.2.2.1 := x1
                  show _ = _
                  unfold dm_X12_letter dm_X12_letter_p27 dm_X12_letter_p57 dm_X12_letter_p71 dm_X12_letter_p76 dm_X12_letter_p89 dm_X12_of
                  simp (disch := first | assumption | omega) [tS_e, ck_T, sm_s, bd_l, bd_r, lt_e, eq_self, and_self, if_true, true_and, and_true, lit_nI, nI_add, nI_mul, nI_sub, nI_clamp, nI_eq, nI_ltI, nI_leI, nN_e, nI_nN, nN_nI, bI_0, bI_1, bI_n, bool_0, bool_1, in_T, lg_cmp0, ofN_nI, ri_0 rt, ri_70 rt, ri_71 rt, ri_72 rt, ri_0 r0, im, ii, bI_tt, nj, z0, q1', x1', fi, x_in, dlt_T, dle_T]
          · have e1 : aq_nm ms (nI 3) (nI k) b = (aq_at ms xMod.ins (nI k) b).map fun q => q.2.2.2.1 := by
              unfold aq_nm
              rw [if_neg (by decide), if_neg (by decide), if_neg (by decide), if_pos rfl]
            rw [e1]
            cases ea : aq_at ms xMod.ins (nI k) b with
            | none =>
              rw [ea] at ii
              show _ = _
              unfold dm_X12_letter dm_X12_letter_p27 dm_X12_letter_p57
              simp (disch := first | assumption | omega) [ck_T, sm_s, bd_l, bd_r, lt_e, eq_self, and_self, if_true, true_and, and_true, lit_nI, nI_add, nI_mul, nI_sub, nI_clamp, nI_eq, nI_ltI, nI_leI, nN_e, nI_nN, nN_nI, bI_0, bI_1, bI_n, bool_0, bool_1, in_T, lg_cmp0, ofN_nI, ri_0 r0, im, ii, bI_tt, bI_ff, nj, no]
            | some qq =>
              rw [ea] at ii
              rcases at_cases ms xMod.ins (nI k) b with ⟨y1, y2⟩ | ⟨k2, m', y1, y2, y3, y⟩
              · rw [ea] at y2; cases y2
              · rw [m3] at y3
                cases y3
                have w3 := wm.2.2.2.1.2.2
                rcases y with ⟨y4, y5⟩ | ⟨jb, y4, rfl, y6, y7⟩ | ⟨jb, x, rfl, y5, y6⟩
                · rw [ea] at y5; cases y5
                · rw [ea] at y7; cases y7
                · rw [ea] at y6
                  cases y6
                  have jl := get_lt y5
                  obtain ⟨⟨q, x1, x2⟩, -⟩ := c9 jb x y5
                  have fi := rw_p179 h0 x2 u1
                  have x1' : (tS P σ 0).AI (P.base + 34) (12 * (8 * hv + k) + jb) = nI q := x1
                  show _ = _
                  unfold dm_X12_letter dm_X12_letter_p27 dm_X12_letter_p57 dm_X12_letter_p71 dm_X12_letter_p76 dm_X12_letter_p89 dm_X12_of
                  simp (disch := first | assumption | omega) [tS_e, ck_T, sm_s, bd_l, bd_r, lt_e, eq_self, and_self, if_true, true_and, and_true, lit_nI, nI_add, nI_mul, nI_sub, nI_clamp, nI_eq, nI_ltI, nI_leI, nN_e, nI_nN, nN_nI, bI_0, bI_1, bI_n, bool_0, bool_1, in_T, lg_cmp0, ofN_nI, ri_0 rt, ri_67 rt, ri_68 rt, ri_69 rt, ri_0 r0, im, ii, bI_tt, nj, z0, q1', x1', fi, x_in, dlt_T, dle_T]
