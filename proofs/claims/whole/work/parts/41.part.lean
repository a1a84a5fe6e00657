/-! ===== the class: parts, all kinds ===== -/
theorem eb_ok {α β : Type} (a : α) (f : α → Except Nat β) : eb (.ok a) f = f a := rfl
theorem eb_er {α β : Type} (x : Nat) (f : α → Except Nat β) : eb (.error x) f = .error x := rfl
theorem nm_pos {T : xT} {p : Nat} (h : p < T.2) : 1 ≤ (lx_nm T p).length := by
  rw [nm_len]; have := end_le h; omega
theorem cst_I (P : xP) (σ : xS) {f a : Nat} (h : f ≠ 906) : (cst P σ).I f a = σ.I f a := by
  unfold cst
  rw [I_setI, x_up2_k h]
theorem Fr.t0 {P : xP} {h h' c : Nat} {σ σ' σ'' : xS} (f : Fr P h 0 σ σ') (g : Fr P h' c σ' σ'') (hh : h ≤ h') : Fr P h c σ σ'' := f.trans g hh (by omega)
theorem head_98 {l : List Nat} : l.head? = some 98 ↔ l.getD 0 0 = 98 := by
  cases l with
  | nil => simp
  | cons c l => simp
theorem cw_readDigits {P : xP} {T : xT} {σ : xS} {p : Nat} (C : CP P T σ p) (hR : Rm P σ 2) (lng : Bool) (g : List Nat → Nat) {pl lo hi : Nat} (h1 : 1 ≤ lo) (h2 : lo < 2 ^ 31) (h3 : hi < 2 ^ 31) : Rf (dm_X8_readDigits P (rdA P lng) (nI pl) (nI lo) (nI hi) σ) (sp_digits T pl lo hi p) (PQ P T g σ 1) (PE P T σ.sz σ 1) := by
  have ci := C.ci
  have hR1 : Rm P σ 1 := hR.mono
  have qn := cw_name C hR1
  have rt := cw_refuseIf (P := P) (a := P.base + 1) (b := true) (σ := σ) hR1
  have rf := cw_refuseIf (P := P) (a := P.base + 1) (b := false) (σ := σ) hR1
  simp only [bI_tt, bI_ff] at rt rf
  unfold dm_X8_readDigits sp_digits sp_name
  by_cases e : lx_kind T p = 0
  · rw [if_pos e, eb_ok]
    rw [if_pos e] at qn
    have hp := (kind_nm (Or.inl e)).1
    have hl := kind_nm_ok C.tv (Or.inl e)
    have l8 := hl.1
    have l1 := nm_pos hp
    generalize lx_nm T p = l at *
    have lo0 := cw_letterOf (P := P) (σ := σ) (fun c hc => (hl.2 c hc).2) l8 (i := 0) (by omega)
    have lc : l.getD 0 0 < 128 := by
      cases l with
      | nil => simp
      | cons c l => exact (hl.2 c List.mem_cons_self).2
    have dl := cw_digitsL C hR1 lng hl (v1 := nI pl) (v2 := nI lo) (v3 := nI hi) (l.length - 1) 1 P.N (Nat.le_refl _) (by omega) (by have := ci.N; omega) (by simp)
    simp only [Nat.sub_self, List.take_zero] at dl
    have z0 : sp_bin [] = 0 := rfl
    rw [z0] at dl
    by_cases e2' : l.head? = some 98
    · have e2 := head_98.mp e2'
      rw [e2] at lo0
      by_cases e3 : ∀ c ∈ l.tail, c = 48 ∨ c = 49
      · rw [if_pos e3] at dl
        have sb := sp_bin_le l.tail e3
        have wl : l.tail.length = l.length - 1 := List.length_tail
        by_cases e4 : lo ≤ l.length - 1 ∧ l.length - 1 ≤ hi
        · rw [if_pos ⟨e2', e3, by rw [wl]; exact e4.1, by rw [wl]; exact e4.2⟩]
          have st := cw_step C hp
          have C2 := C.step hp
          have ci2 := C2.ci
          have f1 := cst_fr P σ.sz σ
          obtain ⟨r1, r2⟩ := hR
          obtain ⟨σ', q1, q2, q3, q4, q5⟩ := cw_initC (P := P) (σ := cst P σ) C2.sz g (pl := pl) (w := l.length - 1) (ds := l.tail) (by omega)
          have es : (cst P σ).sz = σ.sz := rfl
          have eu : (cst P σ).su = σ.su := rfl
          refine Rf.ok (v := some σ.sz) (σ' := σ') ?_ ⟨σ.sz, rfl, f1.t0 q2 (Nat.le_refl _), C2.fr q2 q3 (by have := C2.sz; omega), ?_⟩
          · have n1 : ¬ l.length - 1 < lo := by omega
            have n2 : l.length - 1 ≤ hi := e4.2
            unfold dm_X8_readDigits_p29
            simp (disch := first | assumption | omega) [x_chk, x_some, x_bind, x_let, lit_nI, nI_add, nI_mul, nI_sub, nI_clamp, nI_eq, nI_ltI, nI_leI, nN_e, nI_nN, nN_nI, bI_0, bI_1, bI_n, bool_0, bool_1, in_T, lg_cmp0, ofN_nI, ci_0, ci_1, ci_2, ci_3, ci_4, ci_5, ci_6, ci_7, ci_8, ci_9, ci_10, ci_11, ci_12, ci_13, ci_14, ci_15, ci_16, ci_17, ci_18, ci_19, ci_20, ci_21, ci_22, rd_K, rd_R, qn, lo0, rf, dl, dm_X8_readDigits_p111, dm_X8_readDigits_p132, n1, n2, st]
            simp (disch := first | assumption | omega) [es, eu, dle_T, q1, es ▸ q1]
          · rw [q4, es, wl]
            rw [es] at q5
            exact q5
        · rw [if_neg (fun z => e4 ⟨by rw [← wl]; exact z.2.2.1, by rw [← wl]; exact z.2.2.2⟩)]
          refine Rf.er (σ' := σ.skip 6) ?_ (PE.skip C)
          unfold dm_X8_readDigits_p29
          by_cases n1 : l.length - 1 < lo
          · simp (disch := first | assumption | omega) [x_chk, x_some, x_bind, x_let, lit_nI, nI_add, nI_mul, nI_sub, nI_clamp, nI_eq, nI_ltI, nI_leI, nN_e, nI_nN, nN_nI, bI_0, bI_1, bI_n, bool_0, bool_1, in_T, lg_cmp0, ofN_nI, ci_0, ci_1, ci_2, ci_3, ci_4, ci_5, ci_6, ci_7, ci_8, ci_9, ci_10, ci_11, ci_12, ci_13, ci_14, ci_15, ci_16, ci_17, ci_18, ci_19, ci_20, ci_21, ci_22, rd_K, rd_R, qn, lo0, rf, rt, dl, dm_X8_readDigits_p111, dm_X8_readDigits_p127, dm_X8_readDigits_p132, n1]
          · have n2 : ¬ l.length - 1 ≤ hi := by omega
            simp (disch := first | assumption | omega) [x_chk, x_some, x_bind, x_let, lit_nI, nI_add, nI_mul, nI_sub, nI_clamp, nI_eq, nI_ltI, nI_leI, nN_e, nI_nN, nN_nI, bI_0, bI_1, bI_n, bool_0, bool_1, in_T, lg_cmp0, ofN_nI, ci_0, ci_1, ci_2, ci_3, ci_4, ci_5, ci_6, ci_7, ci_8, ci_9, ci_10, ci_11, ci_12, ci_13, ci_14, ci_15, ci_16, ci_17, ci_18, ci_19, ci_20, ci_21, ci_22, rd_K, rd_R, qn, lo0, rf, rt, dl, dm_X8_readDigits_p111, dm_X8_readDigits_p127, dm_X8_readDigits_p132, n1, n2]
      · rw [if_neg e3] at dl
        rw [if_neg (fun z => e3 z.2.1)]
        refine Rf.er (σ' := σ.skip 6) ?_ (PE.skip C)
        unfold dm_X8_readDigits_p29
        simp (disch := first | assumption | omega) [x_chk, x_some, x_bind, x_let, lit_nI, nI_add, nI_mul, nI_sub, nI_clamp, nI_eq, nI_ltI, nI_leI, nN_e, nI_nN, nN_nI, bI_0, bI_1, bI_n, bool_0, bool_1, in_T, lg_cmp0, ofN_nI, ci_0, ci_1, ci_2, ci_3, ci_4, ci_5, ci_6, ci_7, ci_8, ci_9, ci_10, ci_11, ci_12, ci_13, ci_14, ci_15, ci_16, ci_17, ci_18, ci_19, ci_20, ci_21, ci_22, rd_K, rd_R, qn, lo0, rf, rt, dl]
    · rw [if_neg (fun z => e2' z.1)]
      have e2 : ¬ l.getD 0 0 = 98 := fun z => e2' (head_98.mpr z)
      refine Rf.er (σ' := σ.skip 6) ?_ (PE.skip C)
      unfold dm_X8_readDigits_p29
      generalize l.getD 0 0 = c at *
      simp (disch := first | assumption | omega) [x_chk, x_some, x_bind, x_let, lit_nI, nI_add, nI_mul, nI_sub, nI_clamp, nI_eq, nI_ltI, nI_leI, nN_e, nI_nN, nN_nI, bI_0, bI_1, bI_n, bool_0, bool_1, in_T, lg_cmp0, ofN_nI, ci_0, ci_1, ci_2, ci_3, ci_4, ci_5, ci_6, ci_7, ci_8, ci_9, ci_10, ci_11, ci_12, ci_13, ci_14, ci_15, ci_16, ci_17, ci_18, ci_19, ci_20, ci_21, ci_22, rd_K, rd_R, qn, lo0, rf, rt, e2]
  · rw [if_neg e, eb_er]
    rw [if_neg e] at qn
    refine Rf.er (σ' := σ.skip 6) ?_ (PE.skip C)
    simp (disch := first | assumption | omega) [x_chk, x_some, x_bind, x_let, lit_nI, nI_add, nI_mul, nI_sub, nI_clamp, nI_eq, nI_ltI, nI_leI, nN_e, nI_nN, nN_nI, bI_0, bI_1, bI_n, bool_0, bool_1, in_T, lg_cmp0, ofN_nI, ci_0, ci_1, ci_2, ci_3, ci_4, ci_5, ci_6, ci_7, ci_8, ci_9, ci_10, ci_11, ci_12, ci_13, ci_14, ci_15, ci_16, ci_17, ci_18, ci_19, ci_20, ci_21, ci_22, rd_K, rd_R, qn]
/-- what is known of a module's nets -/
def NW (ns : List xNet) : Prop := ∀ x ∈ ns, nm_ok x.1 ∧ x.2.1 ≤ 3 ∧ x.2.2 ≤ 8 ∧ (x.2.1 ≠ 3 → 1 ≤ x.2.2)
/-- what is known of a module -/
def MW (m : xMod) : Prop := NW m.nets ∧ ∀ i ∈ m.ins, nm_ok i.1 ∧ nm_ok i.2.1 ∧ ∀ l ∈ i.2.2.2.2, nm_ok l.1
/-- the state while a module is read -/
def PX (P : xP) (T : xT) (lng : Bool) (g : List Nat → Nat) (ix M : Nat) (m : xMod) (σ : xS) (p : Nat) : Prop := CP P T σ p ∧ σ.R 302 (rdA P lng) = some M ∧ P.base + 44 ≤ M ∧ MR σ g (fun _ => none) ix M σ.sz m ∧ MW m
theorem PX.fr {P : xP} {T : xT} {lng : Bool} {g : List Nat → Nat} {ix M : Nat} {m : xMod} {σ σ' : xS} {p p' c : Nat} (h : PX P T lng g ix M m σ p) (f : Fr P σ.sz c σ σ') (C : CP P T σ' p') : PX P T lng g ix M m σ' p' := by
  obtain ⟨h1, h2, h3, h4, h5⟩ := h
  have sz := h1.sz
  have rn := rd_ne P lng
  exact ⟨C, ((f.1 _ (by omega) (by omega)).2.2.2.2.1 302).trans h2, h3, h4.sm (f.sms h3 (Nat.le_refl _)) f.2.2.1, h5⟩
theorem sp_find_mem {ns : List xNet} {nm : List Nat} {x : xNet} (h : sp_find ns nm = some x) : x ∈ ns ∧ x.1 = nm := by
  unfold sp_find at h
  exact ⟨List.mem_of_find?_eq_some h, by simpa using List.find?_some h⟩
theorem sortI_N {s : Nat} (h : s ≤ 3) : (sortI s = nN) = (s = 3) := sortI_eq h
theorem cw_readNetPart {P : xP} {T : xT} {lng : Bool} {g : List Nat → Nat} {ix M : Nat} {m : xMod} {σ : xS} {p : Nat} (h : PX P T lng g ix M m σ p) (hR : Rm P σ 2) {c1 c2 : Nat} (hc1 : c1 < 2 ^ 31) (hc2 : c2 < 2 ^ 31) : Rf (dm_X8_readNetPart P (rdA P lng) (nI c1) (nI c2) σ) (sp_netPart T c1 c2 m.nets p) (PQ P T g σ 1) (PE P T σ.sz σ 1) := by
  obtain ⟨C, hcur, hM, hm, hw0⟩ := h
  have hw := hw0.1
  have ci := C.ci
  have hR1 : Rm P σ 1 := hR.mono
  have qp := cw_place C
  have qn := cw_name C hR1
  have rt := cw_refuseIf (P := P) (a := P.base + 1) (b := true) (σ := σ) hR1
  have rf := cw_refuseIf (P := P) (a := P.base + 1) (b := false) (σ := σ) hR1
  simp only [bI_tt, bI_ff] at rt rf
  have kM := hm.1.2.1
  have b4 := hm.2.1.2.2.2.1
  unfold dm_X8_readNetPart sp_netPart sp_name
  by_cases e : lx_kind T p = 0
  · rw [if_pos e, eb_ok]
    rw [if_pos e] at qn
    have hp := (kind_nm (Or.inl e)).1
    have hl := kind_nm_ok C.tv (Or.inl e)
    generalize lx_nm T p = l at *
    have na := cw_netAmong ci hm (fun x hx => (hw x hx).1) hl (Nat.le_refl _)
    rw [List.take_length] at na
    cases hf : sp_find m.nets l with
    | none =>
      rw [hf] at na
      refine Rf.er (σ' := σ.skip 6) ?_ (PE.skip C)
      simp (disch := first | assumption | omega) [x_chk, x_some, x_bind, x_let, lit_nI, nI_add, nI_mul, nI_sub, nI_clamp, nI_eq, nI_ltI, nI_leI, nN_e, nI_nN, nN_nI, bI_0, bI_1, bI_n, bool_0, bool_1, in_T, lg_cmp0, ofN_nI, ci_0, ci_1, ci_2, ci_3, ci_4, ci_5, ci_6, ci_7, ci_8, ci_9, ci_10, ci_11, ci_12, ci_13, ci_14, ci_15, ci_16, ci_17, ci_18, ci_19, ci_20, ci_21, ci_22, rd_K, rd_R, qp, qn, hcur, kM, b4, na, dm_X8_readNetPart_p49, dm_X8_readNetPart_p54, rt]
    | some x =>
      obtain ⟨xm, xn⟩ := sp_find_mem hf
      obtain ⟨k, hk⟩ := List.getElem?_of_mem xm
      obtain ⟨w1, w2, w3, w4⟩ := hw x xm
      obtain ⟨-, n1, n2, n3, n4, n5, n6⟩ := hm.2.2.2.2.1 k x hk
      rw [xn] at n1 n2 n3 n4 n5 n6
      rw [hf] at na
      simp only [Option.map_some, xn] at na
      by_cases e2 : x.2.1 = 3
      · rw [e2] at n5
        simp only [e2, if_true]
        refine Rf.er (σ' := σ.skip 6) ?_ (PE.skip C)
        simp (disch := first | assumption | omega) [x_chk, x_some, x_bind, x_let, lit_nI, nI_add, nI_mul, nI_sub, nI_clamp, nI_eq, nI_ltI, nI_leI, nN_e, nI_nN, nN_nI, bI_0, bI_1, bI_n, bool_0, bool_1, in_T, lg_cmp0, ofN_nI, ci_0, ci_1, ci_2, ci_3, ci_4, ci_5, ci_6, ci_7, ci_8, ci_9, ci_10, ci_11, ci_12, ci_13, ci_14, ci_15, ci_16, ci_17, ci_18, ci_19, ci_20, ci_21, ci_22, rd_K, rd_R, qp, qn, hcur, kM, b4, na, dm_X8_readNetPart_p49, dm_X8_readNetPart_p54, rt, n3, n5, sortI_3]
      · simp only [if_neg e2]
        have st := cw_step C hp
        have C2 := C.step hp
        have f1 := cst_fr P σ.sz σ
        have ci2 := C2.ci
        have hR2 : Rm P (cst P σ) 2 := hR.us f1.2.2
        have sk := cw_skips C2 hc1
        have K2 : (cst P σ).K (g l) = 5 := n3
        have W2 : (cst P σ).I 402 (g l) = nI x.2.2 := by
          rw [cst_I P σ (by decide)]; exact n6
        have so : (sortI x.2.1 = nN) = False := by rw [sortI_N w2]; exact eq_false e2
        have head : dm_X8_readNetPart P (rdA P lng) (nI c1) (nI c2) σ = dm_X8_readNetPart_p54 P (rdA P lng) (nI c1) (nI c2) (nI p) (some (g l)) (some (P.base + 1)) (nI 0) σ := by
          unfold dm_X8_readNetPart
          simp (disch := first | assumption | omega) [x_chk, x_some, x_bind, x_let, lit_nI, nI_add, nI_mul, nI_sub, nI_clamp, nI_eq, nI_ltI, nI_leI, nN_e, nI_nN, nN_nI, bI_0, bI_1, bI_n, bool_0, bool_1, in_T, lg_cmp0, ofN_nI, ci_0, ci_1, ci_2, ci_3, ci_4, ci_5, ci_6, ci_7, ci_8, ci_9, ci_10, ci_11, ci_12, ci_13, ci_14, ci_15, ci_16, ci_17, ci_18, ci_19, ci_20, ci_21, ci_22, rd_K, rd_R, qp, qn, hcur, kM, b4, na, n3, n5, so]
        rw [show (x_chk (σ.K (rdA P lng) = 4 ∨ σ.K (rdA P lng) = 9) _ : xO (Option Nat)) = dm_X8_readNetPart P (rdA P lng) (nI c1) (nI c2) σ from rfl, head]
        unfold dm_X8_readNetPart_p54
        by_cases e3 : sp_is T c1 (lx_nx T p) = true
        · rw [if_pos e3]
          simp only [e3, if_true] at sk
          have p2 := is_lt e3
          have C3 := C2.step p2
          have ci3 := C3.ci
          have f2 := cst_fr P σ.sz (cst P σ)
          have hR3 : Rm P (cst P (cst P σ)) 2 := hR2.us f2.2.2
          have K3 : (cst P (cst P σ)).K (g l) = 5 := n3
          have W3 : (cst P (cst P σ)).I 402 (g l) = nI x.2.2 := by
            rw [cst_I P _ (by decide)]; exact W2
          have tn := cw_takeNumber C3 (lo := 0) (hi := x.2.2 - 1) (by omega) (by omega) (hR3.mono)
          have w5 := w4 e2
          unfold sp_num
          by_cases e4 : lx_kind T (lx_nx T (lx_nx T p)) = 2 ∧ 0 ≤ lx_num T (lx_nx T (lx_nx T p)) ∧ lx_num T (lx_nx T (lx_nx T p)) ≤ x.2.2 - 1
          · rw [if_pos e4] at tn ⊢
            rw [eb_ok]
            have p3 := (kind_num e4.1).1
            have C4 := C3.step p3
            have ci4 := C4.ci
            have f3 := cst_fr P σ.sz (cst P (cst P σ))
            have hR4 : Rm P (cst P (cst P (cst P σ))) 2 := hR3.us f3.2.2
            have sk2 := cw_skips C4 hc2
            have nl := num_le e4.1
            generalize hh : lx_num T (lx_nx T (lx_nx T p)) = hi at *
            simp only []
            by_cases e5 : sp_is T c2 (lx_nx T (lx_nx T (lx_nx T p))) = true
            · rw [if_pos e5]
              simp only [e5, if_true] at sk2
              have p4 := is_lt e5
              have C5 := C4.step p4
              have ci5 := C5.ci
              have f4 := cst_fr P σ.sz (cst P (cst P (cst P σ)))
              have hR5 : Rm P (cst P (cst P (cst P (cst P σ)))) 2 := hR4.us f4.2.2
              have tn2 := cw_takeNumber C5 (lo := 0) (hi := hi) (by omega) (by omega) (hR5.mono)
              by_cases e6 : lx_kind T (lx_nx T (lx_nx T (lx_nx T (lx_nx T p)))) = 2 ∧ 0 ≤ lx_num T (lx_nx T (lx_nx T (lx_nx T (lx_nx T p)))) ∧ lx_num T (lx_nx T (lx_nx T (lx_nx T (lx_nx T p)))) ≤ hi
              · rw [if_pos e6] at tn2 ⊢
                rw [eb_ok]
                have p5 := (kind_num e6.1).1
                have C6 := C5.step p5
                have f5 := cst_fr P σ.sz (cst P (cst P (cst P (cst P σ))))
                have hR6 : Rm P (cst P (cst P (cst P (cst P (cst P σ))))) 2 := hR5.us f5.2.2
                obtain ⟨σ', q1, q2, q3, q4, q5⟩ := cw_initP (P := P) (σ := cst P (cst P (cst P (cst P (cst P σ))))) C6.sz g (sh := 2) (pl := p) (hi := hi) (lo := lx_num T (lx_nx T (lx_nx T (lx_nx T (lx_nx T p))))) (nm := l) (by decide)
                have es : (cst P (cst P (cst P (cst P (cst P σ))))).sz = σ.sz := rfl
                have rc := Rm.chk hR6 1 6 (by omega) (by omega)
                refine Rf.ok (v := some σ.sz) (σ' := σ') ?_ ⟨σ.sz, rfl, f1.t0 (f2.t0 (f3.t0 (f4.t0 (f5.t0 q2 (Nat.le_refl _)) (Nat.le_refl _)) (Nat.le_refl _)) (Nat.le_refl _)) (Nat.le_refl _), C6.fr q2 q3 (by have := C6.sz; omega), ?_⟩
                · rw [es] at q1 
                  simp (disch := first | assumption | omega) [x_chk, x_some, x_bind, x_let, lit_nI, nI_add, nI_mul, nI_sub, nI_clamp, nI_eq, nI_ltI, nI_leI, nN_e, nI_nN, nN_nI, bI_0, bI_1, bI_n, bool_0, bool_1, in_T, lg_cmp0, ofN_nI, ci_0, ci_1, ci_2, ci_3, ci_4, ci_5, ci_6, ci_7, ci_8, ci_9, ci_10, ci_11, ci_12, ci_13, ci_14, ci_15, ci_16, ci_17, ci_18, ci_19, ci_20, ci_21, ci_22, rd_K, rd_R, rf, st, sk, sk2, K2, W2, K3, W3, tn, tn2, rc, q1, es]
                  exact of_eq_true rc
                · rw [q4]; exact q5
              · rw [if_neg e6] at tn2 ⊢
                rw [eb_er]
                refine Rf.er (σ' := _) ?_ ⟨f1.t0 (f2.t0 (f3.t0 (f4.t0 (PE.skip C5).1 (Nat.le_refl _)) (Nat.le_refl _)) (Nat.le_refl _)) (Nat.le_refl _), C5.skip (by omega)⟩
                simp (disch := first | assumption | omega) [x_chk, x_some, x_bind, x_let, lit_nI, nI_add, nI_mul, nI_sub, nI_clamp, nI_eq, nI_ltI, nI_leI, nN_e, nI_nN, nN_nI, bI_0, bI_1, bI_n, bool_0, bool_1, in_T, lg_cmp0, ofN_nI, ci_0, ci_1, ci_2, ci_3, ci_4, ci_5, ci_6, ci_7, ci_8, ci_9, ci_10, ci_11, ci_12, ci_13, ci_14, ci_15, ci_16, ci_17, ci_18, ci_19, ci_20, ci_21, ci_22, rd_K, rd_R, rf, st, sk, sk2, K2, W2, K3, W3, tn, tn2]
            · rw [if_neg e5]
              simp only [e5] at sk2
              obtain ⟨σ', q1, q2, q3, q4, q5⟩ := cw_initP (P := P) (σ := cst P (cst P (cst P σ))) C4.sz g (sh := 1) (pl := p) (hi := hi) (lo := hi) (nm := l) (by decide)
              have es : (cst P (cst P (cst P σ))).sz = σ.sz := rfl
              have rc := Rm.chk hR4 1 6 (by omega) (by omega)
              refine Rf.ok (v := some σ.sz) (σ' := σ') ?_ ⟨σ.sz, rfl, f1.t0 (f2.t0 (f3.t0 q2 (Nat.le_refl _)) (Nat.le_refl _)) (Nat.le_refl _), C4.fr q2 q3 (by have := C4.sz; omega), ?_⟩
              · rw [es] at q1
                simp (disch := first | assumption | omega) [x_chk, x_some, x_bind, x_let, lit_nI, nI_add, nI_mul, nI_sub, nI_clamp, nI_eq, nI_ltI, nI_leI, nN_e, nI_nN, nN_nI, bI_0, bI_1, bI_n, bool_0, bool_1, in_T, lg_cmp0, ofN_nI, ci_0, ci_1, ci_2, ci_3, ci_4, ci_5, ci_6, ci_7, ci_8, ci_9, ci_10, ci_11, ci_12, ci_13, ci_14, ci_15, ci_16, ci_17, ci_18, ci_19, ci_20, ci_21, ci_22, rd_K, rd_R, rf, st, sk, sk2, K2, W2, K3, W3, tn, rc, q1, es, bI_ff]
                exact of_eq_true rc
              · rw [q4]; exact q5
          · rw [if_neg e4] at tn ⊢
            rw [eb_er]
            refine Rf.er (σ' := _) ?_ ⟨f1.t0 (f2.t0 (PE.skip C3).1 (Nat.le_refl _)) (Nat.le_refl _), C3.skip (by omega)⟩
            simp (disch := first | assumption | omega) [x_chk, x_some, x_bind, x_let, lit_nI, nI_add, nI_mul, nI_sub, nI_clamp, nI_eq, nI_ltI, nI_leI, nN_e, nI_nN, nN_nI, bI_0, bI_1, bI_n, bool_0, bool_1, in_T, lg_cmp0, ofN_nI, ci_0, ci_1, ci_2, ci_3, ci_4, ci_5, ci_6, ci_7, ci_8, ci_9, ci_10, ci_11, ci_12, ci_13, ci_14, ci_15, ci_16, ci_17, ci_18, ci_19, ci_20, ci_21, ci_22, rd_K, rd_R, rf, st, sk, K2, W2, K3, W3, tn]
        · rw [if_neg e3]
          simp only [e3] at sk
          obtain ⟨σ', q1, q2, q3, q4, q5⟩ := cw_initP (P := P) (σ := cst P σ) C2.sz g (sh := 0) (pl := p) (hi := x.2.2 - 1) (lo := 0) (nm := l) (by decide)
          have es : (cst P σ).sz = σ.sz := rfl
          have rc := Rm.chk hR2 1 6 (by omega) (by omega)
          have w5 := w4 e2
          have gl : ¬ g l = σ.sz := by omega
          refine Rf.ok (v := some σ.sz) (σ' := σ') ?_ ⟨σ.sz, rfl, f1.t0 q2 (Nat.le_refl _), C2.fr q2 q3 (by have := C2.sz; omega), ?_⟩
          · rw [es] at q1
            simp (disch := first | assumption | omega) [x_chk, x_some, x_bind, x_let, lit_nI, nI_add, nI_mul, nI_sub, nI_clamp, nI_eq, nI_ltI, nI_leI, nN_e, nI_nN, nN_nI, bI_0, bI_1, bI_n, bool_0, bool_1, in_T, lg_cmp0, ofN_nI, ci_0, ci_1, ci_2, ci_3, ci_4, ci_5, ci_6, ci_7, ci_8, ci_9, ci_10, ci_11, ci_12, ci_13, ci_14, ci_15, ci_16, ci_17, ci_18, ci_19, ci_20, ci_21, ci_22, rd_K, rd_R, rf, st, sk, K2, W2, rc, q1, es, bI_ff, q_K_newO, q_I_newO, q_up2, q_up, gl]
            exact of_eq_true rc
          · rw [q4]; exact q5
  · rw [if_neg e, eb_er]
    rw [if_neg e] at qn
    refine Rf.er (σ' := σ.skip 6) ?_ (PE.skip C)
    simp (disch := first | assumption | omega) [x_chk, x_some, x_bind, x_let, lit_nI, nI_add, nI_mul, nI_sub, nI_clamp, nI_eq, nI_ltI, nI_leI, nN_e, nI_nN, nN_nI, bI_0, bI_1, bI_n, bool_0, bool_1, in_T, lg_cmp0, ofN_nI, ci_0, ci_1, ci_2, ci_3, ci_4, ci_5, ci_6, ci_7, ci_8, ci_9, ci_10, ci_11, ci_12, ci_13, ci_14, ci_15, ci_16, ci_17, ci_18, ci_19, ci_20, ci_21, ci_22, rd_K, rd_R, qn, qp, hcur, kM]
