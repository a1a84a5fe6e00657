/-! ===== the class: input, output, wire ===== -/
def tellF (nm : List Nat) (s w : Nat) (y : xNet) : xNet := if y.1 = nm then (nm, s, w) else y
def xMod.wTell (m : xMod) (nm : List Nat) (s w : Nat) : xMod := (m.nm, m.pl, m.ports.map (tellF nm s w), m.wires, m.asg, m.ins)
theorem tellF_1 (nm : List Nat) (s w : Nat) (y : xNet) : (tellF nm s w y).1 = y.1 := by
  unfold tellF
  split
  · rename_i h; exact h.symm
  · rfl
theorem find_tell {A B : List xNet} {nm nm' : List Nat} {s w : Nat} (h : nm' ≠ nm) : sp_find (A.map (tellF nm s w) ++ B) nm' = sp_find (A ++ B) nm' := by
  unfold sp_find
  induction A with
  | nil => rfl
  | cons a A ih =>
    simp only [List.map_cons, List.cons_append, List.find?_cons, tellF_1]
    by_cases e : a.1 = nm'
    · have : tellF nm s w a = a := by
        unfold tellF
        rw [if_neg]
        intro z; exact h (e.symm.trans z)
      simp [e, this]
    · simp only [e, decide_false]
      exact ih
theorem AW.tell {m : xMod} {nm : List Nat} {x : xNet} {s w : Nat} (h : AW m) (hf : sp_find m.nets nm = some x) (hx : x.2.1 = 3) (hs : s < 2) : AW (m.wTell nm s w) := by
  obtain ⟨h1, h2, h3, h4, h5⟩ := h
  have pw : ∀ r, PW m.nets r → PW (m.wTell nm s w).nets r := by
    intro r hr
    rcases hr with q | ⟨q1, q2, y, q3, q4⟩
    · exact Or.inl q
    · refine Or.inr ⟨q1, q2, y, ?_, q4⟩
      show sp_find (m.ports.map (tellF nm s w) ++ m.wires) r.2.2.1 = some y
      rw [find_tell]
      · exact q3
      · intro e
        rw [e, hf] at q3
        cases q3
        exact q4.1 hx
  refine ⟨fun a ha => ⟨pw _ (h1 a ha).1, pw _ (h1 a ha).2⟩, fun i hi l hl r hr => pw _ (h2 i hi l hl r hr), h3, fun y hy => ?_, ?_⟩
  · obtain ⟨z, z1, z2⟩ := List.mem_map.mp hy
    rw [← z2]
    unfold tellF
    split
    · show s ≠ 2
      omega
    · exact h4 z z1
  · have e : (m.wTell nm s w).nets.map (fun x => x.1) = m.nets.map fun x => x.1 := by
      show (m.ports.map (tellF nm s w) ++ m.wires).map (fun x => x.1) = (m.ports ++ m.wires).map fun x => x.1
      rw [List.map_append, List.map_append, List.map_map]
      congr 1
      apply List.map_congr_left
      intro y _
      exact tellF_1 nm s w y
    rw [e]
    exact h5
theorem sortI_inj {a b : Nat} (ha : a ≤ 3) (hb : b ≤ 3) (h : sortI a = sortI b) : a = b := by
  unfold sortI at h
  by_cases e1 : a = 3
  · by_cases e2 : b = 3
    · omega
    · rw [if_pos e1, if_neg e2] at h
      have := nN_nI (a := b) (by omega)
      rw [h] at this
      simp at this
  · by_cases e2 : b = 3
    · rw [if_neg e1, if_pos e2] at h
      have := nI_nN (a := a) (by omega)
      rw [h] at this
      simp at this
    · rw [if_neg e1, if_neg e2] at h
      exact (nI_eq (by omega) (by omega)).mp h
theorem cw_tellR {P : xP} {T : xT} {lng : Bool} {g : List Nat → Nat} {ix M : Nat} {m : xMod} {σ : xS} {p s w : Nat} {nm : List Nat} {x : xNet} (h : PX P T lng g ix M m σ p) (hA : AW m) (hf : sp_find m.nets nm = some x) (hx : x.2.1 = 3) (hs : s < 2) (hw1 : 1 ≤ w) (hw : w ≤ 8) : PX P T lng g ix M (m.wTell nm s w) ((σ.setI 401 (g nm) (nI s)).setI 402 (g nm) (nI w)) p ∧ Fr P M 0 σ ((σ.setI 401 (g nm) (nI s)).setI 402 (g nm) (nI w)) ∧ P.base ≤ g nm ∧ σ.K (g nm) = 5 := by
  obtain ⟨C, hcur, hM, hm, hwf⟩ := h
  obtain ⟨⟨a1, a2, a3, a4, a5⟩, ⟨b1, b2, b3, b4, b5, b6⟩, ⟨c1, c2, c3, c4, c5, c6, c7, c8⟩, ⟨d1, d2, d3, d4, d5⟩, e1, e2, e3⟩ := hm
  obtain ⟨xm, xn⟩ := sp_find_mem hf
  obtain ⟨kx, hkx⟩ := List.getElem?_of_mem xm
  obtain ⟨xa, x1, x2, x3, x4, x5, x6⟩ := e1 kx x hkx
  rw [xn] at xa x1 x2 x3 x4 x5 x6
  have ox := (hwf.1 x xm).1
  rw [xn] at ox
  have ne : ∀ b, σ.K b ≠ 5 → b ≠ g nm := fun b hb z => hb (by rw [z]; exact x3)
  -- what is no net of that name stays
  have sm : ∀ b, b ≠ g nm → Sm σ ((σ.setI 401 (g nm) (nI s)).setI 402 (g nm) (nI w)) b := by
    intro b hb
    refine ⟨rfl, rfl, fun f => ?_, fun _ => rfl, fun _ => rfl, fun _ => rfl, fun _ => rfl, fun _ => rfl⟩
    simp [q_K_setI, q_I_setI, q_J_setI, q_R_setI, q_L_setI, q_AI_setI, q_AJ_setI, q_AR_setI, q_sz_setI, q_su_setI, q_K_setJ, q_I_setJ, q_J_setJ, q_R_setJ, q_L_setJ, q_AI_setJ, q_AJ_setJ, q_AR_setJ, q_sz_setJ, q_su_setJ, q_K_setR, q_I_setR, q_J_setR, q_R_setR, q_L_setR, q_AI_setR, q_AJ_setR, q_AR_setR, q_sz_setR, q_su_setR, q_K_setAI, q_I_setAI, q_J_setAI, q_R_setAI, q_L_setAI, q_AI_setAI, q_AJ_setAI, q_AR_setAI, q_sz_setAI, q_su_setAI, q_K_setAJ, q_I_setAJ, q_J_setAJ, q_R_setAJ, q_L_setAJ, q_AI_setAJ, q_AJ_setAJ, q_AR_setAJ, q_sz_setAJ, q_su_setAJ, q_K_setAR, q_I_setAR, q_J_setAR, q_R_setAR, q_L_setAR, q_AI_setAR, q_AJ_setAR, q_AR_setAR, q_sz_setAR, q_su_setAR, q_K_newO, q_I_newO, q_J_newO, q_R_newO, q_L_newO, q_AI_newO, q_AJ_newO, q_AR_newO, q_sz_newO, q_su_newO, q_K_newA, q_I_newA, q_J_newA, q_R_newA, q_L_newA, q_AI_newA, q_AJ_newA, q_AR_newA, q_sz_newA, q_su_newA, q_K_skip, q_I_skip, q_J_skip, q_R_skip, q_L_skip, q_AI_skip, q_AJ_skip, q_AR_skip, q_sz_skip, q_su_skip, q_up2, q_up, hb]
  have I0 : ∀ f b, f ≠ 401 → f ≠ 402 → ((σ.setI 401 (g nm) (nI s)).setI 402 (g nm) (nI w)).I f b = σ.I f b := by
    intro f b h1 h2
    simp [q_K_setI, q_I_setI, q_J_setI, q_R_setI, q_L_setI, q_AI_setI, q_AJ_setI, q_AR_setI, q_sz_setI, q_su_setI, q_K_setJ, q_I_setJ, q_J_setJ, q_R_setJ, q_L_setJ, q_AI_setJ, q_AJ_setJ, q_AR_setJ, q_sz_setJ, q_su_setJ, q_K_setR, q_I_setR, q_J_setR, q_R_setR, q_L_setR, q_AI_setR, q_AJ_setR, q_AR_setR, q_sz_setR, q_su_setR, q_K_setAI, q_I_setAI, q_J_setAI, q_R_setAI, q_L_setAI, q_AI_setAI, q_AJ_setAI, q_AR_setAI, q_sz_setAI, q_su_setAI, q_K_setAJ, q_I_setAJ, q_J_setAJ, q_R_setAJ, q_L_setAJ, q_AI_setAJ, q_AJ_setAJ, q_AR_setAJ, q_sz_setAJ, q_su_setAJ, q_K_setAR, q_I_setAR, q_J_setAR, q_R_setAR, q_L_setAR, q_AI_setAR, q_AJ_setAR, q_AR_setAR, q_sz_setAR, q_su_setAR, q_K_newO, q_I_newO, q_J_newO, q_R_newO, q_L_newO, q_AI_newO, q_AJ_newO, q_AR_newO, q_sz_newO, q_su_newO, q_K_newA, q_I_newA, q_J_newA, q_R_newA, q_L_newA, q_AI_newA, q_AJ_newA, q_AR_newA, q_sz_newA, q_su_newA, q_K_skip, q_I_skip, q_J_skip, q_R_skip, q_L_skip, q_AI_skip, q_AJ_skip, q_AR_skip, q_sz_skip, q_su_skip, q_up2, q_up, h1, h2]
  have fr : Fr P M 0 σ ((σ.setI 401 (g nm) (nI s)).setI 402 (g nm) (nI w)) := ((Fr.refl P M σ).thenI (by omega) (by omega)).thenI (by omega) (by omega)
  have pr : ∀ a r, PartR σ g (M + 5) σ.sz a r → PartR ((σ.setI 401 (g nm) (nI s)).setI 402 (g nm) (nI w)) g (M + 5) σ.sz a r := by
    intro a r ⟨r1, r2, r3, r4, r5, r6, r7, r8, r9⟩
    exact ⟨r1, r2, r3, (I0 _ _ (by decide) (by decide)).trans r4, (I0 _ _ (by decide) (by decide)).trans r5, r6, (I0 _ _ (by decide) (by decide)).trans r7, (I0 _ _ (by decide) (by decide)).trans r8, (I0 _ _ (by decide) (by decide)).trans r9⟩
  have wl : (m.wTell nm s w).nets.length = m.nets.length := by simp [xMod.wTell, xMod.nets, xMod.ports, xMod.wires]
  have pl : (m.wTell nm s w).ports.length = m.ports.length := by simp [xMod.wTell, xMod.ports]
  refine ⟨⟨C.fr fr (I0 _ _ (by decide) (by decide)) (by omega), hcur, hM, ⟨⟨a1, a2, (I0 _ _ (by decide) (by decide)).trans a3, a4, (I0 _ _ (by decide) (by decide)).trans a5⟩, ⟨b1, b2, b3, by rw [wl]; exact (I0 _ _ (by decide) (by decide)).trans b4, by rw [pl]; exact (I0 _ _ (by decide) (by decide)).trans b5, by rw [wl]; exact b6⟩, ⟨c1, c2, c3, c4, c5, c6, (I0 _ _ (by decide) (by decide)).trans c7, c8⟩, ⟨d1, d2, d3, (I0 _ _ (by decide) (by decide)).trans d4, d5⟩, fun k y hy => ?_, fun k y hy => ?_, fun k y hy => ?_⟩, ?_⟩, fr, by omega, x3⟩
  · -- the nets
    have hy' : (m.ports.map (tellF nm s w) ++ m.wires)[k]? = some y := hy
    have ex : ∃ z, m.nets[k]? = some z ∧ y = tellF nm s w z := by
      by_cases hk : k < m.ports.length
      · rw [List.getElem?_append_left (by simpa using hk), List.getElem?_map] at hy'
        cases hz : m.ports[k]? with
        | none => rw [hz] at hy'; cases hy'
        | some z =>
          rw [hz] at hy'
          refine ⟨z, ?_, by simpa using hy'.symm⟩
          show (m.ports ++ m.wires)[k]? = some z
          rw [List.getElem?_append_left hk]; exact hz
      · rw [List.getElem?_append_right (by simp; omega), List.length_map] at hy'
        have hz : m.nets[k]? = some y := by
          show (m.ports ++ m.wires)[k]? = some y
          rw [List.getElem?_append_right (by omega)]; exact hy'
        refine ⟨y, hz, ?_⟩
        unfold tellF
        rw [if_neg]
        intro e
        obtain ⟨-, y1, y2, y3, y4, y5, y6⟩ := e1 k y hz
        rw [e, x5, hA.2.2.1 y (List.mem_of_getElem? hy'), hx] at y5
        have := sortI_inj (by omega) (by omega) y5
        omega
    obtain ⟨z, hz, ez⟩ := ex
    obtain ⟨za, z1, z2, z3, z4, z5, z6⟩ := e1 k z hz
    have oz := (hwf.1 z (List.mem_of_getElem? hz)).1
    subst ez
    rw [tellF_1]
    refine ⟨za, z1, z2, z3, by rw [tellF_1]; exact z4, ?_, ?_⟩
    · unfold tellF
      by_cases e : z.1 = nm
      · have e9 : ¬ s = 3 := by omega
        simp [q_K_setI, q_I_setI, q_J_setI, q_R_setI, q_L_setI, q_AI_setI, q_AJ_setI, q_AR_setI, q_sz_setI, q_su_setI, q_K_setJ, q_I_setJ, q_J_setJ, q_R_setJ, q_L_setJ, q_AI_setJ, q_AJ_setJ, q_AR_setJ, q_sz_setJ, q_su_setJ, q_K_setR, q_I_setR, q_J_setR, q_R_setR, q_L_setR, q_AI_setR, q_AJ_setR, q_AR_setR, q_sz_setR, q_su_setR, q_K_setAI, q_I_setAI, q_J_setAI, q_R_setAI, q_L_setAI, q_AI_setAI, q_AJ_setAI, q_AR_setAI, q_sz_setAI, q_su_setAI, q_K_setAJ, q_I_setAJ, q_J_setAJ, q_R_setAJ, q_L_setAJ, q_AI_setAJ, q_AJ_setAJ, q_AR_setAJ, q_sz_setAJ, q_su_setAJ, q_K_setAR, q_I_setAR, q_J_setAR, q_R_setAR, q_L_setAR, q_AI_setAR, q_AJ_setAR, q_AR_setAR, q_sz_setAR, q_su_setAR, q_K_newO, q_I_newO, q_J_newO, q_R_newO, q_L_newO, q_AI_newO, q_AJ_newO, q_AR_newO, q_sz_newO, q_su_newO, q_K_newA, q_I_newA, q_J_newA, q_R_newA, q_L_newA, q_AI_newA, q_AJ_newA, q_AR_newA, q_sz_newA, q_su_newA, q_K_skip, q_I_skip, q_J_skip, q_R_skip, q_L_skip, q_AI_skip, q_AJ_skip, q_AR_skip, q_sz_skip, q_su_skip, q_up2, q_up, e, sortI, e9]
      · have : ¬ g z.1 = g nm := by
          intro q
          rw [q, x4] at z4
          exact e (pk_inj ox oz z4).symm
        simp [q_K_setI, q_I_setI, q_J_setI, q_R_setI, q_L_setI, q_AI_setI, q_AJ_setI, q_AR_setI, q_sz_setI, q_su_setI, q_K_setJ, q_I_setJ, q_J_setJ, q_R_setJ, q_L_setJ, q_AI_setJ, q_AJ_setJ, q_AR_setJ, q_sz_setJ, q_su_setJ, q_K_setR, q_I_setR, q_J_setR, q_R_setR, q_L_setR, q_AI_setR, q_AJ_setR, q_AR_setR, q_sz_setR, q_su_setR, q_K_setAI, q_I_setAI, q_J_setAI, q_R_setAI, q_L_setAI, q_AI_setAI, q_AJ_setAI, q_AR_setAI, q_sz_setAI, q_su_setAI, q_K_setAJ, q_I_setAJ, q_J_setAJ, q_R_setAJ, q_L_setAJ, q_AI_setAJ, q_AJ_setAJ, q_AR_setAJ, q_sz_setAJ, q_su_setAJ, q_K_setAR, q_I_setAR, q_J_setAR, q_R_setAR, q_L_setAR, q_AI_setAR, q_AJ_setAR, q_AR_setAR, q_sz_setAR, q_su_setAR, q_K_newO, q_I_newO, q_J_newO, q_R_newO, q_L_newO, q_AI_newO, q_AJ_newO, q_AR_newO, q_sz_newO, q_su_newO, q_K_newA, q_I_newA, q_J_newA, q_R_newA, q_L_newA, q_AI_newA, q_AJ_newA, q_AR_newA, q_sz_newA, q_su_newA, q_K_skip, q_I_skip, q_J_skip, q_R_skip, q_L_skip, q_AI_skip, q_AJ_skip, q_AR_skip, q_sz_skip, q_su_skip, q_up2, q_up, e, this, z5]
    · unfold tellF
      by_cases e : z.1 = nm
      · simp [q_K_setI, q_I_setI, q_J_setI, q_R_setI, q_L_setI, q_AI_setI, q_AJ_setI, q_AR_setI, q_sz_setI, q_su_setI, q_K_setJ, q_I_setJ, q_J_setJ, q_R_setJ, q_L_setJ, q_AI_setJ, q_AJ_setJ, q_AR_setJ, q_sz_setJ, q_su_setJ, q_K_setR, q_I_setR, q_J_setR, q_R_setR, q_L_setR, q_AI_setR, q_AJ_setR, q_AR_setR, q_sz_setR, q_su_setR, q_K_setAI, q_I_setAI, q_J_setAI, q_R_setAI, q_L_setAI, q_AI_setAI, q_AJ_setAI, q_AR_setAI, q_sz_setAI, q_su_setAI, q_K_setAJ, q_I_setAJ, q_J_setAJ, q_R_setAJ, q_L_setAJ, q_AI_setAJ, q_AJ_setAJ, q_AR_setAJ, q_sz_setAJ, q_su_setAJ, q_K_setAR, q_I_setAR, q_J_setAR, q_R_setAR, q_L_setAR, q_AI_setAR, q_AJ_setAR, q_AR_setAR, q_sz_setAR, q_su_setAR, q_K_newO, q_I_newO, q_J_newO, q_R_newO, q_L_newO, q_AI_newO, q_AJ_newO, q_AR_newO, q_sz_newO, q_su_newO, q_K_newA, q_I_newA, q_J_newA, q_R_newA, q_L_newA, q_AI_newA, q_AJ_newA, q_AR_newA, q_sz_newA, q_su_newA, q_K_skip, q_I_skip, q_J_skip, q_R_skip, q_L_skip, q_AI_skip, q_AJ_skip, q_AR_skip, q_sz_skip, q_su_skip, q_up2, q_up, e]
      · have : ¬ g z.1 = g nm := by
          intro q
          rw [q, x4] at z4
          exact e (pk_inj ox oz z4).symm
        simp [q_K_setI, q_I_setI, q_J_setI, q_R_setI, q_L_setI, q_AI_setI, q_AJ_setI, q_AR_setI, q_sz_setI, q_su_setI, q_K_setJ, q_I_setJ, q_J_setJ, q_R_setJ, q_L_setJ, q_AI_setJ, q_AJ_setJ, q_AR_setJ, q_sz_setJ, q_su_setJ, q_K_setR, q_I_setR, q_J_setR, q_R_setR, q_L_setR, q_AI_setR, q_AJ_setR, q_AR_setR, q_sz_setR, q_su_setR, q_K_setAI, q_I_setAI, q_J_setAI, q_R_setAI, q_L_setAI, q_AI_setAI, q_AJ_setAI, q_AR_setAI, q_sz_setAI, q_su_setAI, q_K_setAJ, q_I_setAJ, q_J_setAJ, q_R_setAJ, q_L_setAJ, q_AI_setAJ, q_AJ_setAJ, q_AR_setAJ, q_sz_setAJ, q_su_setAJ, q_K_setAR, q_I_setAR, q_J_setAR, q_R_setAR, q_L_setAR, q_AI_setAR, q_AJ_setAR, q_AR_setAR, q_sz_setAR, q_su_setAR, q_K_newO, q_I_newO, q_J_newO, q_R_newO, q_L_newO, q_AI_newO, q_AJ_newO, q_AR_newO, q_sz_newO, q_su_newO, q_K_newA, q_I_newA, q_J_newA, q_R_newA, q_L_newA, q_AI_newA, q_AJ_newA, q_AR_newA, q_sz_newA, q_su_newA, q_K_skip, q_I_skip, q_J_skip, q_R_skip, q_L_skip, q_AI_skip, q_AJ_skip, q_AR_skip, q_sz_skip, q_su_skip, q_up2, q_up, e, this, z6]
  · obtain ⟨u, v, q1, q2, q3, q4⟩ := e2 k y hy
    exact ⟨u, v, q1, q2, pr _ _ q3, pr _ _ q4⟩
  · obtain ⟨u, q1, i1, i2, i3, i4, i5, i6, i7, i8, i9, i10, i11, i12, i13, i14⟩ := e3 k y hy
    refine ⟨u, q1, i1, i2, i3, i4, i5, (I0 _ _ (by decide) (by decide)).trans i6, (I0 _ _ (by decide) (by decide)).trans i7, i8, i9, i10, (I0 _ _ (by decide) (by decide)).trans i11, i12, i13, fun k l hl => ?_⟩
    obtain ⟨b, l1, l2, l3, l4, l5, l6, l7⟩ := i14 k l hl
    refine ⟨b, l1, l2, l3, l4, l5, (I0 _ _ (by decide) (by decide)).trans l6, ?_⟩
    show OPartR _ g (u + 2) σ.sz (σ.R 202 b) l.2.2
    cases h1 : σ.R 202 b with
    | none =>
      rw [h1] at l7
      cases h2 : l.2.2 with
      | none => trivial
      | some r => rw [h2] at l7; exact l7.elim
    | some c =>
      rw [h1] at l7
      cases h2 : l.2.2 with
      | none => rw [h2] at l7; exact l7.elim
      | some r =>
        rw [h2] at l7
        have l8 : PartR σ g (u + 2) σ.sz c r := l7
        have := pr c r (l8.lo (by omega) (Nat.le_refl _))
        exact ⟨l8.1, l8.2.1, this.2.2⟩
  · refine ⟨fun y hy => ?_, hwf.2⟩
    have hy' : y ∈ m.ports.map (tellF nm s w) ++ m.wires := hy
    rcases List.mem_append.mp hy' with q | q
    · obtain ⟨z, q1, q2⟩ := List.mem_map.mp q
      have hz := hwf.1 z (List.mem_append_left _ q1)
      rw [← q2]
      unfold tellF
      split
      · rename_i e
        exact ⟨e ▸ hz.1, by show s ≤ 3; omega, hw, fun _ => hw1⟩
      · exact hz
    · exact hwf.1 y (List.mem_append_right _ q)
theorem cw_tell {P : xP} {T : xT} {g : List Nat → Nat} {ix M : Nat} {m : xMod} {σ : xS} {p s w : Nat} (h : PX P T true g ix M m σ p) (hA : AW m) (hs : s < 2) (hw1 : 1 ≤ w) (hw : w ≤ 8) (hR : Rm P σ 2) : Rf (dm_X3_tellPort P (P.base + 6) (nI s) (nI w) σ) (sp_tell T s w m p) (IQ P T true ix M σ 1) (PE P T M σ 1) := by
  have C := h.1
  have ci := C.ci
  have hMs := h.2.2.2.1.1.1
  have cu : σ.R 302 (P.base + 6) = some M := h.2.1
  have kM := h.2.2.2.1.1.2.1
  have b4 := h.2.2.2.1.2.1.2.2.2.1
  unfold dm_X3_tellPort sp_tell
  simp (disch := first | assumption | omega) [ck_T, sm_s, bd_l, bd_r, lt_e, eq_self, and_self, if_true, true_and, and_true, lit_nI, nI_add, nI_mul, nI_sub, nI_clamp, nI_eq, nI_ltI, nI_leI, nN_e, nI_nN, nN_nI, bI_0, bI_1, bI_n, bool_0, bool_1, in_T, lg_cmp0, ofN_nI, ci_0 ci, ci_1 ci, ci_2 ci, ci_3 ci, ci_4 ci, ci_5 ci, ci_6 ci, ci_7 ci, ci_8 ci, ci_9 ci, ci_10 ci, ci_11 ci, ci_12 ci, ci_13 ci, ci_14 ci, ci_15 ci, ci_16 ci, ci_17 ci, ci_18 ci, ci_19 ci, ci_20 ci, ci_21 ci, ci_22 ci, cu, kM]
  refine Rf.bind (rf_name C hR.mono) ?_ ?_
  · rintro _ s' nm ⟨rfl, rfl, ho, hp⟩
    have na := cw_netAmong ci h.2.2.2.1 (fun x hx => (h.2.2.2.2.1 x hx).1) ho (Nat.le_refl _)
    rw [List.take_length] at na
    have rt := cw_refuseIf (P := P) (a := P.base + 1) (b := true) (σ := s') hR.mono
    have rf := cw_refuseIf (P := P) (a := P.base + 1) (b := false) (σ := s') hR.mono
    simp only [bI_tt, bI_ff, if_true] at rt rf
    cases hf : sp_find m.nets nm with
    | none =>
      rw [hf] at na
      refine Rf.er (σ' := s'.skip 6) ?_ ((PE.skip C).mono)
      unfold dm_X3_tellPort_p38 dm_X3_tellPort_p43
      simp (disch := first | assumption | omega) [ck_T, sm_s, bd_l, bd_r, lt_e, eq_self, and_self, if_true, true_and, and_true, lit_nI, nI_add, nI_mul, nI_sub, nI_clamp, nI_eq, nI_ltI, nI_leI, nN_e, nI_nN, nN_nI, bI_0, bI_1, bI_n, bool_0, bool_1, in_T, lg_cmp0, ofN_nI, ci_0 ci, ci_1 ci, ci_2 ci, ci_3 ci, ci_4 ci, ci_5 ci, ci_6 ci, ci_7 ci, ci_8 ci, ci_9 ci, ci_10 ci, ci_11 ci, ci_12 ci, ci_13 ci, ci_14 ci, ci_15 ci, ci_16 ci, ci_17 ci, ci_18 ci, ci_19 ci, ci_20 ci, ci_21 ci, ci_22 ci, kM, b4, na, rt]
    | some x =>
      obtain ⟨xm, xn⟩ := sp_find_mem hf
      obtain ⟨kx, hkx⟩ := List.getElem?_of_mem xm
      obtain ⟨-, x1, x2, x3, x4, x5, x6⟩ := h.2.2.2.1.2.2.2.2.1 kx x hkx
      have x32 := (h.2.2.2.2.1 x xm).2.1
      rw [xn] at x1 x2 x3 x4 x5 x6
      rw [hf] at na
      simp only [Option.map_some, xn] at na
      simp only []
      by_cases e : x.2.1 = 3
      · rw [if_pos e]
        obtain ⟨q1, q2, q3, q4⟩ := cw_tellR h hA hf e hs hw1 hw
        have ci2 := q1.1.ci
        have st := cw_step q1.1 hp
        have C4 := q1.1.step hp
        have f4 := cst_fr P ((s'.setI 401 (g nm) (nI s)).setI 402 (g nm) (nI w)).sz ((s'.setI 401 (g nm) (nI s)).setI 402 (g nm) (nI w))
        rw [e] at x5
        refine Rf.ok (v := ()) (σ' := _) ?_ ⟨g, q1.fr f4 C4, q2.trans f4 (by show M ≤ s'.sz; omega)⟩
        unfold dm_X3_tellPort_p43
        have kk : (s'.setI 401 (g nm) (nI s)).K (g nm) = 5 := q4
        simp (disch := first | assumption | omega) [ck_T, sm_s, bd_l, bd_r, lt_e, eq_self, and_self, if_true, true_and, and_true, lit_nI, nI_add, nI_mul, nI_sub, nI_clamp, nI_eq, nI_ltI, nI_leI, nN_e, nI_nN, nN_nI, bI_0, bI_1, bI_n, bool_0, bool_1, in_T, lg_cmp0, ofN_nI, ci_0 ci, ci_1 ci, ci_2 ci, ci_3 ci, ci_4 ci, ci_5 ci, ci_6 ci, ci_7 ci, ci_8 ci, ci_9 ci, ci_10 ci, ci_11 ci, ci_12 ci, ci_13 ci, ci_14 ci, ci_15 ci, ci_16 ci, ci_17 ci, ci_18 ci, ci_19 ci, ci_20 ci, ci_21 ci, ci_22 ci, ci_0 ci2, ci_1 ci2, ci_2 ci2, ci_3 ci2, ci_4 ci2, ci_5 ci2, ci_6 ci2, ci_7 ci2, ci_8 ci2, ci_9 ci2, ci_10 ci2, ci_11 ci2, ci_12 ci2, ci_13 ci2, ci_14 ci2, ci_15 ci2, ci_16 ci2, ci_17 ci2, ci_18 ci2, ci_19 ci2, ci_20 ci2, ci_21 ci2, ci_22 ci2, kM, b4, na, x3, x5, sortI_3, rf, q3, q4, kk, st]
      · rw [if_neg e]
        have so : (sortI x.2.1 = nN) = False := by rw [sortI_N x32]; exact eq_false e
        refine Rf.er (σ' := s'.skip 6) ?_ ((PE.skip C).mono)
        unfold dm_X3_tellPort_p38 dm_X3_tellPort_p43
        simp (disch := first | assumption | omega) [ck_T, sm_s, bd_l, bd_r, lt_e, eq_self, and_self, if_true, true_and, and_true, lit_nI, nI_add, nI_mul, nI_sub, nI_clamp, nI_eq, nI_ltI, nI_leI, nN_e, nI_nN, nN_nI, bI_0, bI_1, bI_n, bool_0, bool_1, in_T, lg_cmp0, ofN_nI, ci_0 ci, ci_1 ci, ci_2 ci, ci_3 ci, ci_4 ci, ci_5 ci, ci_6 ci, ci_7 ci, ci_8 ci, ci_9 ci, ci_10 ci, ci_11 ci, ci_12 ci, ci_13 ci, ci_14 ci, ci_15 ci, ci_16 ci, ci_17 ci, ci_18 ci, ci_19 ci, ci_20 ci, ci_21 ci, ci_22 ci, kM, b4, na, x3, x5, so, rt]
  · intro g5 s5 hq
    exact ⟨rfl, hq.mono⟩
