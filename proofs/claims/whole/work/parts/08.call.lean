/-! ===== new cells, the script, ends, throws ===== -/
section XN
variable {l : Launch} {G : xG} {M : xM} {pc : Nat} {lv : List (Nat × Value)} {st : List Value} {σ σ' σ2 : xS} {r : xR} {a : Nat}
/-- a heap with one cell more -/
theorem xHS.grow {H H' : Heap} {cell : Cell} {n : Nat} (hH : xHS G σ H) (hz : H'.size = H.size + 1) (hc : H'[H.size]? = some cell) (hn : cell.slots.size = n) (ho : ∀ q : Nat, q < H.size → H'[q]? = H[q]?)
    (hat : ∀ e, xE G.cy σ2 σ.sz = some e → va_at G.D vwCl (σ.sz, e) H') (hb : ∀ b, b ≠ σ.sz → xE G.cy σ2 b = xE G.cy σ b) (h1 : σ2.sz = σ.sz + 1) (h2 : σ2.su = σ.su + n) (h3 : ∀ b : Nat, 12 < σ2.K b ∧ σ2.K b < 20 → σ2.K b = σ.K b ∧ σ2.L b = σ.L b ∧ σ2.AI b = σ.AI b) (h4 : σ.sz + 1 ≤ G.lim) (h5 : σ.su + n ≤ G.slim) : xHS G σ2 H' := by
  obtain ⟨k1, k2, k3, k4, k5, k6, k7, k8⟩ := hH
  refine ⟨by rw [hz, h1, k1], ?_, ?_, ?_, by omega, ?_, ?_, by omega, by omega⟩
  · rw [x_tot_grow hz hc ho, hn, k2, h2]
  · intro b e hbe
    by_cases hba : b = σ.sz
    · subst hba
      exact hat e hbe
    · rw [hb b hba] at hbe
      have q := k3 b e hbe
      exact q.kept (ho b q.lt)
  · intro q hq
    rw [ho q (by omega)]
    exact k4 q hq
  · intro b hb13
    obtain ⟨e0, e1, e2⟩ := h3 b (by omega)
    rw [e1, e2]
    exact k6 b (by omega)
  · intro b hb14
    obtain ⟨e0, e1, e2⟩ := h3 b (by omega)
    rw [e1, e2]
    exact k7 b (by omega)
theorem x_S {H0 H H' : Heap} {locs : List Loc} (hS : va_S G.A H0 H locs) (hz : H'.size = H.size + 1) (ho : ∀ q : Nat, q < H.size → H'[q]? = H[q]?) : va_S G.A H0 H' locs :=
  ⟨Nat.le_trans hS.1 (by omega), fun x h1 h2 => (ho x (Nat.lt_of_lt_of_le h1 hS.1)).trans (hS.2.1 x h1 h2), hS.2.2⟩
theorem x_newO3 {k n : Nat} (hk : ¬ (12 < k ∧ k < 20)) : ∀ b : Nat, 12 < (σ.newO k n).K b ∧ (σ.newO k n).K b < 20 → (σ.newO k n).K b = σ.K b ∧ (σ.newO k n).L b = σ.L b ∧ (σ.newO k n).AI b = σ.AI b := by
  intro b hb
  by_cases h : b = σ.sz
  · subst h
    simp [K_newO, va_up] at hb
    exact absurd hb hk
  · exact ⟨by simp [K_newO, va_up, h], rfl, rfl⟩
theorem x_newA3 {k n : Nat} (hk : ¬ (12 < k ∧ k < 20)) : ∀ b : Nat, 12 < (σ.newA k n).K b ∧ (σ.newA k n).K b < 20 → (σ.newA k n).K b = σ.K b ∧ (σ.newA k n).L b = σ.L b ∧ (σ.newA k n).AI b = σ.AI b := by
  intro b hb
  by_cases h : b = σ.sz
  · subst h
    simp [K_newA, va_up] at hb
    exact absurd hb hk
  · exact ⟨by simp [K_newA, va_up, h], by simp [L_newA, va_up, h], by funext i; simp [AI_newA, h]⟩
theorem x_skip3 {n : Nat} : ∀ b : Nat, 12 < (σ.skip n).K b ∧ (σ.skip n).K b < 20 → (σ.skip n).K b = σ.K b ∧ (σ.skip n).L b = σ.L b ∧ (σ.skip n).AI b = σ.AI b := by
  intro b hb
  by_cases h : b = σ.sz
  · subst h
    simp [K_skip, va_up] at hb
  · exact ⟨by simp [K_skip, va_up, h], rfl, rfl⟩
theorem ev_new {C : String} {T : u_T} {N ci index : Nat} {fs : List Value} (hin : ∀ w ∈ u_ws C T N, w ∈ wG) (ty : Nat → FieldType) (hty : ∀ k, k < N → parseFieldDescriptor (T k).2.2.1 = some (ty k)) (hc : vwCl[ci]? = some (C, T, N)) (hci : ci < 12) (hcl : Cond.classLink M.y.cls index C ∈ wG) (hinst : Cond.instantiable C N ∈ wG) (hini : Cond.initialized C ∈ wG)
    (hz : σ.sz + 1 ≤ G.lim) (hs : σ.su + N ≤ G.slim) (hE2 : xE G.cy (σ.newO (ci + 1) N) σ.sz = some (.inr (ci, fs))) (hfs : ∀ j, j < N → defaultValue (ty j) = vp_V fs j) (hd : decode M.code pc = .ok (.new index, 3))
    (h : Ev l G M (pc + 3) lv (va_rf (some σ.sz) :: st) (σ.newO (ci + 1) N) r σ') : Ev l G M pc lv st σ r σ' := by
  intro p e R s m args below meth c H locs ls C0 hl hH hS
  obtain ⟨hx, hb, -, -, hown, -, -, -, hW, -, ⟨hRc, hRs⟩, hO, -⟩ := id C0
  have hts := x_hts (args := args) hO hW
  have hKn := (x_K hO hW).1 ci _ hc
  refine x_grow fun hg1 hg2 => ?_
  have hh1 := hH.1
  have hh2 := hH.2.1
  refine W.newcK hx hb hown (hts _ hcl) (hts _ hinst) (hts _ hini) rfl hd (by omega) (by omega) hKn.2.1 hh1 fun H' kC hkC e1 z1 o1 => ?_
  obtain ⟨c9, k9, g1, g2, -, -, -, g6⟩ := Cond.instantiable_spec (hts _ hinst)
  cases Option.some.inj (g1.symm.trans hKn.2.1)
  cases Option.some.inj (g2.symm.trans hkC)
  rw [← hh1] at e1 z1 o1
  refine x_canon ?_
  have hbl : (blank (G.D.1 ci) kC).slots.size = N := by simp [blank, g6]
  refine h p e R s m args below meth c H' _ ls C0 hl (hH.grow z1 e1 hbl o1 (fun e2 he2 => ?_) (fun b hb => xP_newO hb) rfl rfl (x_newO3 (by omega)) hz hs) (x_S hS z1 o1)
  cases Option.some.inj (hE2.symm.trans he2)
  exact ⟨_, hc, (u_born ty hts hin hKn hkC (by rw [← hh1]; exact e1) hty).to hfs⟩
theorem x_cyP {s : State} {k t0 : Nat} {cA : ClassId} {ty : FieldType} (hK : va_K G.D vwCl (x_tys G.cy) s) (ht : (x_tys G.cy)[t0]? = some (G.cy k, ty)) (hty : ∀ C, ty ≠ .object C) (hA : s.vm.findClass ("[" ++ ty.toString) = some cA) : cA = G.cy k := by
  have h := (hK.2 t0 _ ht).2
  cases ty with
  | object C => exact absurd rfl (hty C)
  | _ => exact Option.some.inj (hA.symm.trans h)
theorem x_cyO {s : State} {k t0 : Nat} {cA : ClassId} {C : String} (hK : va_K G.D vwCl (x_tys G.cy) s) (ht : (x_tys G.cy)[t0]? = some (G.cy k, .object C)) (hA : s.vm.findClass ("[" ++ (FieldType.object C).toString) = some cA) : cA = G.cy k := by
  obtain ⟨kA, comp, -, -, -, h4⟩ := (hK.2 t0 _ ht).2
  exact Option.some.inj (hA.symm.trans h4)
theorem ev_newaI {atype : ArrayType} {k kc t0 : Nat} {n : Int32} {ty : FieldType} (hk : (k = kc ∧ (k = 20 ∨ k = 21 ∨ k = 23)) ∨ (k = kc + 10 ∧ (k = 31 ∨ k = 33))) (ht : ∀ cy, (x_tys cy)[t0]? = some (cy kc, ty)) (hty : newarray.typeOf atype = ty) (hdf : defaultValue ty = .int 0) (hnO : ∀ C, ty ≠ .object C) (hw : Cond.arrayClass ty ∈ wG) (hn : ¬ n < 0) (hN : n.toNatClampNeg ≤ 60000000) (hcb : componentBytes ty ≤ 8)
    (hz : σ.sz + 1 ≤ G.lim) (hs : σ.su + n.toNatClampNeg ≤ G.slim) (hd : decode M.code pc = .ok (.newarray atype, 2)) (h : Ev l G M (pc + 2) lv (va_rf (some σ.sz) :: st) (σ.newA k n.toNatClampNeg) r σ') : Ev l G M pc lv (.int n :: st) σ r σ' := by
  intro p e R s m args below meth c H locs ls C0 hl hH hS
  obtain ⟨hx, hb, -, -, hown, -, -, -, hW, -, ⟨hRc, hRs⟩, hO, -⟩ := id C0
  have hts := x_hts (args := args) hO hW
  refine x_grow fun hg1 hg2 => ?_
  have hh1 := hH.1
  have hh2 := hH.2.1
  subst hty
  have hby : n.toNatClampNeg * componentBytes (newarray.typeOf atype) ≤ 536870912 := Nat.le_trans (Nat.mul_le_mul hN hcb) (by decide)
  refine va_newaK hx hb (hts _ hw) rfl hd rfl hn rfl hby (by omega) (by omega) hh1 fun H' cA e1 z1 o1 hAr hNm => ?_
  have hcA := x_cyP (x_K hO hW) (ht G.cy) hnO hNm
  subst hcA
  rw [← hh1] at e1 z1 o1
  refine x_canon ?_
  refine h p e R s m args below meth c H' _ ls C0 hl (hH.grow z1 e1 (arrV_size _ _ _) o1 (fun e2 he2 => ?_) (fun b hb => xP_newA hb) rfl rfl (x_newA3 (by omega)) hz hs) (x_S hS z1 o1)
  have hK9 : (σ.newA k n.toNatClampNeg).K σ.sz = k := by simp [K_newA, va_up]
  have hE : xE G.cy (σ.newA k n.toNatClampNeg) σ.sz = some (.inl (G.cy kc, n.toNatClampNeg, .inl (fun _ => 0))) := by
    rcases hk with ⟨rfl, rfl | rfl | rfl⟩ | ⟨h1, rfl | rfl⟩
    · simp [xE, hK9, L_newA, AI_newA, va_up]
    · simp [xE, hK9, L_newA, AI_newA, va_up]
    · simp [xE, hK9, L_newA, AI_newA, va_up]
    · have h2 : kc = 21 := by omega
      subst h2
      simp [xE, hK9, L_newA, AI_newA, va_up]
    · have h2 : kc = 23 := by omega
      subst h2
      simp [xE, hK9, L_newA, AI_newA, va_up]
  cases Option.some.inj (hE.symm.trans he2)
  show H'[σ.sz]? = some (vp_cell _ _)
  rw [← hh1, e1, hdf]
  rfl
theorem ev_newaJ {k : Nat} {n : Int32} (hk : k = 22 ∨ k = 42) (hw : Cond.arrayClass .long ∈ wG) (hn : ¬ n < 0) (hN : n.toNatClampNeg ≤ 60000000)
    (hz : σ.sz + 1 ≤ G.lim) (hs : σ.su + n.toNatClampNeg ≤ G.slim) (hd : decode M.code pc = .ok (.newarray .long, 2)) (h : Ev l G M (pc + 2) lv (va_rf (some σ.sz) :: st) (σ.newA k n.toNatClampNeg) r σ') : Ev l G M pc lv (.int n :: st) σ r σ' := by
  intro p e R s m args below meth c H locs ls C0 hl hH hS
  obtain ⟨hx, hb, -, -, hown, -, -, -, hW, -, ⟨hRc, hRs⟩, hO, -⟩ := id C0
  have hts := x_hts (args := args) hO hW
  refine x_grow fun hg1 hg2 => ?_
  have hh1 := hH.1
  have hh2 := hH.2.1
  have hby : n.toNatClampNeg * componentBytes (newarray.typeOf .long) ≤ 536870912 := Nat.le_trans (Nat.mul_le_mul hN (show componentBytes (newarray.typeOf .long) ≤ 8 by decide)) (by decide)
  refine va_newaK (atype := .long) hx hb (hts (Cond.arrayClass (newarray.typeOf .long)) hw) rfl hd rfl hn rfl hby (by omega) (by omega) hh1 fun H' cA e1 z1 o1 hAr hNm => ?_
  rw [← hh1] at e1 z1 o1
  have hcA := x_cyP (k := 22) (t0 := 2) (x_K hO hW) rfl (fun C h => by cases h) hNm
  subst hcA
  refine x_canon ?_
  refine h p e R s m args below meth c H' _ ls C0 hl (hH.grow z1 e1 (arrV_size _ _ _) o1 (fun e2 he2 => ?_) (fun b hb => xP_newA hb) rfl rfl (x_newA3 (by omega)) hz hs) (x_S hS z1 o1)
  have hK9 : (σ.newA k n.toNatClampNeg).K σ.sz = k := by simp [K_newA, va_up]
  have hE : xE G.cy (σ.newA k n.toNatClampNeg) σ.sz = some (.inl (G.cy 22, n.toNatClampNeg, .inr (.inl (fun _ => 0)))) := by
    rcases hk with rfl | rfl <;> simp [xE, hK9, L_newA, AJ_newA, va_up]
  cases Option.some.inj (hE.symm.trans he2)
  show H'[σ.sz]? = some (vp_cell _ _)
  rw [← hh1, e1]
  rfl
theorem ev_newq {C : String} {index k t0 : Nat} {n : Int32} (hk : 24 ≤ k ∧ k ≤ 28) (ht : ∀ cy, (x_tys cy)[t0]? = some (cy k, .object C)) (hcl : Cond.classLink M.y.cls index C ∈ wG) (hw : Cond.arrayOver (.object C) ∈ lw_tbl) (hn : ¬ n < 0) (hN : n.toNatClampNeg ≤ 60000000)
    (hz : σ.sz + 1 ≤ G.lim) (hs : σ.su + n.toNatClampNeg ≤ G.slim) (hd : decode M.code pc = .ok (.anewarray index, 3)) (h : Ev l G M (pc + 3) lv (va_rf (some σ.sz) :: st) (σ.newA k n.toNatClampNeg) r σ') : Ev l G M pc lv (.int n :: st) σ r σ' := by
  intro p e R s m args below meth c H locs ls C0 hl hH hS
  obtain ⟨hx, hb, -, -, hown, -, -, -, hW, -, ⟨hRc, hRs⟩, hO, -⟩ := id C0
  have hts := x_hts (args := args) hO hW
  refine x_grow fun hg1 hg2 => ?_
  have hh1 := hH.1
  have hh2 := hH.2.1
  have hov : va_AO C s := va_AO.moved hW.alike (va_AO.of (hO.2.1 _ hw))
  refine W.anew hx hb hown (hts _ hcl) (va_AO.use hov) rfl hd rfl hn (by omega) (by omega) (by omega) fun cA kA comp f1 f2 f3 f4 => ?_
  have hcA := x_cyO (x_K hO hW) (ht G.cy) f1
  subst hcA
  generalize hH1 : H.push ({ cls := G.cy k, slots := Array.replicate n.toNatClampNeg .null, vm := .none } : Cell) = H'
  have z1 : H'.size = H.size + 1 := by rw [← hH1, Array.size_push]
  have e1 : H'[H.size]? = some (arrV (G.cy k) n.toNatClampNeg (fun _ => .null)) := by rw [← hH1, Array.getElem?_push_size, ← arrV_new]
  have o1 : ∀ q : Nat, q < H.size → H'[q]? = H[q]? := fun q hq => by rw [← hH1, Array.getElem?_push, if_neg (Nat.ne_of_lt hq)]
  refine x_canon ?_
  rw [hh1]
  refine h p e R s m args below meth c H' _ ls C0 hl (hH.grow z1 e1 (arrV_size _ _ _) o1 (fun e2 he2 => ?_) (fun b hb => xP_newA hb) rfl rfl (x_newA3 (by omega)) hz hs) (x_S hS z1 o1)
  have hK9 : (σ.newA k n.toNatClampNeg).K σ.sz = k := by simp [K_newA, va_up]
  have hE : xE G.cy (σ.newA k n.toNatClampNeg) σ.sz = some (.inl (G.cy k, n.toNatClampNeg, .inr (.inr (.inr (.inr (fun _ => none)))))) := by
    unfold xE
    rw [hK9, if_neg (by omega), if_neg (by omega), if_neg (by omega), if_neg (by omega), if_pos (by omega)]
    simp [L_newA, AR_newA, va_up]
  cases Option.some.inj (hE.symm.trans he2)
  show H'[σ.sz]? = some (vp_cell _ _)
  rw [← hh1, e1]
  rfl
/-- the script -/
theorem ev_sld {i : Int32} (hK : σ.K a = 14) (hi : vp_in i (σ.L a)) (hd : decode M.code pc = .ok (.iaload, 1)) (h : Ev l G M (pc + 1) lv (.int (σ.AI a i.toNatClampNeg) :: st) σ r σ') : Ev l G M pc lv (.int i :: va_rf (some a) :: st) σ r σ' := by
  intro p e R s m args below meth c H locs ls C0 hl hH hS
  obtain ⟨hx, hb, -, -, hown, -, -, -, hW, -, -, hO, hbs, hbe⟩ := id C0
  obtain ⟨hX, hlt⟩ := hH.2.2.2.2.2.2.1 a hK
  exact va_sld (A := G.A) hx hb ((hX.kept (hbe a hlt)).moved hW.alike) (Nat.lt_of_lt_of_le hlt hbs) (Nat.not_le.mpr hlt) hS hi hd (h p e R s m args below meth c H locs ls C0 hl hH hS)
theorem ev_slen (hK : σ.K a = 14) (hd : decode M.code pc = .ok (.arraylength, 1)) (h : Ev l G M (pc + 1) lv (.int (Int32.ofNat (σ.L a)) :: st) σ r σ') : Ev l G M pc lv (va_rf (some a) :: st) σ r σ' := by
  intro p e R s m args below meth c H locs ls C0 hl hH hS
  obtain ⟨hx, hb, -, -, hown, -, -, -, hW, -, -, hO, hbs, hbe⟩ := id C0
  obtain ⟨hX, hlt⟩ := hH.2.2.2.2.2.2.1 a hK
  exact va_slen (A := G.A) hx hb ((hX.kept (hbe a hlt)).moved hW.alike) (Nat.lt_of_lt_of_le hlt hbs) (Nat.not_le.mpr hlt) hS hd (h p e R s m args below meth c H locs ls C0 hl hH hS)
end XN
