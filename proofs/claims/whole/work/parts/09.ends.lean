/-! ===== ends, throws, catches, calls ===== -/
section XT
variable {p : Program} {l : Launch} {e : Env} {R : Room} {s : State} {m : MethodId} {args : Array Value} {below : List Frame} {meth : Method} {c : Code} {H : Heap} {locs : List Loc} {cells slots : Nat} {Q : State → Prop}
variable {mc ms : Nat} {free : Addr → Prop} {ls : Array Slot} {rest : List Value}
variable {Qc : Array Value → State → Outcome → State → Prop} {XC : String → State → State → Prop}
/-- after the kit's vx_throw0, with the heap's size told exactly -/
theorem x_throw0 {cc : ByteArray} {pc : Nat} (hexec : p.tables.exec = Jvm.exec) (hb : c.code = cc) (hl : l.stackTraces = false) {own cls : String} {names : List String} {ik ic mc ms : Nat} {A : Nat → Prop}
    (hown : s.vm.findClass own = some m.cls) (hcls : Bundle.fit cls = true) (hnames : ∀ n ∈ names, Bundle.fit n = true)
    (hk : (Cond.classLink own ik cls).before args s = true) (hini : (Cond.initialized cls).before args s = true) (hat : ∀ w ∈ vx_at0 own ic cls names, w.before args s = true)
    (hgood : ∀ w ∈ Cond.classLink own ik cls :: Cond.initialized cls :: vx_at0 own ic cls names, vx_ot w = true)
    (hU : vx_Zq Bundle.tN "UNASSIGNED_STACK" Bundle.steD A s s.heap) (hN : vx_Zq Bundle.tN "SUPPRESSED_SENTINEL" Bundle.listD A s s.heap) (hS : va_S A s.heap H locs) (hsize : ls.size = c.maxLocals)
    (d0 : decode cc pc = .ok (.new ik, 3)) (d3 : decode cc (pc + 3) = .ok (.dup, 1)) (d4 : decode cc (pc + 4) = .ok (.invokespecial ic, 3)) (d7 : decode cc (pc + 7) = .ok (.athrow, 1))
    (hout : ∀ x ∈ c.exceptionTable.toList, covers x (pc + 7) = false)
    (hRframes : names.length + 3 < R.frames) (hRlocals : (rest.map fun v => v.category).sum + (13 * (names.length + 1) + 42) ≤ R.locals) (hRcells : cells + 1 ≤ R.cells) (hRslots : slots + 6 ≤ R.slots) (hlocks : meth.locks = false)
    (hx : ∀ t : State, s.vm.Alike t.vm → t.heap.size = H.size + 1 → x_tot t.heap = x_tot H + 6 → (∀ q : Nat, q < H.size → t.heap[q]? = H[q]?) → XC cls s t)
    (hf : ∀ z ∈ locs, free z.base) (hc : cells + 1 ≤ mc) (hs : slots + 6 ≤ ms) :
    W p l e R s m args below meth c H locs cells slots (vx_MQ below Qc XC args s mc ms free) (F0 m pc ls rest) := by
  intro T hT X
  have htr : e.platform.stackTraces = false := (show e.platform.stackTraces = l.stackTraces by rw [X.admits.platform]).trans hl
  have Y := vx_rebase X (R' := { frames := R.frames, locals := R.locals, cells := 1, slots := 6 }) (Nat.le_refl _) (Nat.le_refl _) hRcells hRslots
  obtain ⟨s', hA⟩ : ∃ z, z = (T.setVm s.vm).setFrames (.invoking m args :: below) := ⟨_, rfl⟩
  rw [← hA] at Y
  have hvm : s'.vm = s.vm := by rw [hA]; rfl
  have hhp : s'.heap = H := by rw [hA]; exact hT
  have hW0 : s.WarmedH s'.vm := by rw [hvm]; exact State.WarmedH.refl s
  have hat' : ∀ w ∈ vx_at0 own ic cls names, w.before args s' = true := fun w hw => vx_ot_at hW0 hvm.symm (hgood w (List.mem_cons_of_mem _ (List.mem_cons_of_mem _ hw))) (hat w hw)
  have hk' : (Cond.classLink own ik cls).before args s' = true := vx_ot_at hW0 hvm.symm (hgood _ List.mem_cons_self) hk
  have hini' : (Cond.initialized cls).before args s' = true := vx_ot_at hW0 hvm.symm (hgood _ (List.mem_cons_of_mem _ List.mem_cons_self)) hini
  have hU' : vx_Zq Bundle.tN "UNASSIGNED_STACK" Bundle.steD A s' s'.heap := by rw [hhp]; exact vx_Zq.moved hW0.alike (hU.kept hS.2.1)
  have hN' : vx_Zq Bundle.tN "SUPPRESSED_SENTINEL" Bundle.listD A s' s'.heap := by rw [hhp]; exact vx_Zq.moved hW0.alike (hN.kept hS.2.1)
  have h : ∀ w ∈ Bundle.ownAtoms0 own ic cls names, w.before args s' = true := vx_own hat' (vx_isRefq hU'.1) (vx_isRefq hN'.1) hU'.2.word hN'.2.word
  have hown' : s'.vm.findClass own = some m.cls := by rw [hvm]; exact hown
  have hins : (Cond.instantiable cls 6).before args s' = true := h _ (by simp [Bundle.ownAtoms0])
  obtain ⟨vm₁, cX, kX, hfX, hkX, -, -, X₁, st1⟩ := Y.newCold hexec (own := own) (C := cls) (index := ik) (n := 6) hown' hk' hins hini'
    (g := F0 m pc ls rest) rfl (by rw [hb]; exact d0) (Nat.le_refl _) (Nat.le_refl _)
  generalize hT1 : (T.setVm vm₁).pushCell { cls := cX, slots := kX.instanceTypes.map defaultValue, vm := .none } = T1 at X₁ st1
  have hcat : (Value.ref T.heap.size).category = 1 := rfl
  have hcellA : T1.heap[T.heap.size]? = some (freshCell cX kX) := by rw [← hT1]; exact State.heap_pushCell_size _ _
  have d3' : decode c.code (pc + 3) = .ok (.dup, 1) := by rw [hb]; exact d3
  obtain ⟨U, hsteps, hrun, hend, hW, hsame, ce, hce, hO⟩ := X₁.ctorThrow0 hexec htr (own := own) (cls := cls) (names := names) (ic := ic) hown' hcls hnames h (fun x hx => nomatch hx) hfX hkX hcellA (by rw [hhp, hT]; exact Nat.le_refl _)
    (g := { method := m, pc := pc + 4, locals := ls, stack := .ref T.heap.size :: .ref T.heap.size :: rest, locked := none }) rfl hsize rfl rfl (rest := rest) rfl
    (by rw [hb]; exact d4) (by rw [hb]; exact d7) hout hRframes (by simp only [List.map_cons, List.sum_cons, hcat]; omega) hlocks
  obtain ⟨f1, f2⟩ := vx_frame hsame
  rw [hhp] at f1 f2
  have hz9 : U.heap.size = H.size + 1 := by
    have z1 : U.heap.size ≤ s'.heap.size + (0 + 1) := hsame.2.2.1
    have z2 : T.heap.size < U.heap.size := (Array.getElem?_eq_some_iff.mp hce).1
    rw [hhp] at z1
    rw [hT] at z2
    omega
  have f3 : ∀ q : Nat, q < H.size → U.heap[q]? = H[q]? := fun q hq => f2 q hq (fun z hz => nomatch hz)
  have ht9 : x_tot U.heap = x_tot H + 6 := by
    rw [x_tot_grow hz9 (by rw [← hT]; exact hce) f3, hO.size]
  have hWs : s.WarmedH U.vm := State.WarmedH.trans hW0 hW
  have hcl : s.vm.findClass cls = some ce.cls := by
    have h9 := hO.cls
    rw [hvm] at h9
    exact h9
  have hall : s.sameButNew ({ U with vm := s.vm } : State) locs mc ms := by
    subst hA
    obtain ⟨e1, e2⟩ := hsame
    rw [State.setFrames_setFrames] at e1
    have h2 : (T.setVm s.vm).sameButNew ({ U with vm := s.vm } : State) [] (0 + 1) (0 + 6) := ⟨e1, e2⟩
    have h3 := X.same.trans h2
    rw [List.append_nil] at h3
    exact h3.mono hc hs
  refine ⟨U, ?_, .threw T.heap.size, hrun, hend, Or.inr ⟨T.heap.size, rfl, cls, ce, locs, hx U hWs.alike hz9 ht9 f3, hce, hO.vm, hcl, hWs, hall, hf⟩⟩
  refine st1 _ ?_
  show Steps p.tables e below (T1.setTop { method := m, pc := pc + 3, locals := ls, stack := .ref T.heap.size :: rest, locked := none }) _
  jvm_step X₁.here [X₁.here.top, hexec, d3', Value.category]
  exact hsteps
end XT
section XE
variable {l : Launch} {G : xG} {M : xM} {pc : Nat} {lv : List (Nat × Value)} {st : List Value} {σ σ' σ2 : xS} {r : xR} {a : Nat}
theorem xHS.skip {H H' : Heap} {n : Nat} (hH : xHS G σ H) (hz : H'.size = H.size + 1) (ht : x_tot H' = x_tot H + n) (ho : ∀ q : Nat, q < H.size → H'[q]? = H[q]?) (h4 : σ.sz + 1 ≤ G.lim) (h5 : σ.su + n ≤ G.slim) : xHS G (σ.skip n) H' := by
  obtain ⟨k1, k2, k3, k4, k5, k6, k7, k8⟩ := hH
  refine ⟨by rw [hz, k1]; rfl, by rw [ht, k2]; rfl, ?_, ?_, by omega, ?_, ?_, h4, h5⟩
  · intro b e hbe
    by_cases hba : b = σ.sz
    · subst hba
      simp [xE, K_skip, va_up] at hbe
    · rw [xP_skip hba] at hbe
      have q := k3 b e hbe
      exact q.kept (ho b q.lt)
  · intro q hq
    rw [ho q (by omega)]
    exact k4 q hq
  · intro b hb13
    obtain ⟨e0, e1, e2⟩ := x_skip3 (σ := σ) (n := n) b (by omega)
    rw [e1, e2]
    exact k6 b (by omega)
  · intro b hb14
    obtain ⟨e0, e1, e2⟩ := x_skip3 (σ := σ) (n := n) b (by omega)
    rw [e1, e2]
    exact k7 b (by omega)
theorem ev_iret {v : Int32} {ty : FieldType} (hr : M.ret = some ty) (hn : narrow ty (.int v) = .int v) (hd : decode M.code pc = .ok (.ireturn, 1)) : Ev l G M pc lv [.int v] σ (.inl (some (.int v))) σ := by
  intro p e R s m args below meth c H locs ls C0 hl hH hS
  obtain ⟨hx, hb, -, hrt, hown, hlk, -, -, hW, -, ⟨hRc, hRs⟩, hO, -⟩ := id C0
  have hh := hH
  obtain ⟨k1, k2, -, -, -, -, -, k8, k9⟩ := hh
  refine x_grow fun g1 g2 => W.widen (k := R.cells) (n := R.slots) (by omega) (by omega) (vx_ret (W.zret hx hb (hrt.trans hr) hn (fun t ht hWt => ⟨_, rfl, rfl, by rw [ht]; exact hH, hWt⟩) hS.2.2 hd hlk))
theorem ev_lret {v : Int64} (hr : M.ret = some .long) (hd : decode M.code pc = .ok (.lreturn, 1)) : Ev l G M pc lv [.long v] σ (.inl (some (.long v))) σ := by
  intro p e R s m args below meth c H locs ls C0 hl hH hS
  obtain ⟨hx, hb, -, hrt, hown, hlk, -, -, hW, -, ⟨hRc, hRs⟩, hO, -⟩ := id C0
  have hh := hH
  obtain ⟨k1, k2, -, -, -, -, -, k8, k9⟩ := hh
  refine x_grow fun g1 g2 => W.widen (k := R.cells) (n := R.slots) (by omega) (by omega) (vx_ret (W.lret hx hb (hrt.trans hr) (fun t ht hWt => ⟨_, rfl, rfl, by rw [ht]; exact hH, hWt⟩) hS.2.2 hd hlk))
theorem ev_vret (hr : M.ret = none) (hd : decode M.code pc = .ok (.return_, 1)) : Ev l G M pc lv [] σ (.inl none) σ := by
  intro p e R s m args below meth c H locs ls C0 hl hH hS
  obtain ⟨hx, hb, -, hrt, hown, hlk, -, -, hW, -, ⟨hRc, hRs⟩, hO, -⟩ := id C0
  have hh := hH
  obtain ⟨k1, k2, -, -, -, -, -, k8, k9⟩ := hh
  refine x_grow fun g1 g2 => W.widen (k := R.cells) (n := R.slots) (by omega) (by omega) (vx_ret (W.vret hx hb (hrt.trans hr) (fun t ht hWt => ⟨_, rfl, rfl, by rw [ht]; exact hH, hWt⟩) hS.2.2 hd hlk))
theorem ev_aret {x : Option Nat} {C : String} (hr : M.ret = some (.object C)) (hd : decode M.code pc = .ok (.areturn, 1)) : Ev l G M pc lv [va_rf x] σ (.inl (some (va_rf x))) σ := by
  intro p e R s m args below meth c H locs ls C0 hl hH hS
  obtain ⟨hx, hb, -, hrt, hown, hlk, -, -, hW, -, ⟨hRc, hRs⟩, hO, -⟩ := id C0
  have hh := hH
  obtain ⟨k1, k2, -, -, -, -, -, k8, k9⟩ := hh
  refine x_grow fun g1 g2 => W.widen (k := R.cells) (n := R.slots) (by omega) (by omega) (vx_ret (W.aret hx hb (hrt.trans hr) (Or.inl ⟨_, rfl⟩) (by cases x; exact Or.inl rfl; exact Or.inr ⟨_, rfl⟩) (fun t ht hWt => ⟨_, rfl, rfl, by rw [ht]; exact hH, hWt⟩) hS.2.2 hd hlk))
/-- a word at the law's start, where a method stands -/
def x_cw (w : Cond) : Bool := goodWord w || (match w with | .castable _ _ => true | .declares _ => true | _ => false)
theorem x_wC {args : Array Value} {s : State} {w : Cond} (hO : x_OK l G) (hW : G.s0.WarmedH s.vm) (hw : w ∈ lw_tbl) (hg : x_cw w = true) : w.before args s = true := by
  by_cases h : goodWord w = true
  · exact x_wG hO hW hw h
  · have h0 := hO.2.1 w hw
    cases w <;> simp [x_cw, h] at hg
    · exact va_Nw.use rfl (va_Nw.warmD hW (va_Nw.of rfl h0))
    · exact va_Nw.use rfl (va_Nw.warmC hW (va_Nw.of rfl h0))
theorem x_Zq {s : State} {n d : String} (hW : G.s0.WarmedH s.vm) (hb : G.base = G.s0.heap.size) (hbe : ∀ q : Nat, q < G.base → s.heap[q]? = G.s0.heap[q]?) (h : vx_Zq Bundle.tN n d G.A G.s0 G.s0.heap) : vx_Zq Bundle.tN n d G.A s s.heap :=
  vx_Zq.moved hW.alike (h.kept fun q _ hA => hbe q (Nat.not_le.mp hA))
theorem ev_throw {cls : String} {names : List String} {ik ic : Nat} (hcls : Bundle.fit cls = true) (hnames : ∀ n ∈ names, Bundle.fit n = true) (hw : ∀ w ∈ Cond.classLink M.y.cls ik cls :: Cond.initialized cls :: vx_at0 M.y.cls ic cls names, w ∈ lw_tbl ∧ x_cw w = true ∧ vx_ot w = true)
    (d0 : decode M.code pc = .ok (.new ik, 3)) (d3 : decode M.code (pc + 3) = .ok (.dup, 1)) (d4 : decode M.code (pc + 4) = .ok (.invokespecial ic, 3)) (d7 : decode M.code (pc + 7) = .ok (.athrow, 1)) (hh : M.hh = [])
    (hf : names.length + 3 < M.fr) (hlo : (st.map fun v => v.category).sum + (13 * (names.length + 1) + 42) ≤ M.lo) (hz : σ.sz + 1 ≤ G.lim) (hs : σ.su + 6 ≤ G.slim) : Ev l G M pc lv st σ (.inr cls) (σ.skip 6) := by
  intro p e R s m args below meth c H locs ls C0 hl hH hS
  obtain ⟨hx, hb, hml, hrt, hown, hlk, -, htb, hW, ⟨hfr, hlo9⟩, ⟨hRc, hRs⟩, hO, hbs, hbe⟩ := id C0
  have hk1 := hH.1
  have hk2 := hH.2.1
  have hat : ∀ w ∈ Cond.classLink M.y.cls ik cls :: Cond.initialized cls :: vx_at0 M.y.cls ic cls names, w.before args s = true := fun w h => x_wC hO hW (hw w h).1 (hw w h).2.1
  refine x_grow fun g1 g2 => ?_
  exact x_throw0 hx hb hO.1 hown hcls hnames (hat _ List.mem_cons_self) (hat _ (List.mem_cons_of_mem _ List.mem_cons_self)) (fun w h => hat w (List.mem_cons_of_mem _ (List.mem_cons_of_mem _ h))) (fun w h => (hw w h).2.2)
    (x_Zq hW hO.2.2.2.1 hbe hO.2.2.2.2.1) (x_Zq hW hO.2.2.2.1 hbe hO.2.2.2.2.2) hS (hl.1.trans hml.symm) d0 d3 d4 d7 (by rw [htb, hh]; intro x hx9; cases hx9) (by omega) (by omega) (by omega) (by omega) hlk
    (fun t ha ht1 ht2 ht3 => ⟨rfl, hH.skip ht1 ht2 ht3 hz hs, ha⟩) hS.2.2 (by omega) (by omega)
/-- with E thrown over the frame -/
def EvX (l : Launch) (G : xG) (M : xM) (pc : Nat) (lv : List (Nat × Value)) (st : List Value) (σ : xS) (E : String) (r : xR) (σ' : xS) : Prop :=
  ∀ (p : Program) (e : Env) (R : Room) (s : State) (m : MethodId) (args : Array Value) (below : List Frame) (meth : Method) (c : Code) (H : Heap) (locs : List Loc) (ls : Array Slot) (q : Addr) (ce : Cell),
    xC l G M p R s m meth c → lv_has ls M.maxL lv → xHS G σ H → va_S G.A s.heap H locs → H[q]? = some ce → ce.vm = .none → s.vm.findClass E = some ce.cls →
    vx_W p l e R s m args below meth c H locs (H.size - s.heap.size) (x_tot H - x_tot s.heap) (vx_MQ below (xQc G r σ') (xXC G r σ') args s R.cells R.slots G.A) (F0 m pc ls st) q
theorem evX_out {E : String} (ho : (tableOf M.hh).all (fun x => !covers x pc) = true) : EvX l G M pc lv st σ E (.inr E) σ := by
  intro p e R s m args below meth c H locs ls q ce C0 hl hH hS hc hv hcl
  obtain ⟨hx, hb, hml, hrt, hown, hlk, -, htb, hW, -, ⟨hRc, hRs⟩, hO, hbs, hbe⟩ := id C0
  have hh := hH
  obtain ⟨k1, k2, -, -, -, -, -, k8, k9⟩ := hh
  intro T hT X
  obtain ⟨g1, g2⟩ := x_grown hT X
  exact vx_out (outside_of_table htb ho) hlk hc hv hcl (fun t ht ha => ⟨rfl, by rw [ht]; exact hH, ha⟩) hS.2.2 (by omega) (by omega) T hT X
end XE
