/-! ===== a method's contract EvM, out of Ev at its entry; calls ===== -/
/-- the word that pins a method's code -/
def xM.word (M : xM) : Cond := match M.hh with
  | [] => .code M.y M.code M.maxL M.ret
  | h => .codeWith M.y M.code M.maxL M.ret h
theorem x_word {M : xM} {args : Array Value} {s : State} {m : MethodId} (hn : s.methodNamed? M.y = some m) (h : M.word.before args s = true) :
    ∃ meth c, s.vm.method? m = some meth ∧ meth.code = some c ∧ c.code = M.code ∧ c.maxLocals = M.maxL ∧ meth.sig.returnType = M.ret ∧ meth.locks = false ∧ c.exceptionTable.toList = tableOf M.hh ∧ parseMethodDescriptor M.y.desc = some meth.sig := by
  unfold xM.word at h
  cases hh : M.hh with
  | nil =>
    rw [hh] at h
    obtain ⟨meth, c, h1, h2, h3, h4, h5, h6, h7, h8⟩ := Cond.code_spec hn h
    refine ⟨meth, c, h1, h2, h3, h4, h5, h6, ?_, h8⟩
    rw [Array.isEmpty_iff.mp h7]
    rfl
  | cons a b =>
    rw [hh] at h
    obtain ⟨m9, meth, c, hn9, h1, h2, h3, h4, h7, h5, h6, h8⟩ := Cond.codeWith_spec h
    cases hn.symm.trans hn9
    exact ⟨meth, c, h1, h2, h3, h4, h5, h6, by rw [← h7, table_eq], h8⟩
def x_rm (G : xG) (M : xM) (σ : xS) : Room := { frames := M.fr, cells := G.lim - σ.sz, slots := G.slim - σ.su, locals := M.lo }
def EvM (l : Launch) (G : xG) (M : xM) (av : List Value) (σ : xS) (r : xR) (σ' : xS) : Prop :=
  vx_Met l M.y [M.word] (x_rm G M σ) (va_Pc av (fun U => xHS G σ U.heap ∧ G.s0.WarmedH U.vm)) (xQc G r σ') (xXC G r σ') (G.lim - σ.sz) (G.slim - σ.su) G.A
section XM2
variable {l : Launch} {G : xG} {M M' : xM} {pc : Nat} {lv : List (Nat × Value)} {st : List Value} {σ σ' σ1 : xS} {r r1 : xR} {av : List Value}
theorem evM_of (hO : x_OK l G) (hp : plainName M.y.cls = true) (hlen : (lg_sl av).length ≤ M.maxL) (h : Ev l G M 0 (lv_args 0 av) [] σ r σ') : EvM l G M av σ r σ' := by
  refine MetFree.of_bodyS (code := M.code) (maxLocals := M.maxL) (ret := M.ret) hp ?_ ?_
  · intro args s m h9 hn
    obtain ⟨meth, c, h1, h2, h3, h4, h5, h6, -, -⟩ := x_word hn (atoms_spec (ws := [M.word]) h9 _ List.mem_cons_self)
    exact ⟨meth, c, h1, h2, h3, h4, h5, h6⟩
  · intro p e s m args below meth c s₁ B hml hP _
    obtain ⟨rfl, hH, hW⟩ := hP
    have hh0 : s₁.heap = s.heap := by rw [B.state]; rfl
    obtain ⟨meth9, c9, q1, q2, -, -, -, -, q7, -⟩ := x_word B.named (atoms_spec (ws := [M.word]) B.pre _ List.mem_cons_self)
    cases Option.some.inj (q1.symm.trans B.method)
    cases Option.some.inj (q2.symm.trans (Stand.of_body B).code)
    have hh := hH
    obtain ⟨k1, k2, k3, k4, k5, k6, k7, k8, k9⟩ := hh
    have C0 : xC l G M p (headSpec [M.word] (x_rm G M σ)).room s m meth c := ⟨B.exec, B.bytes, hml, B.returns, findClass_of_methodNamed B.named, B.notSynchronized, (name_of_methodNamed B.named B.method).1, q7, hW, ⟨Nat.le_refl _, Nat.le_refl _⟩, ⟨by show s.heap.size + (G.lim - σ.sz) = G.lim; omega, by show x_tot s.heap + (G.slim - σ.su) = G.slim; omega⟩, hO, k5, k4⟩
    have K : W p l e (headSpec [M.word] (x_rm G M σ)).room s m av.toArray below meth c s.heap [] 0 0 (vx_MQ below (xQc G r σ') (xXC G r σ') av.toArray s (G.lim - σ.sz) (G.slim - σ.su) G.A) (entryFrame m av.toArray M.maxL) := by
      have hl := lv_entry av (n := M.maxL) hlen
      rw [lg_entry_eq]
      generalize (lg_sl av ++ List.replicate (M.maxL - (lg_sl av).length) Slot.unset).toArray = ls at hl ⊢
      refine x_canon ?_
      exact h p e _ s m av.toArray below meth c s.heap [] ls C0 hl hH va_S.rf
    obtain ⟨t, a1, o, b1, b2, b3⟩ := K s₁ hh0 (Stand.of_body B)
    exact ⟨t, o, a1, b1, b2, b3⟩
/-- how an instruction comes to its callee -/
def xLink (l : Launch) (M : xM) (G : xG) (y : MethodName) (pc : Nat) (st rest av : List Value) (σ : xS) : Prop :=
  ∀ (p : Program) (e : Env) (R : Room) (s : State) (m : MethodId) (args : Array Value) (below : List Frame) (meth : Method) (c : Code) (H : Heap) (locs : List Loc) (ls : Array Slot) (cells slots : Nat) (T : State),
    xC l G M p R s m meth c → xHS G σ H → T.heap = H → Stand p l e R s m args below meth c T locs cells slots →
    ∃ (mk : MethodId) (vm₁ : Vm), s.methodNamed? y = some mk ∧ Stand p l e R s m args below meth c (T.setVm vm₁) locs cells slots ∧
      ∀ target, (∀ acts, Steps p.tables e below (doInvoke e ((T.setVm vm₁).setTop (F0 m pc ls rest)) acts mk av.toArray).1 target) → Steps p.tables e below (T.setTop (F0 m pc ls st)) target
theorem ev_call {ig : Instr} {rest : List Value} (hL : xLink l M G M'.y pc st rest av σ) (hM : EvM l G M' av σ r1 σ1) (hw : M'.word ∈ lw_tbl) (hg : goodWord M'.word = true) (hi : Cond.initialized M'.y.cls ∈ wG) (hd : decode M.code pc = .ok (ig, 3)) (hfr : M'.fr + 1 ≤ M.fr) (hlo : 8 + (M'.maxL + 11) + M'.lo ≤ M.lo) (hst : (rest.map fun v => v.category).sum ≤ 8)
    (h : ∀ v, r1 = .inl v → Ev l G M (pc + 3) lv (v.toList ++ rest) σ1 r σ') (hX : ∀ E, r1 = .inr E → EvX l G M pc lv rest σ1 E r σ') : Ev l G M pc lv st σ r σ' := by
  intro p e R s m args below meth c H locs ls C0 hl hH hS
  obtain ⟨hx, hb, hml, hrt, hown, hlk, -, htb, hW, ⟨hF1, hF2⟩, ⟨hRc, hRs⟩, hO, hbs, hbe⟩ := id C0
  have hh := hH
  obtain ⟨k1, k2, k3, k4, k5, k6, k7, k8, k9⟩ := hh
  have hbl : FrameBlind (va_Pc av (fun U => xHS G σ U.heap ∧ G.s0.WarmedH U.vm)) := fun a U g mk q => ⟨q.1, q.2.1, q.2.2⟩
  have hwp : ∀ (w : Cond), w ∈ [M'.word] → ∀ (a' : Array Value) (U : State), s.WarmedH U.vm → w.before a' U = true := fun w h9 a' U hU => by
    cases List.mem_singleton.mp h9
    exact x_wG hO (State.WarmedH.trans hW hU) hw hg
  have hip : ∀ (a' : Array Value) (U : State), s.WarmedH U.vm → (Cond.initialized M'.y.cls).before a' U = true := fun a' U hU => x_hts hO (State.WarmedH.trans hW hU) _ hi
  have hK : vx_Back l R p e below s args M'.y 3 8 (PreOf R (G.lim - σ.sz) (G.slim - σ.su) (va_Pc av (fun U => xHS G σ U.heap ∧ G.s0.WarmedH U.vm))) (PostOf (xQc G r1 σ1) (G.lim - σ.sz) (G.slim - σ.su) G.A) (vx_Post (xXC G r1 σ1) (G.lim - σ.sz) (G.slim - σ.su) G.A) := by
    cases hc : M'.hh with
    | nil => exact vx_back (bytes := M'.code) (maxL := M'.maxL) (ret := M'.ret) hM hbl rfl rfl (Nat.le_trans hfr hF1) (Nat.le_trans hlo hF2) hwp (by simp [xM.word, hc]) hip
    | cons a b => exact vx_backW (bytes := M'.code) (maxL := M'.maxL) (ret := M'.ret) (hh := a :: b) hM hbl rfl rfl (Nat.le_trans hfr hF1) (Nat.le_trans hlo hF2) hwp (by simp [xM.word, hc]) hip
  intro T hT X
  obtain ⟨g1, g2⟩ := x_grown hT X
  obtain ⟨mk, vm₁, hn, X₁, hst1⟩ := hL p e R s m args below meth c H locs ls _ _ T C0 hH hT X
  have hdc : decode c.code (F0 m pc ls rest).pc = .ok (ig, 3) := by rw [hb]; exact hd
  rcases hK m meth c ⟨T.setVm vm₁, locs, H.size - s.heap.size, x_tot H - x_tot s.heap⟩ (F0 m pc ls rest) ig mk av.toArray X₁ rfl (hl.1.trans hml.symm) hdc (by show 2 * 0 + (rest.map fun v => v.category).sum ≤ 8; omega) (X₁.named hn) ⟨by show H.size - s.heap.size + _ ≤ _; omega, by show x_tot H - x_tot s.heap + _ ≤ _; omega, rfl, by show xHS G σ T.heap; rw [hT]; exact hH, State.WarmedH.trans hW X₁.warmed⟩ with ⟨v, ⟨U', l2, c2, s2⟩, X', ⟨g', mk', t, L, e1, e2, hq, h1, hL1, h2, h3⟩, stp⟩ | ⟨q, ⟨U', l2, c2, s2⟩, X', ⟨g', mk', t, L, E, ce, e1, e2, hq, hce, hcv, hcl, h1, hL1, h2, h3⟩, stp⟩
  · dsimp only [Pt.U, Pt.locs, Pt.cells, Pt.slots] at X' e1 e2 h1 h2 h3 stp
    obtain ⟨v9, hr9, hv9, hH9, -⟩ := hq
    cases hv9
    subst h1
    have hH1 : xHS G σ1 U'.heap := by rw [e1]; exact hH9
    have hS1 : va_S G.A s.heap U'.heap (locs ++ L) := by
      refine ⟨by have := (x_grown rfl X').1; exact this, fun q9 h1 h2 => ?_, fun z hz => ?_⟩
      · have hq9 : q9 < G.base := Nat.not_le.mp h2
        rw [hH1.2.2.2.1 q9 hq9, hbe q9 hq9]
      · rcases List.mem_append.mp hz with h9 | h9
        · exact hS.2.2 z h9
        · exact hL1 z h9
    obtain ⟨t2, a1, b1⟩ := x_canon (h _ hr9 p e R s m args below meth c U'.heap (locs ++ L) ls C0 hl hH1 hS1) U' rfl X'
    refine ⟨t2, hst1 _ (fun acts => ?_), b1⟩
    rw [doInvoke_state]
    exact stp.trans a1
  · dsimp only [Pt.U, Pt.locs, Pt.cells, Pt.slots] at X' e1 e2 h1 h2 h3 stp hcl
    obtain ⟨hr9, hH9, -⟩ := hq
    subst h1
    have hH1 : xHS G σ1 U'.heap := by rw [e1]; exact hH9
    have hS1 : va_S G.A s.heap U'.heap (locs ++ L) := by
      refine ⟨by have := (x_grown rfl X').1; exact this, fun q9 h1 h2 => ?_, fun z hz => ?_⟩
      · have hq9 : q9 < G.base := Nat.not_le.mp h2
        rw [hH1.2.2.2.1 q9 hq9, hbe q9 hq9]
      · rcases List.mem_append.mp hz with h9 | h9
        · exact hS.2.2 z h9
        · exact hL1 z h9
    obtain ⟨t2, a1, b1⟩ := x_canonX (hX E hr9 p e R s m args below meth c U'.heap (locs ++ L) ls q ce C0 hl hH1 hS1 (by rw [e1]; exact hce) hcv (vx_cls X₁.warmed hcl)) U' rfl X'
    refine ⟨t2, hst1 _ (fun acts => ?_), b1⟩
    rw [doInvoke_state]
    exact stp.trans a1
theorem evX_catch {E name : String} {x : Nat × Nat × Nat × Nat} {xs : List (Nat × Nat × Nat × Nat)} (hh : M.hh = x :: xs) (hc : covers ⟨x.1, x.2.1, x.2.2.1, x.2.2.2⟩ pc = true) (h0 : x.2.2.2 ≠ 0) (hlink : Cond.classLink M.y.cls x.2.2.2 name ∈ wG) (hcast : Cond.castable E name ∈ lw_tbl) (h : ∀ q : Nat, Ev l G M x.2.2.1 lv [va_rf (some q)] σ r σ') : EvX l G M pc lv st σ E r σ' := by
  intro p e R s m args below meth c H locs ls q ce C0 hl hH hS hce hv hcl
  obtain ⟨hx, hb, hml, hrt, hown, hlk, -, htb, hW, -, ⟨hRc, hRs⟩, hO, hbs, hbe⟩ := id C0
  intro T hT X
  obtain ⟨vm', X', st9⟩ := x_caught X (g := F0 m pc ls st) rfl hown (x := ⟨x.1, x.2.1, x.2.2.1, x.2.2.2⟩) (suf := tableOf xs) (by rw [htb, hh]; rfl) hc h0 (x_hts hO hW _ hlink) (x_wC hO hW hcast rfl) (by rw [hT]; exact hce) hv hcl
  obtain ⟨t, a1, b1⟩ := h q p e R s m args below meth c H locs ls C0 hl hH hS (T.setVm vm') hT X'
  exact ⟨t, st9 _ a1, b1⟩
end XM2
