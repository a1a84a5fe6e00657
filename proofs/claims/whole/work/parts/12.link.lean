/-! ===== how each instruction comes to its callee ===== -/
section XL
variable {l : Launch} {G : xG} {M M' : xM} {pc index b ci : Nat} {st rest As av : List Value} {σ σ' : xS} {C : String} {T : u_T} {N : Nat} {fs : List Value}
theorem x_recv {s : State} {H : Heap} (hO : x_OK l G) (hW : G.s0.WarmedH s.vm) (hH : xHS G σ H) (hE : xE G.cy σ b = some (.inr (ci, fs))) (hc : vwCl[ci]? = some (C, T, N)) : ∃ cell : Cell, H[b]? = some cell ∧ cell.vm.isStatics = false ∧ s.vm.findClass C = some cell.cls := by
  obtain ⟨q', h1, cell, g1, g2, g3, -⟩ := hH.2.2.1 b _ hE
  exact ⟨cell, g1, by rw [g3]; rfl, by rw [g2]; exact ((x_K hO hW).1 ci _ hc).2.1⟩
theorem x_linkV (hE : xE G.cy σ b = some (.inr (ci, fs))) (hc : vwCl[ci]? = some (C, T, N)) (hl : Cond.methodLink M.y.cls index M'.y ∈ wG) (hi : Cond.instanceMethod M'.y ∈ wG) (hs : Cond.selects C M'.y M'.y ∈ wG) (hw : M'.word ∈ lw_tbl) (hg : goodWord M'.word = true) (hy : M'.y.cls ≠ "java/lang/invoke/MethodHandle" ∧ M'.y.cls ≠ "java/lang/invoke/VarHandle")
    (hn : (parseMethodDescriptor M'.y.desc).map (fun d => d.parameters.length) = some As.length) (hst : st = As.reverse ++ va_rf (some b) :: rest) (hd : decode M.code pc = .ok (.invokevirtual index, 3)) : xLink l M G M'.y pc st rest (va_rf (some b) :: As) σ := by
  intro p e R s m args below meth c H locs ls cells slots T0 C0 hH hT X
  obtain ⟨hx, hb, hml, hrt, hown, hlk, -, htb, hW, -, -, hO, -⟩ := id C0
  have hts := x_hts (args := args) hO hW
  obtain ⟨cellB, hcB, hoB, hclB⟩ := x_recv hO hW hH hE hc
  obtain ⟨mk, methM, hnamed, hmethM, hstM, habM⟩ := Cond.instanceMethod_spec (hts _ hi)
  obtain ⟨methM', cM, hmethM', -, -, -, -, -, -, hsigM⟩ := x_word hnamed (x_wG (args := args) hO hW hw hg)
  cases hmethM.symm.trans hmethM'
  obtain ⟨c2, r2, m2, q1, q2, q3, q4, kP, hkP, hkPi⟩ := Cond.selects_spec (hts _ hs)
  cases hclB.symm.trans q1
  cases (State.methodFound?_of_named hnamed hy).symm.trans q2
  cases hnamed.symm.trans q3
  have hselP : selectMethod e.platform s.vm cellB.cls mk = .method mk := by rw [Launch.admits_selectMethod X.admits]; exact q4
  have hlen : As.length = methM.sig.parameters.length := by rw [hsigM] at hn; exact (Option.some.inj hn).symm
  obtain ⟨vm₁, X₁, hstep₁⟩ := X.invokevirtual hx hown (hts _ hl) hnamed hmethM hstM hkP hkPi hy (a := b) (cell := cellB) (by rw [hT]; exact hcB)
    (fun z h => by rw [h] at hoB; cases hoB) hselP hmethM habM hkP hkPi (g := F0 m pc ls st) rfl (argsL := As) (rest := rest) hlen hst (by rw [hb]; exact hd)
  exact ⟨mk, vm₁, hnamed, X₁, hstep₁⟩
theorem x_linkU {owner : String} {x : MethodName} (hE : xE G.cy σ b = some (.inr (ci, fs))) (hc : vwCl[ci]? = some (C, T, N)) (hl : Cond.methodLink M.y.cls index x ∈ wG) (hsm : Cond.sameMethod x.cls owner x.name x.desc ∈ wG) (hdc : Cond.declares ⟨owner, x.name, x.desc⟩ ∈ lw_tbl ∨ (M'.y = ⟨owner, x.name, x.desc⟩)) (hi : Cond.instanceMethod M'.y ∈ wG) (hs : Cond.selects C x M'.y ∈ wG) (hw : M'.word ∈ lw_tbl) (hg : goodWord M'.word = true) (hy : owner ≠ "java/lang/invoke/MethodHandle" ∧ owner ≠ "java/lang/invoke/VarHandle")
    (hn : (parseMethodDescriptor x.desc).map (fun d => d.parameters.length) = some As.length) (hst : st = As.reverse ++ va_rf (some b) :: rest) (hd : decode M.code pc = .ok (.invokevirtual index, 3)) : xLink l M G M'.y pc st rest (va_rf (some b) :: As) σ := by
  intro p e R s m args below meth c H locs ls cells slots T0 C0 hH hT X
  obtain ⟨hx, hb, hml, hrt, hown, hlk, -, htb, hW, -, -, hO, -⟩ := id C0
  have hts := x_hts (args := args) hO hW
  obtain ⟨cellB, hcB, hoB, hclB⟩ := x_recv hO hW hH hE hc
  obtain ⟨mk, methM, hnamed, hmethM, hstM, habM⟩ := Cond.instanceMethod_spec (hts _ hi)
  have hD : va_Decl s ⟨owner, x.name, x.desc⟩ := by
    rcases hdc with h9 | h9
    · exact va_Decl.abs (va_Nw.warmD hW (va_Nw.of rfl (hO.2.1 _ h9)))
    · obtain ⟨methM', cM, hmethM', -, -, -, -, -, -, hsigM⟩ := x_word hnamed (x_wG (args := args) hO hW hw hg)
      cases hmethM.symm.trans hmethM'
      rw [← h9]
      exact ⟨mk, methM, hnamed, hmethM, hstM, hsigM⟩
  obtain ⟨r0, r, hn0, hrm, hstR, hsigR⟩ := hD
  obtain ⟨cn, ck, r1, hcn, hck, hni, hf, hn1⟩ := Cond.sameMethod_found (hts _ hsm)
  cases hn0.symm.trans hn1
  obtain ⟨c2, r2, m2, q1, q2, q3, q4, kP, hkP, hkPi⟩ := Cond.selects_spec (hts _ hs)
  cases hclB.symm.trans q1
  cases hf.symm.trans q2
  cases hnamed.symm.trans q3
  have hselP : selectMethod e.platform s.vm cellB.cls r0 = .method mk := by rw [Launch.admits_selectMethod X.admits]; exact q4
  have hlen : As.length = r.sig.parameters.length := by
    have h9 : parseMethodDescriptor x.desc = some r.sig := hsigR
    rw [h9] at hn; exact (Option.some.inj hn).symm
  obtain ⟨vm₁, X₁, hstep₁⟩ := X.invokevirtualUp hx hown (hts _ hl) (hts _ hsm) hy hn0 hrm hstR (a := b) (cell := cellB) (by rw [hT]; exact hcB)
    (fun z h => by rw [h] at hoB; cases hoB) hselP hmethM habM hkP hkPi (g := F0 m pc ls st) rfl (argsL := As) (rest := rest) hlen hst (by rw [hb]; exact hd)
  exact ⟨mk, vm₁, hnamed, X₁, hstep₁⟩
theorem x_linkS (hl : Cond.methodLink M.y.cls index M'.y ∈ wG) (hs : Cond.static M'.y ∈ wG) (hini : Cond.initialized M'.y.cls ∈ wG) (hw : M'.word ∈ lw_tbl) (hg : goodWord M'.word = true) (hnm : ∃ by9 n9 r9, Cond.code M'.y by9 n9 r9 ∈ wG ∨ ∃ h9, Cond.codeWith M'.y by9 n9 r9 h9 ∈ wG) (hy : M'.y.cls ≠ "java/lang/invoke/MethodHandle" ∧ M'.y.cls ≠ "java/lang/invoke/VarHandle")
    (hn : (parseMethodDescriptor M'.y.desc).map (fun d => d.parameters.length) = some As.length) (hst : st = As.reverse ++ rest) (hd : decode M.code pc = .ok (.invokestatic index, 3)) : xLink l M G M'.y pc st rest As σ := by
  intro p e R s m args below meth c H locs ls cells slots T0 C0 hH hT X
  obtain ⟨hx, hb, hml, hrt, hown, hlk, -, htb, hW, -, -, hO, -⟩ := id C0
  have hts := x_hts (args := args) hO hW
  obtain ⟨mk, hnamed⟩ : ∃ mk, s.methodNamed? M'.y = some mk := by
    obtain ⟨by9, n9, r9, h9 | ⟨h8, h9⟩⟩ := hnm
    · exact Cond.code_named (hts _ h9)
    · obtain ⟨m9, meth9, c9, hn9, -⟩ := Cond.codeWith_spec (hts _ h9)
      exact ⟨m9, hn9⟩
  obtain ⟨methM, cM, hmethM, -, -, -, -, -, -, hsigM⟩ := x_word hnamed (x_wG (args := args) hO hW hw hg)
  have hstatic : methM.isStatic = true := Cond.static_spec hnamed hmethM (hts _ hs)
  obtain ⟨kP, hkP, -⟩ := className_of_methodNamed hnamed
  have hinitP : kP.init = .initialized := Cond.initialized_spec (findClass_of_methodNamed hnamed) hkP (hts _ hini)
  have hlen : As.length = methM.sig.parameters.length := by rw [hsigM] at hn; exact (Option.some.inj hn).symm
  obtain ⟨vm₁, X₁, hstep₁⟩ := X.invokestatic hx hown (hts _ hl) hnamed hmethM hstatic hkP hinitP hy (g := F0 m pc ls st) rfl (argsL := As) (rest := rest) hlen hst (by rw [hb]; exact hd)
  exact ⟨mk, vm₁, hnamed, X₁, hstep₁⟩
theorem x_linkI (hy1 : M'.y.name = "<init>") (hl : Cond.methodLink M.y.cls index M'.y ∈ wG) (hi : Cond.instanceMethod M'.y ∈ wG) (hw : Cond.code M'.y M'.code M'.maxL none ∈ wG) (hy : M'.y.cls ≠ "java/lang/invoke/MethodHandle" ∧ M'.y.cls ≠ "java/lang/invoke/VarHandle")
    (hn : (parseMethodDescriptor M'.y.desc).map (fun d => d.parameters.length) = some As.length) (hst : st = As.reverse ++ va_rf (some b) :: rest) (hd : decode M.code pc = .ok (.invokespecial index, 3)) : xLink l M G M'.y pc st rest (va_rf (some b) :: As) σ := by
  intro p e R s m args below meth c H locs ls cells slots T0 C0 hH hT X
  obtain ⟨hx, hb, hml, hrt, hown, hlk, -, htb, hW, -, -, hO, -⟩ := id C0
  have hts := x_hts (args := args) hO hW
  have hpl : e.platform.magicAccessors = ({} : Platform).magicAccessors := by rw [X.admits.platform]
  obtain ⟨mk, methM, cM, kP, vm₁, hnamed, hmethM, hcodeM, -, hlocalsM, -, hkP, -, hW₁, hstep₁⟩ := Steps.initColdArgs (e := e) X.here hx X.warmed hpl hown hy1 hy (hts _ hl) (hts _ hi) (hts _ hw) (f := F0 m pc ls st) rfl (fun sig h9 => by rw [h9] at hn; exact (Option.some.inj hn).symm) hst (by rw [hb]; exact hd)
  exact ⟨mk, vm₁, hnamed, X.noted hW₁, hstep₁⟩
theorem x_linkIN {host : String} (hy1 : M'.y.name = "<init>") (hl : Cond.methodLinkNest M.y.cls index M'.y host ∈ lw_tbl) (hi : Cond.instanceMethod M'.y ∈ wG) (hw : Cond.code M'.y M'.code M'.maxL none ∈ wG) (hy : M'.y.cls ≠ "java/lang/invoke/MethodHandle" ∧ M'.y.cls ≠ "java/lang/invoke/VarHandle")
    (hn : (parseMethodDescriptor M'.y.desc).map (fun d => d.parameters.length) = some As.length) (hst : st = As.reverse ++ va_rf (some b) :: rest) (hd : decode M.code pc = .ok (.invokespecial index, 3)) : xLink l M G M'.y pc st rest (va_rf (some b) :: As) σ := by
  intro p e R s m args below meth c H locs ls cells slots T0 C0 hH hT X
  obtain ⟨hx, hb, hml, hrt, hown, hlk, -, htb, hW, -, -, hO, -⟩ := id C0
  have hts := x_hts (args := args) hO hW
  have hpl : e.platform.magicAccessors = ({} : Platform).magicAccessors := by rw [X.admits.platform]
  obtain ⟨mk, methM, cM, kP, vm₁, hnamed, hmethM, hcodeM, -, hlocalsM, -, hkP, -, hW₁, hstep₁⟩ := Steps.initColdArgsNest (e := e) X.here hx X.warmed hpl hown hy1 hy (va_Nw.use rfl (va_Nw.warmM hW (va_Nw.of rfl (hO.2.1 _ hl)))) (hts _ hi) (hts _ hw) (f := F0 m pc ls st) rfl (fun sig h9 => by rw [h9] at hn; exact (Option.some.inj hn).symm) hst (by rw [hb]; exact hd)
  exact ⟨mk, vm₁, hnamed, X.noted hW₁, hstep₁⟩
theorem ev_objInit {lv : List (Nat × Value)} {r : xR} (hl : Cond.methodLink M.y.cls index Lib.objectInit ∈ wG) (hi : Cond.instanceMethod Lib.objectInit ∈ wG) (hw : Cond.code Lib.objectInit ⟨#[0xb1]⟩ 1 none ∈ wG) (hd : decode M.code pc = .ok (.invokespecial index, 3)) (hf : 1 ≤ M.fr) (hlo : (st.map fun v => v.category).sum + 12 ≤ M.lo) (h : Ev l G M (pc + 3) lv st σ r σ') : Ev l G M pc lv (va_rf (some b) :: st) σ r σ' := by
  intro p e R s m args below meth c H locs ls C0 hl9 hH hS
  obtain ⟨hx, hb, hml, hrt, hown, hlk, -, htb, hW, ⟨hF1, hF2⟩, -, hO, -⟩ := id C0
  have hts := x_hts (args := args) hO hW
  exact W.objInit hx hb hown (hts _ hl) (hts _ hi) (hts _ hw) rfl (hl9.1.trans hml.symm) rfl hd (Nat.le_trans hf hF1) (by show 2 * 0 + (st.map fun v => v.category).sum + 12 ≤ R.locals; omega) (h p e R s m args below meth c H locs ls C0 hl9 hH hS)
end XL
