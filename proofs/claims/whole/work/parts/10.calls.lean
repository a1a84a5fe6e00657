/-! ===== catches; a method's contract; calls ===== -/
section XK
variable {p : Program} {l : Launch} {e : Env} {R : Room} {s : State} {m : MethodId} {args : Array Value} {below : List Frame} {meth : Method} {c : Code} {H : Heap} {locs : List Loc} {cells slots : Nat} {Q : State → Prop}
/-- caught by the first row of the table, whose class entry links, resolved already or not -/
theorem x_caught {T : State} (X : Stand p l e R s m args below meth c T locs cells slots) {q : Addr} {ce : Cell} {own name E : String} {g : JFrame} (hg : g.method = m) {x : ExceptionTableEntry} {suf : List ExceptionTableEntry} (hown : s.vm.findClass own = some m.cls) (hsplit : c.exceptionTable.toList = x :: suf) (hx : covers x g.pc = true) (h0 : x.catchType ≠ 0)
    (hlink : (Cond.classLink own x.catchType name).before args s = true) (hcast : (Cond.castable E name).before args s = true) (hcell : T.heap[q]? = some ce) (hv : ce.vm = .none) (hcl : s.vm.findClass E = some ce.cls) :
    ∃ vm', Stand p l e R s m args below meth c (T.setVm vm') locs cells slots ∧ ∀ target, Steps p.tables e below ((T.setVm vm').setTop { g with pc := x.handlerPc, stack := [.ref q] }) target → Steps p.tables e below ((T.setTop g).pushFrame (.throwing q)) target := by
  subst hg
  have hpl : e.platform.magicAccessors = ({} : Platform).magicAccessors := by rw [X.admits.platform]
  obtain ⟨c3, c4, hc3, hc4, hasg⟩ := Cond.castable_spec hcast
  cases Option.some.inj (hc3.symm.trans hcl)
  obtain ⟨c5, hc5, hl5⟩ := Cond.classLink_spec hown hlink e.platform hpl
  cases Option.some.inj (hc4.symm.trans hc5)
  obtain ⟨dk, _, _, kt, hdk, _, _, _, _, hkt, _, hopen⟩ := hl5.here
  have hlT := X.warmed.classLinks hl5
  have hW' : s.WarmedH (T.vm.noted g.method.cls x.catchType (.cls c4)) := X.warmed.noted hdk hopen (State.rightAt_cls hl5)
  have hal := X.warmed.alike
  obtain ⟨k9, hk9, -⟩ := Vm.findClass_spec hcl
  obtain ⟨kE, hkE, -⟩ := hal.2.2 _ _ hk9
  obtain ⟨kT, hkT, -⟩ := hal.2.2 _ _ hkt
  have hfit : T.vm.assignable ce.cls c4 = true := by rw [hal.assignable]; exact hasg
  have hal2 : T.vm.Alike (T.vm.noted g.method.cls x.catchType (.cls c4)) := (Vm.Alike.refl T.vm).noted _ _ _
  obtain ⟨kE', hkE', -⟩ := hal2.2.2 _ _ hkE
  obtain ⟨kT', hkT', -⟩ := hal2.2.2 _ _ hkT
  have hfit' : (T.vm.noted g.method.cls x.catchType (.cls c4)).assignable ce.cls c4 = true := by rw [hal2.assignable]; exact hfit
  obtain ⟨V, hV⟩ : ∃ V, V = (T.setTop g).pushFrame (.throwing q) := ⟨_, rfl⟩
  have hVvm : V.vm = T.vm := by rw [hV]; exact Stand.throwing_vm T g q
  have hVhp : V.heap = T.heap := by rw [hV]; exact Stand.throwing_heap T g q
  have hfind : ∀ (Q : Handler → Pre) (E : CtlPost) (d : Bool) (acts : List Action), wp (findHandler g q) Q E e d acts V ↔ Q (.found x.handlerPc) d acts (V.setVm (T.vm.noted g.method.cls x.catchType (.cls c4))) := by
    intro Q E d acts
    rw [W.findHandler_eq (meth := meth) (code := c) (by rw [hVvm]; exact X.method') X.code, hsplit]
    simp only [covers] at hx
    have hlV : V.vm.ClassLinks e.platform g.method.cls x.catchType c4 := by rw [hVvm]; exact hlT
    obtain ⟨ha, ht⟩ := (resolveClass_links e.toSetting hlV).op (op := VmOp.resolveClass g.method.cls x.catchType) rfl
    have hobj : ∀ k, ce.vm ≠ .statics k := fun k h => by rw [hv] at h; cases h
    have hcV : V.heap[q]? = some ce := by rw [hVhp]; exact hcell
    simp only [hVvm] at ha ht
    simp [findHandler.go, hx, h0, hVvm, ha, ht, hcV, hobj, hkE', hkT', hfit', VmOp.dirties, VmOp.acts]
  refine ⟨_, X.noted hW', fun target hrest => ?_⟩
  have h : At T g.method c below := X.here
  obtain ⟨hgo, hw⟩ := h.throwing (g := g) q
  refine Steps.head hgo hw ?_
  rw [stepThread_throwing (frames_entered h.top _)]
  have hstep : ∀ r : List Frame, (stepThrowing e V q (.java g :: r)).1 = (V.setVm (T.vm.noted g.method.cls x.catchType (.cls c4))).setFrames (.java { g with pc := x.handlerPc, stack := [.ref q] } :: r) := by
    intro r
    simp only [stepThrowing, searchFrame, vmDo]
    generalize hr : Sem.go _ e false [] V = res
    obtain ⟨as, rfl, ha⟩ := Sem.eq_ok_of hr (a := Handler.found x.handlerPc) (s' := V.setVm (T.vm.noted g.method.cls x.catchType (.cls c4))) (acts' := []) (by simp [hfind _ _ _ _])
    rfl
  rw [← hV, hstep]
  obtain ⟨g₀, hg⟩ := Option.isSome_iff_exists.mp h.top
  obtain ⟨r, hr⟩ := State.topJava?_eq_some.mp hg
  have hr' : (T.setVm (T.vm.noted g.method.cls x.catchType (.cls c4))).frames = .java g₀ :: r := hr
  rw [State.setTop_of_frames _ hr'] at hrest
  have e1 : ∀ (u : State) (vm' : Vm) (F F' : List Frame), ((u.setFrames F).setVm vm').setFrames F' = (u.setVm vm').setFrames F' := by
    intro u vm' F F'
    have h1 : (u.setFrames F).setVm vm' = (u.setVm vm').setFrames F := rfl
    rw [h1, State.setFrames_setFrames]
  rw [hV, hr, List.tail_cons, State.pushFrame, e1, State.setTop_of_frames _ hr, e1]
  exact hrest
end XK
