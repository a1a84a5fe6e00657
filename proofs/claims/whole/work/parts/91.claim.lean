/-! ===== the claim ===== -/
def R_law : String := "NetlistFormsLaw"
def lw_P (b : Addr) (xs : List Int32) (args : Array Value) (s : State) : Prop := args = #[.ref b] ∧ s.IntsAt b xs ∧ xs.length ≤ 2560 ∧ (Jvm.Cond.and given_1 narrow_1).before args s = true
def lw_Q (_ : Array Value) (s : State) (o : Outcome) (t : State) : Prop := o = .returned (some (.int 1)) ∧ Framed s o t [] 601024 7293034
def lw_Z (below : List Frame) (a : Array Value) (s : State) : State → Prop := fun t => ∃ o, t.status = .running ∧ Ended t below o ∧ lw_Q a s o t
/-- the law's own end, with 1 on the stack, nothing written that was there before, its room as the claim has it -/
theorem lw_ret {p : Program} {l : Launch} {e : Env} {s : State} {m : MethodId} {below : List Frame} {meth : Method} {c : Code} {b : Nat} (hx : p.tables.exec = Jvm.exec) (hb : c.code = code) (hr : meth.sig.returnType = ret) (hlocks : meth.locks = false) {pc : Nat} {H : Heap} {ls : Array Slot} (hdg : decode code pc = .ok (.ireturn, 1)) : W p l e room_1 s m #[Value.ref b] below meth c H [] 601024 7293034 (lw_Z below #[Value.ref b] s) (F0 m pc ls [.int 1]) := by
  intro T hT X
  obtain ⟨fs, hret, hrun, hended, hW, hframe⟩ := X.leave (v := some (.int 1)) (hlocks := hlocks) (fun h => by rw [hr] at h; cases h)
  have hmeth' : T.vm.method? m = some meth := X.method'
  refine ⟨T.setFrames fs, ?_, .returned (some (.int 1)), hrun, hended, rfl, ⟨_, rfl⟩, hW, hframe⟩
  jvm_step X.here [X.here.top, hx, hb, hdg, hmeth', hr, ret, narrow_b1]
  (try refine ⟨rfl, ?_⟩); (try refine ⟨rfl, ?_⟩)
  first | (intro acts; rw [hret _ acts rfl rfl rfl]) | rw [hret _ _ rfl rfl rfl]
  exact Steps.refl _
/-- what holds at the law's entry: the machine, the code, the tables' words (any of lw_tbl by 'hts w (by decide +kernel)'), the script of L ints xs at the cell b, what the Statement gives of the start (any of its parts by flat_of_before) -/
def lw_At (p : Program) (s : State) (m : MethodId) (meth : Method) (c : Code) (b L : Nat) (xs : Nat → Int32) : Prop :=
  p.tables.exec = Jvm.exec ∧ c.code = code ∧ meth.sig.returnType = ret ∧ c.maxLocals = 7 ∧ s.vm.findClass R_law = some m.cls ∧ (∀ w ∈ lw_tbl, w.before #[Value.ref b] s = true) ∧ va_X b L xs s s.heap ∧ b < s.heap.size ∧ meth.locks = false ∧ (Jvm.Cond.and given_1 narrow_1).before #[Value.ref b] s = true
/-- the state at the start: ix tells which constant lies at an address -/
def st0 (ix : Nat → Option Nat) (b L : Nat) (xs : Nat → Int32) (z u : Nat) : xS := (fun a => match ix a with
  | some _ => 13
  | none => if a = b then 14 else 0, fun _ _ => 0, fun _ _ => 0, fun _ _ => none, fun a => match ix a with
  | some i => (kBy i).length
  | none => L, fun a j => match ix a with
  | some i => nI ((kBy i).getD j 0)
  | none => xs j, fun _ _ => 0, fun _ _ => none, z, u)
theorem st0_K (ix : Nat → Option Nat) (b L : Nat) (xs : Nat → Int32) (z u a : Nat) : (st0 ix b L xs z u).K a = match ix a with
  | some _ => 13
  | none => if a = b then 14 else 0 := rfl
theorem st0_L (ix : Nat → Option Nat) (b L : Nat) (xs : Nat → Int32) (z u a : Nat) : (st0 ix b L xs z u).L a = match ix a with
  | some i => (kBy i).length
  | none => L := rfl
theorem st0_AI (ix : Nat → Option Nat) (b L : Nat) (xs : Nat → Int32) (z u a j : Nat) : (st0 ix b L xs z u).AI a j = match ix a with
  | some i => nI ((kBy i).getD j 0)
  | none => xs j := rfl
theorem st0_cases (ix : Nat → Option Nat) (b L : Nat) (xs : Nat → Int32) (z u a : Nat) : (∃ i, ix a = some i ∧ (st0 ix b L xs z u).K a = 13) ∨ (ix a = none ∧ a = b ∧ (st0 ix b L xs z u).K a = 14) ∨ (ix a = none ∧ a ≠ b ∧ (st0 ix b L xs z u).K a = 0) := by
  cases e : ix a with
  | some i => exact Or.inl ⟨i, rfl, by rw [st0_K, e]⟩
  | none =>
    by_cases h : a = b
    · exact Or.inr (Or.inl ⟨rfl, h, by rw [st0_K, e]; exact if_pos h⟩)
    · exact Or.inr (Or.inr ⟨rfl, h, by rw [st0_K, e]; exact if_neg h⟩)
theorem x_all {s : State} {o : Outcome} {t : State} {L : List Loc} {k n : Nat} (h : FrameEnd s o t L k n) (hL : ∀ q ∈ L, s.heap.size ≤ q.base) : Framed s o t [] k n := by
  obtain ⟨h1, h2, e1, e2, e3, e4, e5, e6⟩ := h
  refine ⟨h1, h2, e1, e2, e3, e4, e5, fun a c hc => ?_⟩
  obtain ⟨c', g1, g2, g3, g4⟩ := e6 a c hc
  refine ⟨c', g1, g2, g3, fun i _ => g4 i (fun hm => ?_)⟩
  have := hL _ hm
  have lt : a < s.heap.size := (Array.getElem?_eq_some_iff.mp hc).1
  exact absurd this (Nat.not_le.mpr lt)
set_option maxHeartbeats 4000000 in
theorem whole_start {p : Program} {e : Env} {s : State} {m : MethodId} {below : List Frame} {meth : Method} {c : Code} (l : Launch) {b L : Nat} {xs : Nat → Int32} (hL : L ≤ 2560) (hst : l.stackTraces = false) (hnm : meth.name = "law") (htab : c.exceptionTable.toList = []) (C0 : lw_At p s m meth c b L xs) : W p l e room_1 s m #[Value.ref b] below meth c s.heap [] 0 0 (lw_Z below #[Value.ref b] s) (entryFrame m ([Value.ref b] : List Value).toArray 7) := by
  obtain ⟨hx, hb, hr, hml, hown, hts, hX, hbl, hlocks, hgv⟩ := id C0
  have hs := flat_of_before _ hgv
  have hA : ∀ a : Nat, a < s.heap.size → ¬ (fun q : Nat => s.heap.size ≤ q) a := fun a h => Nat.not_le.mpr h
  obtain ⟨ad, had⟩ : ∃ ad : Nat → Nat × Nat, ∀ i, i < 31 → (kTm i).eval #[Value.ref b] s none [] s = some (.ref (ad i).1) ∧ kAt (fun q : Nat => s.heap.size ≤ q) s i (ad i).1 (ad i).2 := by
    refine Classical.axiomOfChoice (r := fun i (q : Nat × Nat) => i < 31 → (kTm i).eval #[Value.ref b] s none [] s = some (.ref q.1) ∧ kAt (fun q : Nat => s.heap.size ≤ q) s i q.1 q.2) (fun i => ?_)
    by_cases hi : i < 31
    · obtain ⟨q, h1, h2⟩ := k_at hgv hA i hi
      exact ⟨q, fun _ => ⟨h1, h2⟩⟩
    · exact ⟨(0, 0), fun h => absurd h hi⟩
  obtain ⟨d, hd⟩ := k_ks hts
  obtain ⟨cy, hcy⟩ := k_ar hts
  obtain ⟨lim, hlim⟩ : ∃ n : Nat, n = s.heap.size + 601024 := ⟨_, rfl⟩
  obtain ⟨slim, hslim⟩ : ∃ n : Nat, n = x_tot s.heap + 7293034 := ⟨_, rfl⟩
  have rc : room_1.cells = 601024 := rfl
  have rs : room_1.slots = 7293034 := rfl
  obtain ⟨G, eG⟩ : ∃ G : xG, G = ((fun c => (d c).1, fun c => (d c).2), cy, s.heap.size, lim, slim, s, #[Value.ref b]) := ⟨_, rfl⟩
  obtain ⟨P, eP⟩ : ∃ P : xP, P = (5000, lim, slim, s.heap.size, fun i => (ad i).1) := ⟨_, rfl⟩
  have hO : x_OK l G := by
    rw [eG]
    refine ⟨hst, hts, ⟨hd, fun k q hq => ?_⟩, rfl, ?_, ?_⟩
    · match k, hq with
      | 0, hq => cases hq; exact hcy 20 (by omega) (by omega)
      | 1, hq => cases hq; exact hcy 21 (by omega) (by omega)
      | 2, hq => cases hq; exact hcy 22 (by omega) (by omega)
      | 3, hq => cases hq; exact hcy 23 (by omega) (by omega)
      | 4, hq => cases hq; exact hcy 24 (by omega) (by omega)
      | 5, hq => cases hq; exact hcy 25 (by omega) (by omega)
      | 6, hq => cases hq; exact hcy 26 (by omega) (by omega)
      | 7, hq => cases hq; exact hcy 27 (by omega) (by omega)
      | 8, hq => cases hq; exact hcy 28 (by omega) (by omega)
      | k + 9, hq => simp [x_tys] at hq
    · exact vx_Zqof (hts (.laysStatic Bundle.tN "UNASSIGNED_STACK" Bundle.steD) (by decide +kernel)) (hts (.initialized Bundle.tN) (by decide +kernel)) (hs (.isRef (.static Bundle.tN "UNASSIGNED_STACK" Bundle.steD)) (by decide +kernel)) hA
    · exact vx_Zqof (hts (.laysStatic Bundle.tN "SUPPRESSED_SENTINEL" Bundle.listD) (by decide +kernel)) (hts (.initialized Bundle.tN) (by decide +kernel)) (hs (.isRef (.static Bundle.tN "SUPPRESSED_SENTINEL" Bundle.listD)) (by decide +kernel)) hA
  have hPG : x_PG P G := by
    rw [eG, eP]
    refine ⟨⟨va_Zof (hts (.laysStatic "java/lang/String" "COMPACT_STRINGS" "Z") (by decide +kernel)) (hts (.initialized "java/lang/String") (by decide +kernel)) (va_eqi (hs (.eq (.static "java/lang/String" "COMPACT_STRINGS" "Z") (.int 1)) (by decide +kernel))) hA, va_Zqof (hts (.laysStatic "jdk/internal/util/Preconditions" "SIOOBE_FORMATTER" "Ljava/util/function/BiFunction;") (by decide +kernel)) (hts (.initialized "jdk/internal/util/Preconditions") (by decide +kernel)) (hs (.isRef (.static "jdk/internal/util/Preconditions" "SIOOBE_FORMATTER" "Ljava/util/function/BiFunction;")) (by decide +kernel)) hA⟩, rfl, rfl, rfl, fun q hq => ?_⟩
    obtain ⟨lt, z⟩ := kStr_at q hq
    refine vk_R.of (hts _ (kStr_in q hq)) ?_
    rcases z with z | z
    · rw [z]
      exact (had _ lt).1
    · exact va_eqR (hs _ z) (had _ lt).1
  -- which constant lies where
  obtain ⟨ix, eix⟩ : ∃ ix : Nat → Option Nat, ix = fun a => (List.range 31).find? (fun i => decide ((ad i).1 = a)) := ⟨_, rfl⟩
  have ix_some : ∀ a i, ix a = some i → i < 31 ∧ (ad i).1 = a := by
    intro a i h
    rw [eix] at h
    have h1 := List.find?_some h
    have h2 := List.mem_of_find?_eq_some h
    exact ⟨List.mem_range.mp h2, by simpa using h1⟩
  have ix_ad : ∀ i, i < 31 → ix (ad i).1 = some i := by
    intro i hi
    cases h : ix (ad i).1 with
    | none =>
      rw [eix] at h
      have := List.find?_eq_none.mp h i (List.mem_range.mpr hi)
      simp at this
    | some j =>
      obtain ⟨h1, h2⟩ := ix_some _ _ h
      have a1 := (had j h1).2
      have a2 := (had i hi).2
      rw [h2] at a1
      rw [k_one h1 hi a1 a2]
  have ix_b : ix b = none := by
    cases h : ix b with
    | none => rfl
    | some i =>
      exfalso
      obtain ⟨h1, h2⟩ := ix_some _ _ h
      obtain ⟨-, -, ⟨c1, k1, n1, f1, e1, a1, a2, a3, a4, a5, -⟩, -⟩ := (had i h1).2
      rw [h2] at a3
      obtain ⟨scr, x1, x2, x3, x4, x5⟩ := hX
      cases a3.symm.trans x1
      have lt := (Array.getElem?_eq_some_iff.mp a5).1
      rw [x4] at lt
      have := a5.symm.trans (x5 _ lt)
      cases this
  obtain ⟨σ0, eσ⟩ : ∃ σ0 : xS, σ0 = st0 ix b L xs s.heap.size (x_tot s.heap) := ⟨_, rfl⟩
  have hcs : CS P σ0 := by
    rw [eP, eσ]
    refine ⟨Nat.le_refl _, fun q hq => ?_⟩
    obtain ⟨lt, e1⟩ := kSp q hq
    have e2 := ix_ad q.1 lt
    refine ⟨?_, ?_, fun j hj => ?_, ?_⟩
    · show (st0 ix b L xs s.heap.size (x_tot s.heap)).K (ad q.1).1 = 13
      rw [st0_K, e2]
    · show (st0 ix b L xs s.heap.size (x_tot s.heap)).L (ad q.1).1 = q.2.length
      rw [st0_L, e2, e1]
    · show (st0 ix b L xs s.heap.size (x_tot s.heap)).AI (ad q.1).1 j = nI (q.2.getD j 0)
      rw [st0_AI, e2, e1]
    · show (ad q.1).1 < s.heap.size
      obtain ⟨cell, z, -⟩ := (had q.1 lt).2.1
      exact (Array.getElem?_eq_some_iff.mp z).1
  have hH : xHS G σ0 s.heap := by
    rw [eG, eσ]
    refine ⟨rfl, rfl, fun a e he => ?_, fun _ _ => rfl, Nat.le_refl _, fun a ha => ?_, fun a ha => ?_, (by show s.heap.size ≤ lim; omega), (by show x_tot s.heap ≤ slim; omega)⟩
    · exfalso
      unfold xE at he
      rcases st0_cases ix b L xs s.heap.size (x_tot s.heap) a with ⟨i, h1, h2⟩ | ⟨h1, h2, h3⟩ | ⟨h1, h2, h3⟩
      · rw [h2] at he
        simp at he
      · rw [h3] at he
        simp at he
      · rw [h3] at he
        simp at he
    · rcases st0_cases ix b L xs s.heap.size (x_tot s.heap) a with ⟨i, h1, h2⟩ | ⟨h1, h2, h3⟩ | ⟨h1, h2, h3⟩
      · obtain ⟨g1, g2⟩ := ix_some _ _ h1
        obtain ⟨y1, y2, y3, y4⟩ := (had i g1).2
        rw [g2] at y1 y2 y3
        have lt := (kBy_ok i (List.mem_range.mpr g1)).1
        have eL : (st0 ix b L xs s.heap.size (x_tot s.heap)).L a = (kBy i).length := by rw [st0_L, h1]
        rw [eL]
        refine ⟨(ad i).2, fun j => Int32.ofNat ((kBy i).getD j 0), y1, y2, y3, y4, fun j hj => ?_, by omega⟩
        rw [st0_AI, h1]
        have c1 : (kBy i).getD j 0 < 128 := by
          rw [List.getD_eq_getElem?_getD, List.getElem?_eq_getElem hj]
          exact (kBy_ok i (List.mem_range.mpr g1)).2 _ (List.getElem_mem hj)
        exact k255 ⟨_, c1⟩
      · rw [h3] at ha; cases ha
      · rw [h3] at ha; cases ha
    · rcases st0_cases ix b L xs s.heap.size (x_tot s.heap) a with ⟨i, h1, h2⟩ | ⟨h1, h2, h3⟩ | ⟨h1, h2, h3⟩
      · rw [h2] at ha; cases ha
      · subst h2
        have eL : (st0 ix a L xs s.heap.size (x_tot s.heap)).L a = L := by rw [st0_L, h1]
        have eA : (st0 ix a L xs s.heap.size (x_tot s.heap)).AI a = xs := by
          funext j
          rw [st0_AI, h1]
        rw [eL, eA]
        exact ⟨hX, hbl⟩
      · rw [h3] at ha; cases ha
  have hC : xC l G mL_law p room_1 s m meth c := by
    refine ⟨hx, hb, hml, hr, hown, hlocks, hnm, htab, ?_, ?_, ?_, hO, ?_, ?_⟩
    · rw [eG]; exact State.WarmedH.refl s
    · exact ⟨by decide, by decide⟩
    · rw [eG, rc, rs]; exact ⟨hlim.symm, hslim.symm⟩
    · rw [eG]; exact Nat.le_refl _
    · rw [eG]; exact fun _ _ => rfl
  obtain ⟨σ', hp⟩ := pure_law (P := P) (b := b) (len := L) (sc := xs) (σ0 := σ0) (by rw [eP, eσ]; rfl) (by rw [eP]; exact hbl) (by rw [eσ, st0_K, ix_b]; exact if_pos rfl) (by rw [eσ, st0_L, ix_b]) (fun i _ => by rw [eσ, st0_AI, ix_b]) hcs hL (by rw [eP]; show s.heap.size + 160000 ≤ lim; omega) (by rw [eP, eσ]; show x_tot s.heap + 3500000 ≤ slim; omega)
  have ev := ev_L_law hO hPG hp
  have hl := lv_entry ([.ref b]) (n := 7) (Nat.le_of_ble_eq_true rfl)
  rw [lg_entry_eq]
  generalize (lg_sl ([.ref b]) ++ List.replicate (7 - (lg_sl ([.ref b])).length) Slot.unset).toArray = ls at hl ⊢
  intro T hT X
  have K : W p l e room_1 s m #[Value.ref b] below meth c s.heap [] 0 0 (vx_MQ below (xQc G (xrI (.inl (nI 1))) σ') (xXC G (xrI (.inl (nI 1))) σ') #[Value.ref b] s room_1.cells room_1.slots G.A) (F0 m 0 ls []) := x_canon (ev p e room_1 s m #[Value.ref b] below meth c s.heap [] ls hC hl hH va_S.rf)
  obtain ⟨t, a1, o, b1, b2, b3⟩ := K T hT X
  refine ⟨t, a1, o, b1, b2, ?_⟩
  rcases b3 with ⟨⟨v, hv, ho, -, -⟩, Lc, hF, hfree⟩ | ⟨q, hq, E, ce, Lc, ⟨hE, -⟩, -⟩
  · have ev : v = some (.int 1) := (Sum.inl.inj hv).symm
    subst ev
    exact ⟨ho, x_all hF (fun z hz => by have := hfree z hz; rw [eG] at this; exact this)⟩
  · cases hE
theorem tr_off {l : Launch} (hf : l.flags = flags0) : l.stackTraces = false := by
  unfold Launch.stackTraces
  rw [hf]
  decide
set_option maxHeartbeats 4000000 in
theorem lw_walk (l : Launch) (hst : l.stackTraces = false) (b : Addr) (xs : List Int32) : MetFree l x (headSpec (Jvm.Cond.code x code maxLocals ret :: tables_1) room_1) (lw_P b xs) (fun _ _ _ _ _ => True) lw_Q := by
  refine MetFree.of_bodyS (code := code) (maxLocals := maxLocals) (ret := ret) (by decide) ?_ ?_
  · intro args s m h hn
    obtain ⟨meth, c, h1, h2, h3, h4, h5, h6, -, -⟩ := Cond.code_spec hn (atoms_spec (ws := Jvm.Cond.code x code maxLocals ret :: tables_1) h _ List.mem_cons_self)
    exact ⟨meth, c, h1, h2, h3, h4, h5, h6⟩
  · intro p e s m args below meth c s₁ B hml0 hP _
    obtain ⟨rfl, hx, hbd, hgv⟩ := hP
    obtain ⟨scr, harrAt, hlist, hof, hsmall⟩ := hx
    obtain ⟨hcb, hkn, -, -⟩ := State.arrayAt?_spec harrAt
    have hown : s.vm.findClass R_law = some m.cls := findClass_of_methodNamed B.named
    have hts0 : ∀ c ∈ (Jvm.Cond.code x code maxLocals ret :: tables_1), c.before #[Value.ref b] s = true := atoms_spec (ws := Jvm.Cond.code x code maxLocals ret :: tables_1) B.pre
    have hts : ∀ w ∈ lw_tbl, w.before #[Value.ref b] s = true := k2_hts_sels lw_privs (fun w hw => hts0 w (List.mem_cons_of_mem _ hw)) lw_privs_ok
    have hml : c.maxLocals = 7 := B.maxLocals_eq (hts0 _ List.mem_cons_self)
    obtain ⟨meth9, c9, q1, q2, -, -, -, -, q7, -⟩ := Cond.code_spec B.named (hts0 _ List.mem_cons_self)
    cases Option.some.inj (q1.symm.trans B.method)
    cases Option.some.inj (q2.symm.trans (Stand.of_body B).code)
    have htab : c.exceptionTable.toList = [] := by rw [Array.isEmpty_iff.mp q7]
    have hnm : meth.name = "law" := (name_of_methodNamed B.named B.method).1
    have X₀ : Stand p l e room_1 s m #[Value.ref b] below meth c s₁ [] 0 0 := Stand.of_body B
    have hh0 : s₁.heap = s.heap := by rw [B.state]; rfl
    have hsz : scr.slots.size = xs.length := by rw [← Array.length_toList, hlist, List.length_map]
    have hval : ∀ j : Nat, j < xs.length → scr.slots[j]? = some (.int (xs.getD j 0)) := fun j hj => by
      rw [← Array.getElem?_toList, hlist]
      simp [hj]
    have hbl : b < s.heap.size := (Array.getElem?_eq_some_iff.mp hcb).1
    have hX : va_X b xs.length (fun j => xs.getD j 0) s s.heap := ⟨scr, hcb, hof, hkn, hsz, hval⟩
    have K : W p l e room_1 s m #[Value.ref b] below meth c s₁.heap [] 0 0 (lw_Z below #[Value.ref b] s) (entryFrame m ([Value.ref b] : List Value).toArray 7) := by
      rw [hh0]
      exact whole_start l hbd hst hnm htab ⟨B.exec, B.bytes, B.returns, hml, hown, hts, hX, hbl, B.notSynchronized, hgv⟩
    obtain ⟨t, a1, o, b1, b2, b3⟩ := K s₁ rfl X₀
    exact ⟨t, o, a1, b1, b2, b3⟩
theorem lw_pre_spec {args : Array Value} {s : State} (h : (Jvm.Cond.and given_1 narrow_1).before args s = true) (hr : rest_1_c.before args s = true) : ∃ (b : Addr) (xs : List Int32), lw_P b xs args s := by
  have hs := flat_of_before _ h
  have hq := flat_of_before _ hr
  have hc : (Cond.count 1).before args s = true := hs _ (by decide +kernel)
  have harr : (Cond.arrayOf (.arg 0) .int).before args s = true := hs _ (by decide +kernel)
  have hle : (Cond.le (.length (.arg 0)) (.int 2560)).before args s = true := hs _ (by decide +kernel)
  have hlen : (Cond.isInt (.length (.arg 0))).before args s = true := hq _ (by decide +kernel)
  have hall : (Cond.all (.arg 0) (.isInt (.elem (.arg 0) (.index 0)))).before args s = true := hq _ (by decide +kernel)
  obtain ⟨b, xs, hb, hx⟩ := State.ints_of_pre rfl harr hlen hall
  have hsm : xs.length < 2 ^ 31 := hx.choose_spec.2.2.2
  have hev : (Term.length (.arg 0)).eval args s none [] s = some (.int xs.length.toInt32) := hx.length_eval hb
  have hv := Cond.le_ints hev (show (Term.int 2560).eval args s none [] s = some (.int 2560) from rfl)
  have hd : xs.length.toInt32 ≤ 2560 := by
    simpa [Cond.before, Cond.holds, hv] using hle
  have hN : xs.length ≤ 2560 := (Int32.ofNat_le_ofNat hsm (by decide)).mp (show Int32.ofNat xs.length ≤ Int32.ofNat 2560 from hd)
  exact ⟨b, xs, Cond.one_arg hc (show args[0]? = some (.ref b) from hb), hx, hN, h⟩
theorem lw_comes (l : Launch) (hst : l.stackTraces = false) : Comes l x (Jvm.Cond.code x code maxLocals ret :: tables_1) room_1 (fun tb e args s => Calls_1 tb e args s ∧ rest_1 tb e args s ∧ Pre_1 tb e args s)
    (fun _ _ args s o t => lw_Q args s o t) := by
  intro p e ha hc hk s m args below hf hfit hheap happ hpre
  obtain ⟨b, xs, hP⟩ := lw_pre_spec hpre.2.2 hpre.2.1
  obtain ⟨k, o, h1, h2, h3, hQ⟩ := lw_walk l hst b xs p e ha hc hk s m args below hf ((Spec.applies_iff_loose hf).mp happ).1 hP trivial
  exact ⟨k, o, h1, h2, h3, hQ⟩
theorem lw_frame {s t : State} {o : Outcome} {args : Array Value} (h : Framed s o t [] 601024 7293034) :
    Framed s o t (fieldLocs frame_1_writes args s ++ arrayLocs frame_1_arrays args s ++ staticLocs frame_1_statics s) 601024 7293034 := h
theorem lw_limb (L : Cond) (hL : ∀ (args : Array Value) (s t : State), L.after args s (.returned (some (.int 1))) t = true) :
    ArmFor flags0 classFile x code maxLocals ret World_1 tables_1 room_1 Calls_1 rest_1 Pre_1
      (fun tb e a s o t => postC L tb e a s o t ∧ Framed s o t (fieldLocs frame_1_writes a s ++ arrayLocs frame_1_arrays a s ++ staticLocs frame_1_statics s) 601024 7293034) := by
  intro l hfl _ _ p e ha hc hk s m args below hf hfit hheap happ hpre
  obtain ⟨k, o, h1, h2, h3, rfl, hF⟩ := lw_comes l (tr_off hfl) p e ha hc hk s m args below hf hfit hheap happ hpre
  exact ⟨k, _, h1, h2, h3, hL args s _, lw_frame hF⟩
theorem i_vc : Claimed_1_1 ∧ Claimed_1_2 := ⟨lw_limb limb_1_1 (fun args s t => by simp [limb_1_1, Cond.after, Cond.holds, Cond.value]), lw_limb limb_1_2 (fun args s t => Cond.after_iff.mpr (by
  first | (rw [show limb_1_2 = Cond.eq .result (.int 1) from rfl, Cond.eq_ints (x := 1) (y := 1) rfl rfl]; simp; done) | (simp [limb_1_2, Cond.value, Term.eval]; done)))⟩
