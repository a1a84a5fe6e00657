/-! ===== the reference: how its arrays hold modules ===== -/
def RNet (P : xP) (σ : xS) (T : xT) (c : Nat) (x : xNet) : Prop := (∃ q, σ.AI (P.base + 19) c = nI q ∧ NmAt T q x.1) ∧ σ.AI (P.base + 20) c = nI (if x.2.1 = 3 then 0 else x.2.1) ∧ σ.AI (P.base + 21) c = nI x.2.2 ∧ σ.AI (P.base + 23) c = bI (decide (x.2.1 ≠ 3))
def RNs (P : xP) (σ : xS) (T : xT) (M : Nat) (ns : List xNet) : Prop := ∀ j x, ns[j]? = some x → RNet P σ T (16 * M + j) x
def RRef (P : xP) (σ : xS) (T : xT) (hv n : Nat) (ns : List xNet) (r : Nat) (x : xPart) : Prop := (512 * hv ≤ r ∧ r < 512 * hv + n) ∧ σ.AI (P.base + 26) r = nI x.1 ∧ σ.AI (P.base + 25) r = nI x.2.1 ∧ (x.1 = 3 → ∃ d, σ.AI (P.base + 28) r = nI d ∧ NmAt T d (98 :: x.2.2.2.2.2) ∧ σ.AI (P.base + 29) r = nI x.2.2.2.2.2.length) ∧ (x.1 ≠ 3 → ∃ j, σ.AI (P.base + 27) r = nI j ∧ j < 16 ∧ (ns[j]?).map (fun y => y.1) = some x.2.2.1) ∧ (x.1 = 1 ∨ x.1 = 2 → σ.AI (P.base + 28) r = nI x.2.2.2.1 ∧ σ.AI (P.base + 29) r = nI x.2.2.2.2.1)
def RAs (P : xP) (σ : xS) (T : xT) (hv n M : Nat) (ns : List xNet) (as : List (xPart × xPart)) : Prop := ∀ j a, as[j]? = some a → ∃ r1 r2, σ.AI (P.base + 31) (8 * M + j) = nI r1 ∧ σ.AI (P.base + 32) (8 * M + j) = nI r2 ∧ RRef P σ T hv n ns r1 a.1 ∧ RRef P σ T hv n ns r2 a.2
def RLk (P : xP) (σ : xS) (T : xT) (hv n : Nat) (ns : List xNet) (byN : Bool) (c : Nat) (l : xLnk) : Prop := (match l.2.2 with
  | none => σ.AI (P.base + 39) c = nN
  | some x => ∃ r, σ.AI (P.base + 39) c = nI r ∧ RRef P σ T hv n ns r x) ∧ (byN = true → σ.AI (P.base + 40) c = nI l.2.1 ∧ NmAt T l.2.1 l.1) ∧ (byN = false → σ.AI (P.base + 41) c = nI l.2.1)
def RIn (P : xP) (σ : xS) (T : xT) (hv n : Nat) (ns : List xNet) (c : Nat) (i : xIns) : Prop := (∃ q, σ.AI (P.base + 34) c = nI q ∧ NmAt T q i.1) ∧ σ.AI (P.base + 35) c = nI i.2.2.1 ∧ NmAt T i.2.2.1 i.2.1 ∧ σ.AI (P.base + 36) c = bI i.2.2.2.1 ∧ σ.AI (P.base + 38) c = nI i.2.2.2.2.length ∧ ∀ t l, i.2.2.2.2[t]? = some l → RLk P σ T hv n ns i.2.2.2.1 (16 * c + t) l
def RIs (P : xP) (σ : xS) (T : xT) (hv n M : Nat) (ns : List xNet) (is : List xIns) : Prop := ∀ j i, is[j]? = some i → RIn P σ T hv n ns (12 * M + j) i
/-- the module m lies at M in the half hv; it counts ni instances -/
def RMc (P : xP) (σ : xS) (T : xT) (hv n M : Nat) (m : xMod) (ni : Nat) : Prop := (σ.AI (P.base + 16) M = nI m.pl ∧ NmAt T m.pl m.nm ∧ σ.AI (P.base + 17) M = nI m.ports.length ∧ σ.AI (P.base + 18) M = nI m.nets.length ∧ σ.AI (P.base + 30) M = nI m.asg.length ∧ σ.AI (P.base + 33) M = nI ni) ∧ RNs P σ T M m.nets ∧ RAs P σ T hv n M m.nets m.asg ∧ RIs P σ T hv n M m.nets m.ins
def RMd (P : xP) (σ : xS) (T : xT) (hv n M : Nat) (m : xMod) : Prop := RMc P σ T hv n M m m.ins.length
/-- x is a part of something in m -/
def inP (m : xMod) (x : xPart) : Prop := (∃ a ∈ m.asg, x = a.1 ∨ x = a.2) ∨ ∃ i ∈ m.ins, ∃ l ∈ i.2.2.2.2, l.2.2 = some x
/-- cells of the module at M, but for the parts -/
def cl (M k i : Nat) : Prop := ((k = 16 ∨ k = 17 ∨ k = 18 ∨ k = 30 ∨ k = 33) ∧ i = M) ∨ (19 ≤ k ∧ k ≤ 23 ∧ 16 * M ≤ i ∧ i < 16 * M + 16) ∨ ((k = 31 ∨ k = 32) ∧ 8 * M ≤ i ∧ i < 8 * M + 8) ∨ (34 ≤ k ∧ k ≤ 38 ∧ 12 * M ≤ i ∧ i < 12 * M + 12) ∨ (39 ≤ k ∧ k ≤ 41 ∧ 192 * M ≤ i ∧ i < 192 * M + 192)
theorem RNs.ag {P : xP} {σ σ' : xS} {T : xT} {M : Nat} {ns : List xNet} (h : RNs P σ T M ns) (hl : ns.length ≤ 16) (hc : ∀ k i, (k = 19 ∨ k = 20 ∨ k = 21 ∨ k = 23) → 16 * M ≤ i → i < 16 * M + 16 → σ'.AI (P.base + k) i = σ.AI (P.base + k) i) : RNs P σ' T M ns := by
  intro j x hx
  have := get_lt hx
  obtain ⟨⟨q, h1, h2⟩, h3, h4, h5⟩ := h j x hx
  exact ⟨⟨q, (hc 19 _ (by omega) (by omega) (by omega)).trans h1, h2⟩, (hc 20 _ (by omega) (by omega) (by omega)).trans h3, (hc 21 _ (by omega) (by omega) (by omega)).trans h4, (hc 23 _ (by omega) (by omega) (by omega)).trans h5⟩
theorem RAs.ag {P : xP} {σ σ' : xS} {T : xT} {hv n n' M : Nat} {ns ns' : List xNet} {as : List (xPart × xPart)} (h : RAs P σ T hv n M ns as) (hl : as.length ≤ 8) (hc : ∀ k i, (k = 31 ∨ k = 32) → 8 * M ≤ i → i < 8 * M + 8 → σ'.AI (P.base + k) i = σ.AI (P.base + k) i) (hr : ∀ r x, (∃ a ∈ as, x = a.1 ∨ x = a.2) → RRef P σ T hv n ns r x → RRef P σ' T hv n' ns' r x) : RAs P σ' T hv n' M ns' as := by
  intro j a ha
  have := get_lt ha
  obtain ⟨r1, r2, h1, h2, h3, h4⟩ := h j a ha
  have am := List.mem_of_getElem? ha
  exact ⟨r1, r2, (hc 31 _ (by omega) (by omega) (by omega)).trans h1, (hc 32 _ (by omega) (by omega) (by omega)).trans h2, hr r1 _ ⟨a, am, Or.inl rfl⟩ h3, hr r2 _ ⟨a, am, Or.inr rfl⟩ h4⟩
theorem RLk.ag {P : xP} {σ σ' : xS} {T : xT} {hv n n' c : Nat} {ns ns' : List xNet} {byN : Bool} {l : xLnk} (h : RLk P σ T hv n ns byN c l) (hc : ∀ k, (k = 39 ∨ k = 40 ∨ k = 41) → σ'.AI (P.base + k) c = σ.AI (P.base + k) c) (hr : ∀ r x, l.2.2 = some x → RRef P σ T hv n ns r x → RRef P σ' T hv n' ns' r x) : RLk P σ' T hv n' ns' byN c l := by
  obtain ⟨h1, h2, h3⟩ := h
  refine ⟨?_, fun e => ⟨(hc 40 (by omega)).trans (h2 e).1, (h2 e).2⟩, fun e => (hc 41 (by omega)).trans (h3 e)⟩
  cases e : l.2.2 with
  | none => rw [e] at h1; exact (hc 39 (by omega)).trans h1
  | some x =>
    rw [e] at h1
    obtain ⟨r, q1, q2⟩ := h1
    exact ⟨r, (hc 39 (by omega)).trans q1, hr r x e q2⟩
theorem RIn.ag {P : xP} {σ σ' : xS} {T : xT} {hv n n' c : Nat} {ns ns' : List xNet} {i : xIns} (h : RIn P σ T hv n ns c i) (hl : i.2.2.2.2.length ≤ 16) (hc : ∀ k, (k = 34 ∨ k = 35 ∨ k = 36 ∨ k = 38) → σ'.AI (P.base + k) c = σ.AI (P.base + k) c) (hc2 : ∀ k t, (k = 39 ∨ k = 40 ∨ k = 41) → t < 16 → σ'.AI (P.base + k) (16 * c + t) = σ.AI (P.base + k) (16 * c + t)) (hr : ∀ r x, (∃ l ∈ i.2.2.2.2, l.2.2 = some x) → RRef P σ T hv n ns r x → RRef P σ' T hv n' ns' r x) : RIn P σ' T hv n' ns' c i := by
  obtain ⟨⟨q, h1, h2⟩, h3, h4, h5, h6, h7⟩ := h
  refine ⟨⟨q, (hc 34 (by omega)).trans h1, h2⟩, (hc 35 (by omega)).trans h3, h4, (hc 36 (by omega)).trans h5, (hc 38 (by omega)).trans h6, fun t l hl' => ?_⟩
  have := get_lt hl'
  exact (h7 t l hl').ag (fun k hk => hc2 k t hk (by omega)) (fun r x hx => hr r x ⟨l, List.mem_of_getElem? hl', hx⟩)
theorem RIs.ag {P : xP} {σ σ' : xS} {T : xT} {hv n n' M : Nat} {ns ns' : List xNet} {is : List xIns} (h : RIs P σ T hv n M ns is) (hl : is.length ≤ 12) (hl2 : ∀ i ∈ is, i.2.2.2.2.length ≤ 16) (hc : ∀ k i, (k = 34 ∨ k = 35 ∨ k = 36 ∨ k = 38) → 12 * M ≤ i → i < 12 * M + 12 → σ'.AI (P.base + k) i = σ.AI (P.base + k) i) (hc2 : ∀ k i, (k = 39 ∨ k = 40 ∨ k = 41) → 192 * M ≤ i → i < 192 * M + 192 → σ'.AI (P.base + k) i = σ.AI (P.base + k) i) (hr : ∀ r x, (∃ i ∈ is, ∃ l ∈ i.2.2.2.2, l.2.2 = some x) → RRef P σ T hv n ns r x → RRef P σ' T hv n' ns' r x) : RIs P σ' T hv n' M ns' is := by
  intro j i hi
  have := get_lt hi
  have im := List.mem_of_getElem? hi
  exact (h j i hi).ag (hl2 i im) (fun k hk => hc k _ hk (by omega) (by omega)) (fun k t hk ht => hc2 k _ hk (by omega) (by omega)) (fun r x ⟨l, h1, h2⟩ => hr r x ⟨i, im, l, h1, h2⟩)
theorem RMc.ag {P : xP} {σ σ' : xS} {T : xT} {hv n n' M ni : Nat} {m : xMod} {lng : Bool} {p : Nat} (h : RMc P σ T hv n M m ni) (hw : WX lng m p) (hc : ∀ k i, cl M k i → σ'.AI (P.base + k) i = σ.AI (P.base + k) i) (hr : ∀ r x, inP m x → RRef P σ T hv n m.nets r x → RRef P σ' T hv n' m.nets r x) : RMc P σ' T hv n' M m ni := by
  obtain ⟨⟨h1, h2, h3, h4, h5, h6⟩, h7, h8, h9⟩ := h
  obtain ⟨w1, w2, w3⟩ := hw.2.2.2.1
  have c1 : ∀ k, (k = 16 ∨ k = 17 ∨ k = 18 ∨ k = 30 ∨ k = 33) → σ'.AI (P.base + k) M = σ.AI (P.base + k) M := fun k hk => hc k M (Or.inl ⟨hk, rfl⟩)
  refine ⟨⟨(c1 16 (by omega)).trans h1, h2, (c1 17 (by omega)).trans h3, (c1 18 (by omega)).trans h4, (c1 30 (by omega)).trans h5, (c1 33 (by omega)).trans h6⟩, ?_, ?_, ?_⟩
  · exact h7.ag w1 (fun k i hk a b => hc k i (Or.inr (Or.inl ⟨by omega, by omega, a, b⟩)))
  · exact h8.ag w2 (fun k i hk a b => hc k i (Or.inr (Or.inr (Or.inl ⟨hk, a, b⟩)))) (fun r x hx => hr r x (Or.inl hx))
  · exact h9.ag w3 (fun i hi => (hw.2.2.2.2.1.2.2 i hi).2.2.1) (fun k i hk a b => hc k i (Or.inr (Or.inr (Or.inr (Or.inl ⟨by omega, by omega, a, b⟩))))) (fun k i hk a b => hc k i (Or.inr (Or.inr (Or.inr (Or.inr ⟨by omega, by omega, a, b⟩))))) (fun r x hx => hr r x (Or.inr hx))
theorem RMd.ag {P : xP} {σ σ' : xS} {T : xT} {hv n n' M : Nat} {m : xMod} {lng : Bool} {p : Nat} (h : RMd P σ T hv n M m) (hw : WX lng m p) (hc : ∀ k i, cl M k i → σ'.AI (P.base + k) i = σ.AI (P.base + k) i) (hr : ∀ r x, inP m x → RRef P σ T hv n m.nets r x → RRef P σ' T hv n' m.nets r x) : RMd P σ' T hv n' M m := RMc.ag h hw hc hr
/-- only cells of the module at M, parts of its half, and the word have changed; parts told before the place pl stay -/
def FM (P : xP) (hv M pl n : Nat) (σ σ' : xS) : Prop := (σ'.K = σ.K ∧ σ'.L = σ.L ∧ σ'.J = σ.J ∧ σ'.R = σ.R ∧ σ'.AJ = σ.AJ ∧ σ'.AR = σ.AR ∧ σ'.sz = σ.sz ∧ σ'.su = σ.su) ∧ (∀ f a, ¬ (a = P.base + 11 ∧ 1134 ≤ f ∧ f ≤ 1139) → σ'.I f a = σ.I f a) ∧
  (∀ a i, (∀ k, a = P.base + k → ¬ (cl M k i ∨ (k = 24 ∧ i = hv) ∨ (25 ≤ k ∧ k ≤ 29 ∧ 512 * hv ≤ i ∧ i < 512 * hv + 512))) → σ'.AI a i = σ.AI a i) ∧
  (∀ r, 512 * hv ≤ r → r < 512 * hv + n → (∀ k, (k = 25 ∨ k = 26 ∨ k = 28 ∨ k = 29) → σ'.AI (P.base + k) r = σ.AI (P.base + k) r) ∧ ∀ q, σ.AI (P.base + 25) r = nI q → q < pl → σ'.AI (P.base + 27) r = σ.AI (P.base + 27) r)
theorem FM.refl (P : xP) (hv M pl n : Nat) (σ : xS) : FM P hv M pl n σ σ := ⟨⟨rfl, rfl, rfl, rfl, rfl, rfl, rfl, rfl⟩, fun _ _ _ => rfl, fun _ _ _ => rfl, fun _ _ _ => ⟨fun _ _ => rfl, fun _ _ _ => rfl⟩⟩
theorem FM.trans {P : xP} {hv M pl n n' : Nat} {σ σ' σ'' : xS} (h : FM P hv M pl n σ σ') (k : FM P hv M pl n' σ' σ'') (hn : n ≤ n') : FM P hv M pl n σ σ'' := by
  obtain ⟨⟨a1, a2, a3, a4, a5, a6, a7, a8⟩, a9, a10, a11⟩ := h
  obtain ⟨⟨b1, b2, b3, b4, b5, b6, b7, b8⟩, b9, b10, b11⟩ := k
  refine ⟨⟨b1.trans a1, b2.trans a2, b3.trans a3, b4.trans a4, b5.trans a5, b6.trans a6, b7.trans a7, b8.trans a8⟩, fun f a hf => (b9 f a hf).trans (a9 f a hf), fun a i ha => (b10 a i ha).trans (a10 a i ha), fun r r1 r2 => ?_⟩
  obtain ⟨x1, x2⟩ := a11 r r1 r2
  obtain ⟨y1, y2⟩ := b11 r r1 (by omega)
  exact ⟨fun k hk => (y1 k hk).trans (x1 k hk), fun q hq hpl => (y2 q ((x1 25 (by omega)).trans hq) hpl).trans (x2 q hq hpl)⟩
theorem FL.fm {P : xP} {hv M pl n : Nat} {σ σ' : xS} (h : FL P σ σ') : FM P hv M pl n σ σ' := by
  obtain ⟨a1, a2, a3, a4, a5, a6, a7, a8, a9, a10⟩ := h
  exact ⟨⟨a1, a2, a3, a4, a6, a7, a8, a9⟩, a10, fun a i _ => by rw [a5], fun r _ _ => ⟨fun k _ => by rw [a5], fun q _ _ => by rw [a5]⟩⟩
theorem FM.set {P : xP} {hv M pl n k i : Nat} {σ : xS} {v : Int32} (h : cl M k i) : FM P hv M pl n σ (σ.setAI (P.base + k) i v) := by
  have hk : ¬ (24 ≤ k ∧ k ≤ 29) := by unfold cl at h; omega
  refine ⟨⟨rfl, rfl, rfl, rfl, rfl, rfl, rfl, rfl⟩, fun _ _ _ => rfl, fun a j ha => ?_, fun r _ _ => ⟨fun k' hk' => ?_, fun q _ _ => ?_⟩⟩
  · by_cases e : a = P.base + k ∧ j = i
    · obtain ⟨e1, e2⟩ := e
      subst e2
      exact absurd (Or.inl h) (ha k e1)
    · show x_up2 σ.AI (P.base + k) i v a j = _
      by_cases e1 : a = P.base + k
      · rw [x_up2_a (fun z => e ⟨e1, z⟩)]
      · rw [x_up2_k e1]
  · exact x_up2_k (by omega)
  · exact x_up2_k (by omega)
theorem FM.ri {P : xP} {hv M pl n : Nat} {σ σ' : xS} (f : FM P hv M pl n σ σ') (h : RI P σ) : RI P σ' := by
  unfold RI at h ⊢
  rw [f.1.1, f.1.2.1, f.1.2.2.2.1]
  exact h
theorem FM.tx {P : xP} {T : xT} {hv hv' M pl n : Nat} {σ σ' : xS} (f : FM P hv M pl n σ σ') (h : TX P T hv' σ) : TX P T hv' σ' := by
  obtain ⟨h1, h2, h3, h4, h5, h6, h7⟩ := h
  have na : ∀ k i, k < 16 → σ'.AI (P.base + k) i = σ.AI (P.base + k) i := by
    intro k i hk
    refine f.2.2.1 _ i (fun k' e => ?_)
    have : k' = k := by omega
    subst this
    unfold cl
    omega
  exact ⟨f.ri h1, h2, h3, (f.2.1 1140 _ (by omega)).trans h4, (na 14 _ (by omega)).trans h5, fun i hi => (na 13 _ (by omega)).trans (h6 i hi), h7⟩
theorem RRef.fm {P : xP} {T : xT} {hv M pl n : Nat} {σ σ' : xS} {ns : List xNet} {r : Nat} {x : xPart} (h : RRef P σ T hv n ns r x) (f : FM P hv M pl n σ σ') (hpl : x.2.1 < pl) : RRef P σ' T hv n ns r x := by
  obtain ⟨h1, h2, h3, h4, h5, h6⟩ := h
  obtain ⟨f1, f2⟩ := f.2.2.2 r h1.1 h1.2
  have e25 := f1 25 (by omega)
  have e26 := f1 26 (by omega)
  have e28 := f1 28 (by omega)
  have e29 := f1 29 (by omega)
  have e27 := f2 _ h3 hpl
  unfold RRef
  rw [e25, e26, e27, e28, e29]
  exact ⟨h1, h2, h3, h4, h5, h6⟩
theorem RRef.up {P : xP} {T : xT} {hv n n' : Nat} {σ : xS} {ns : List xNet} {r : Nat} {x : xPart} (h : RRef P σ T hv n ns r x) (hn : n ≤ n') : RRef P σ T hv n' ns r x := ⟨⟨h.1.1, by have := h.1.2; omega⟩, h.2⟩
theorem inP_pl {lng : Bool} {m : xMod} {p : Nat} (h : WX lng m p) {x : xPart} (hx : inP m x) : m.pl < x.2.1 ∧ x.2.1 < p := by
  obtain ⟨-, -, -, -, ⟨w1, w2, w3⟩, -⟩ := h
  rcases hx with ⟨a, ha, e | e⟩ | ⟨i, hi, l, hl, e⟩
  · subst e; have := w2 a ha; omega
  · subst e; have := w2 a ha; omega
  · have := w3 i hi
    have q := this.2.1.1 l hl
    have := q.2.2 x e
    omega
/-- another module of the same half, all of it before the place pl -/
theorem RMd.fm {P : xP} {T : xT} {hv M M' pl n n' : Nat} {σ σ' : xS} {m : xMod} {lng : Bool} (h : RMd P σ T hv n M' m) (hw : WX lng m pl) (f : FM P hv M pl n σ σ') (hM : M' ≠ M) (hn : n ≤ n') : RMd P σ' T hv n' M' m := by
  refine h.ag hw (fun k i hc => ?_) (fun r x hx hr => (hr.fm f (inP_pl hw hx).2).up hn)
  refine f.2.2.1 _ i (fun k' e => ?_)
  have : k' = k := by omega
  subst this
  unfold cl at hc ⊢
  omega
/-- a module of the other half -/
theorem RMd.fo {P : xP} {T : xT} {hv hv' M M' pl n n' : Nat} {σ σ' : xS} {m : xMod} {lng : Bool} {p : Nat} (h : RMd P σ T hv' n' M' m) (hw : WX lng m p) (f : FM P hv M pl n σ σ') (hM : M' ≠ M) (hh : hv ≠ hv') (hn : n' ≤ 512) : RMd P σ' T hv' n' M' m := by
  have nr : ∀ k r, 25 ≤ k → k ≤ 29 → 512 * hv' ≤ r → r < 512 * hv' + n' → σ'.AI (P.base + k) r = σ.AI (P.base + k) r := by
    intro k r h1 h2 h3 h4
    refine f.2.2.1 _ r (fun k' e => ?_)
    have : k' = k := by omega
    subst this
    unfold cl
    omega
  refine h.ag hw (fun k i hc => ?_) (fun r x hx hr => ?_)
  · refine f.2.2.1 _ i (fun k' e => ?_)
    have : k' = k := by omega
    subst this
    unfold cl at hc ⊢
    omega
  · obtain ⟨h1, h2, h3, h4, h5, h6⟩ := hr
    unfold RRef
    rw [nr 25 r (by omega) (by omega) h1.1 h1.2, nr 26 r (by omega) (by omega) h1.1 h1.2, nr 27 r (by omega) (by omega) h1.1 h1.2, nr 28 r (by omega) (by omega) h1.1 h1.2, nr 29 r (by omega) (by omega) h1.1 h1.2]
    exact ⟨h1, h2, h3, h4, h5, h6⟩
