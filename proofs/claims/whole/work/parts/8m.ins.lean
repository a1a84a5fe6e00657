/-! ===== the reference: while an instance is read ===== -/
theorem RIs.ag' {P : xP} {σ σ' : xS} {T : xT} {hv n n' M : Nat} {ns ns' : List xNet} {is : List xIns} (h : RIs P σ T hv n M ns is) (hl2 : ∀ i ∈ is, i.2.2.2.2.length ≤ 16) (hc : ∀ k i, (k = 34 ∨ k = 35 ∨ k = 36 ∨ k = 38) → 12 * M ≤ i → i < 12 * M + is.length → σ'.AI (P.base + k) i = σ.AI (P.base + k) i) (hc2 : ∀ k i, (k = 39 ∨ k = 40 ∨ k = 41) → 192 * M ≤ i → i < 192 * M + 16 * is.length → σ'.AI (P.base + k) i = σ.AI (P.base + k) i) (hr : ∀ r x, RRef P σ T hv n ns r x → RRef P σ' T hv n' ns' r x) : RIs P σ' T hv n' M ns' is := by
  intro j i hi
  have := get_lt hi
  have im := List.mem_of_getElem? hi
  exact (h j i hi).ag (hl2 i im) (fun k hk => hc k _ hk (by omega) (by omega)) (fun k t hk ht => hc2 k _ hk (by omega) (by omega)) (fun r x _ => hr r x)
/-- only cells of the instance k of the module at M, and how many there are -/
def FKi (P : xP) (M k : Nat) (σ σ' : xS) : Prop := (σ'.K = σ.K ∧ σ'.L = σ.L ∧ σ'.J = σ.J ∧ σ'.R = σ.R ∧ σ'.AJ = σ.AJ ∧ σ'.AR = σ.AR ∧ σ'.sz = σ.sz ∧ σ'.su = σ.su) ∧ σ'.I = σ.I ∧ ∀ a i, (∀ c, a = P.base + c → ¬ ((c = 33 ∧ i = M) ∨ (34 ≤ c ∧ c ≤ 38 ∧ i = 12 * M + k) ∨ (39 ≤ c ∧ c ≤ 41 ∧ 16 * (12 * M + k) ≤ i ∧ i < 16 * (12 * M + k) + 16))) → σ'.AI a i = σ.AI a i
theorem FKi.refl (P : xP) (M k : Nat) (σ : xS) : FKi P M k σ σ := ⟨⟨rfl, rfl, rfl, rfl, rfl, rfl, rfl, rfl⟩, rfl, fun _ _ _ => rfl⟩
theorem FKi.set {P : xP} {M k c i : Nat} {σ σ' : xS} {v : Int32} (f : FKi P M k σ σ') (h : (c = 33 ∧ i = M) ∨ (34 ≤ c ∧ c ≤ 38 ∧ i = 12 * M + k) ∨ (39 ≤ c ∧ c ≤ 41 ∧ 16 * (12 * M + k) ≤ i ∧ i < 16 * (12 * M + k) + 16)) : FKi P M k σ (σ'.setAI (P.base + c) i v) := by
  obtain ⟨f1, f2, f3⟩ := f
  refine ⟨f1, f2, fun a j ha => ?_⟩
  rw [← f3 a j ha, q_AI_setAI, up2_ne]
  intro z
  obtain ⟨z1, z2⟩ := z
  subst z2
  exact ha c z1 h
theorem FKi.ai {P : xP} {M k c i : Nat} {σ σ' : xS} (f : FKi P M k σ σ') (h : ¬ ((c = 33 ∧ i = M) ∨ (34 ≤ c ∧ c ≤ 38 ∧ i = 12 * M + k) ∨ (39 ≤ c ∧ c ≤ 41 ∧ 16 * (12 * M + k) ≤ i ∧ i < 16 * (12 * M + k) + 16))) : σ'.AI (P.base + c) i = σ.AI (P.base + c) i := by
  refine f.2.2 _ _ (fun c' hc' => ?_)
  have : c' = c := by omega
  subst this
  exact h
theorem FKi.fm {P : xP} {hv M k pl n : Nat} {σ σ' : xS} (f : FKi P M k σ σ') (hk : k < 12) : FM P hv M pl n σ σ' := by
  refine ⟨f.1, fun _ _ _ => by rw [f.2.1], fun a i ha => f.2.2 a i (fun c hc z => ha c hc (Or.inl (by unfold cl; omega))), fun r _ _ => ⟨fun c hc => f.ai (by omega), fun q _ _ => f.ai (by omega)⟩⟩
theorem RRef.fk {P : xP} {T : xT} {hv n M k : Nat} {σ σ' : xS} {ns : List xNet} {r : Nat} {x : xPart} (h : RRef P σ T hv n ns r x) (f : FKi P M k σ σ') : RRef P σ' T hv n ns r x := h.nm (fun c _ _ => f.ai (by omega)) (fun _ _ z => z)
theorem RX.lk {P : xP} {T : xT} {hv : Nat} {lng : Bool} {ms : List xMod} {m : xMod} {n ni : Nat} {σ σ' : xS} {p : Nat} (h : RX P T hv lng ms m n σ p) (f : FKi P (8 * hv + ms.length) m.ins.length σ σ') (hk : m.ins.length < 12) (h33 : σ'.AI (P.base + 33) (8 * hv + ms.length) = nI ni) : RX P T hv lng ms m n σ' p := by
  obtain ⟨g1, g2, g3, g4, g5, ⟨ni0, ⟨⟨b1, b2, b3, b4, b5, b6⟩, b7, b8, b9⟩⟩, g8, g9, g10⟩ := id h
  have w := g8.2.2.2.1
  refine h.cur (f.fm hk) f.2.1 (f.ai (by omega)) ⟨ni, ⟨⟨(f.ai (by omega)).trans b1, b2, (f.ai (by omega)).trans b3, (f.ai (by omega)).trans b4, (f.ai (by omega)).trans b5, h33⟩, ?_, ?_, ?_⟩⟩ g8 rfl
  · exact b7.ag w.1 (fun c i hc _ _ => f.ai (by omega))
  · exact b8.ag w.2.1 (fun c i hc _ _ => f.ai (by omega)) (fun r x _ hr => hr.fk f)
  · exact b9.ag' (fun i hi => (g8.2.2.2.2.1.2.2 i hi).2.2.1) (fun c i hc _ _ => f.ai (by omega)) (fun c i hc _ _ => f.ai (by omega)) (fun r x hr => hr.fk f)
/-- the instance i is being read -/
def PIn (P : xP) (T : xT) (hv : Nat) (lng : Bool) (ms : List xMod) (pl n0 : Nat) (σ0 : xS) (m : xMod) (i : xIns) (σ : xS) (p : Nat) : Prop := m.pl = pl ∧ FM P hv (8 * hv + ms.length) pl n0 σ0 σ ∧ m.ins.length < 12 ∧ (nm_ok i.1 ∧ nm_ok i.2.1 ∧ ∃ p0, WX lng m p0 ∧ p0 ≤ i.2.2.1) ∧ LW i.2.2.2.1 m.nets i.2.2.1 i.2.2.2.2 p ∧ ∃ n, n0 ≤ n ∧ RX P T hv lng ms m n σ p ∧ σ.AI (P.base + 33) (8 * hv + ms.length) = nI (m.ins.length + 1) ∧ RIn P σ T hv n m.nets (12 * (8 * hv + ms.length) + m.ins.length) i
theorem PIn.tr {P : xP} {T : xT} {hv : Nat} {lng : Bool} {ms : List xMod} {pl n0 : Nat} {σ0 : xS} {m : xMod} {i : xIns} {σ : xS} {p : Nat} (h : PIn P T hv lng ms pl n0 σ0 m i σ p) : TX P T hv σ ∧ RC P T σ p := by
  obtain ⟨-, -, -, -, -, n, -, h4, -⟩ := h
  exact ⟨h4.1, h4.2.1⟩
theorem LW.up' {byN : Bool} {ns : List xNet} {lo : Nat} {ls : List xLnk} {p p' : Nat} (h : LW byN ns lo ls p) (hp : p ≤ p') : LW byN ns lo ls p' := h.up hp
theorem RIn.cell {P : xP} {σ σ' : xS} {T : xT} {hv n n' c : Nat} {ns : List xNet} {i : xIns} (h : RIn P σ T hv n ns c i) (hl : i.2.2.2.2.length ≤ 16) (hc : ∀ k j, 34 ≤ k → k ≤ 41 → σ'.AI (P.base + k) j = σ.AI (P.base + k) j) (hr : ∀ r x, RRef P σ T hv n ns r x → RRef P σ' T hv n' ns r x) : RIn P σ' T hv n' ns c i := h.ag hl (fun k hk => hc k _ (by omega) (by omega)) (fun k t hk _ => hc k _ (by omega) (by omega)) (fun r x _ => hr r x)
theorem PIn.fl {P : xP} {T : xT} {hv : Nat} {lng : Bool} {ms : List xMod} {pl n0 : Nat} {σ0 : xS} {m : xMod} {i : xIns} {σ σ' : xS} {p p' : Nat} (h : PIn P T hv lng ms pl n0 σ0 m i σ p) (f : FL P σ σ') (c : RC P T σ' p') (hp : p ≤ p') : PIn P T hv lng ms pl n0 σ0 m i σ' p' := by
  obtain ⟨h1, h2, h3, h4, h5, n, h6, h7, h8, h9⟩ := h
  have e : σ'.AI = σ.AI := f.2.2.2.2.1
  refine ⟨h1, h2.trans f.fm h6, h3, h4, h5.up hp, n, h6, h7.fl f c hp, by rw [e]; exact h8, ?_⟩
  exact h9.cell h5.2.1 (fun k j _ _ => by rw [e]) (fun r x hr => hr.nm (fun c _ _ => by rw [e]) (fun _ _ z => z))
theorem PIn.bad {P : xP} {T : xT} {hv : Nat} {lng : Bool} {ms : List xMod} {pl n0 : Nat} {σ0 : xS} {m : xMod} {i : xIns} {σ : xS} {p : Nat} (h : PIn P T hv lng ms pl n0 σ0 m i σ p) (hk : lx_kind T p = 4) : EI P T hv ms pl n0 σ0 p σ := by
  obtain ⟨h1, h2, h3, h4, h5, n, h6, h7, h8, h9⟩ := h
  exact ⟨h2, h7.bad hk⟩
theorem PIfail {P : xP} {T : xT} {hv : Nat} {lng : Bool} {ms : List xMod} {pl n0 : Nat} {σ0 : xS} {m : xMod} {i : xIns} {σ : xS} {p : Nat} (h : PIn P T hv lng ms pl n0 σ0 m i σ p) : EI P T hv ms pl n0 σ0 p (fl P σ p) := by
  obtain ⟨h1, h2, h3, h4, h5, n, h6, h7, h8, h9⟩ := h
  exact EI.fail h7 h2 h6
theorem PIn.sign {P : xP} {T : xT} {hv : Nat} {lng : Bool} {ms : List xMod} {pl n0 : Nat} {σ0 : xS} {m : xMod} {i : xIns} {σ : xS} {p c : Nat} (h : PIn P T hv lng ms pl n0 σ0 m i σ p) (hk : lx_kind T p ≠ 4) (hc : c < 2 ^ 31) : Rr (dm_X12_needSign P (P.base + 11) (nI c) σ) (sp_sign T c p) (fun _ s p' => PIn P T hv lng ms pl n0 σ0 m i s p') (EI P T hv ms pl n0 σ0) := by
  obtain ⟨-, h2, -, -, -, n, h6, h7, -⟩ := id h
  obtain ⟨v, s, q1, q2⟩ := rx_sign (σ0 := σ) h7 hk hc (FP.refl P hv n σ)
  refine ⟨v, s, q1, ?_⟩
  cases e : sp_sign T c p with
  | ok p' =>
    obtain ⟨v', s', y1, y2⟩ := rw_needSign h.tr.1 h.tr.2 hk hc
    rw [y1] at q1
    cases q1
    rw [e] at y2
    have := po_sign e
    exact h.fl y2.1 y2.2 (by omega)
  | error g =>
    rw [e] at q2
    exact ⟨h2.trans q2.1.fm h6, q2.2⟩
theorem PIn.next {P : xP} {T : xT} {hv : Nat} {lng : Bool} {ms : List xMod} {pl n0 : Nat} {σ0 : xS} {m : xMod} {i : xIns} {σ : xS} {p : Nat} (h : PIn P T hv lng ms pl n0 σ0 m i σ p) (hk : lx_kind T p ≠ 4) (hp : p < T.2) : ∃ s, dm_X12_next P (P.base + 11) σ = some (.inl (), s) ∧ PIn P T hv lng ms pl n0 σ0 m i s (lx_nx T p) := by
  obtain ⟨s, u1, u2, u3⟩ := rw_next h.tr.1 h.tr.2 hk
  have := nx_gt hp
  exact ⟨s, u1, h.fl u2 u3 (by omega)⟩
/-- the instance is read -/
theorem PIn.si {P : xP} {T : xT} {hv : Nat} {lng : Bool} {ms : List xMod} {pl n0 : Nat} {σ0 : xS} {m : xMod} {i : xIns} {σ : xS} {p : Nat} (h : PIn P T hv lng ms pl n0 σ0 m i σ p) : SI P T hv lng ms pl n0 σ0 (m.wIns i) σ p := by
  obtain ⟨h1, h2, h3, ⟨h4, h4', p0, w0, hp0⟩, h5, n, h6, h7, h8, h9⟩ := h
  obtain ⟨g1, g2, g3, g4, g5, ⟨ni0, ⟨⟨b1, b2, b3, b4, b5, b6⟩, b7, b8, b9⟩⟩, g8, g9, g10⟩ := id h7
  have e8 : σ.AI (P.base + 33) (8 * hv + ms.length) = nI (m.wIns i).ins.length := by
    rw [h8]
    show _ = nI (m.ins ++ [i]).length
    simp
  have lt : i.2.2.1 < p := h5.2.2.2.2
  refine ⟨h1, h2, n, h6, h7.cur (FM.refl _ _ _ _ _ _) rfl rfl ⟨_, ⟨⟨b1, b2, b3, b4, b5, e8⟩, b7, b8, ?_⟩⟩ ?_ rfl, e8⟩
  · intro j y hy
    have hy : (m.ins ++ [i])[j]? = some y := hy
    rcases app_get hy with ⟨z1, z2⟩ | ⟨z1, z2⟩
    · exact b9 j y z2
    · subst z1 z2
      exact h9
  · exact w0.ins (by omega) h4 h4' h3 hp0 h5
