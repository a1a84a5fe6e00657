/-! ===== the reference: a link is being read ===== -/
def RIq (P : xP) (σ : xS) (T : xT) (hv n : Nat) (ns : List xNet) (c : Nat) (i : xIns) (cnt : Nat) : Prop := (∃ q, σ.AI (P.base + 34) c = nI q ∧ NmAt T q i.1) ∧ σ.AI (P.base + 35) c = nI i.2.2.1 ∧ NmAt T i.2.2.1 i.2.1 ∧ σ.AI (P.base + 36) c = bI i.2.2.2.1 ∧ σ.AI (P.base + 38) c = nI cnt ∧ ∀ t l, i.2.2.2.2[t]? = some l → RLk P σ T hv n ns i.2.2.2.1 (16 * c + t) l
theorem RIq.ag {P : xP} {σ σ' : xS} {T : xT} {hv n n' c cnt : Nat} {ns : List xNet} {i : xIns} (h : RIq P σ T hv n ns c i cnt) (hl : i.2.2.2.2.length ≤ 16) (hc : ∀ k, (k = 34 ∨ k = 35 ∨ k = 36 ∨ k = 38) → σ'.AI (P.base + k) c = σ.AI (P.base + k) c) (hc2 : ∀ k t, (k = 39 ∨ k = 40 ∨ k = 41) → t < i.2.2.2.2.length → σ'.AI (P.base + k) (16 * c + t) = σ.AI (P.base + k) (16 * c + t)) (hr : ∀ r x, RRef P σ T hv n ns r x → RRef P σ' T hv n' ns r x) : RIq P σ' T hv n' ns c i cnt := by
  obtain ⟨⟨q, h1, h2⟩, h3, h4, h5, h6, h7⟩ := h
  refine ⟨⟨q, (hc 34 (by omega)).trans h1, h2⟩, (hc 35 (by omega)).trans h3, h4, (hc 36 (by omega)).trans h5, (hc 38 (by omega)).trans h6, fun t l hl' => ?_⟩
  have := get_lt hl'
  exact (h7 t l hl').ag (fun k hk => hc2 k t hk (by omega)) (fun r x _ => hr r x)
/-- what stands for a part -/
def RV (P : xP) (σ : xS) (T : xT) (hv n : Nat) (ns : List xNet) (o : Option xPart) (v : Int32) : Prop := match o with
  | none => v = nN
  | some x => ∃ r, v = nI r ∧ RRef P σ T hv n ns r x
theorem RV.mo {P : xP} {σ σ' : xS} {T : xT} {hv n n' : Nat} {ns : List xNet} {o : Option xPart} {v : Int32} (h : RV P σ T hv n ns o v) (hr : ∀ r x, RRef P σ T hv n ns r x → RRef P σ' T hv n' ns r x) : RV P σ' T hv n' ns o v := by
  cases o with
  | none => exact h
  | some x =>
    obtain ⟨r, r1, r2⟩ := h
    exact ⟨r, r1, hr r x r2⟩
/-- a link behind those of i is being read; its cell is there; it began at pc -/
def TIn (P : xP) (T : xT) (hv : Nat) (lng : Bool) (ms : List xMod) (pl n0 : Nat) (σ0 : xS) (m : xMod) (i : xIns) (pc : Nat) (o : Option xPart) (v : Int32) (σ : xS) (p : Nat) : Prop := m.pl = pl ∧ FM P hv (8 * hv + ms.length) pl n0 σ0 σ ∧ m.ins.length < 12 ∧ (nm_ok i.1 ∧ nm_ok i.2.1 ∧ ∃ p0, WX lng m p0 ∧ p0 ≤ i.2.2.1) ∧ i.2.2.2.2.length < 16 ∧ ∃ n, n0 ≤ n ∧ RX P T hv lng ms m n σ p ∧ σ.AI (P.base + 33) (8 * hv + ms.length) = nI (m.ins.length + 1) ∧ RIq P σ T hv n m.nets (12 * (8 * hv + ms.length) + m.ins.length) i (i.2.2.2.2.length + 1) ∧ σ.AI (P.base + 39) (16 * (12 * (8 * hv + ms.length) + m.ins.length) + i.2.2.2.2.length) = nN ∧ σ.AI (P.base + 41) (16 * (12 * (8 * hv + ms.length) + m.ins.length) + i.2.2.2.2.length) = nI pc ∧ RV P σ T hv n m.nets o v
theorem TIn.tr {P : xP} {T : xT} {hv : Nat} {lng : Bool} {ms : List xMod} {pl n0 : Nat} {σ0 : xS} {m : xMod} {i : xIns} {pc : Nat} {o : Option xPart} {v : Int32} {σ : xS} {p : Nat} (h : TIn P T hv lng ms pl n0 σ0 m i pc o v σ p) : TX P T hv σ ∧ RC P T σ p := by
  obtain ⟨-, -, -, -, -, n, -, h4, -⟩ := h
  exact ⟨h4.1, h4.2.1⟩
theorem TIn.fl {P : xP} {T : xT} {hv : Nat} {lng : Bool} {ms : List xMod} {pl n0 : Nat} {σ0 : xS} {m : xMod} {i : xIns} {pc : Nat} {o : Option xPart} {v : Int32} {σ σ' : xS} {p p' : Nat} (h : TIn P T hv lng ms pl n0 σ0 m i pc o v σ p) (f : FL P σ σ') (c : RC P T σ' p') (hp : p ≤ p') : TIn P T hv lng ms pl n0 σ0 m i pc o v σ' p' := by
  obtain ⟨h1, h2, h3, h4, h5, n, h6, h7, h8, h9, h10, h11, h12⟩ := h
  have e : σ'.AI = σ.AI := f.2.2.2.2.1
  have rr : ∀ r x, RRef P σ T hv n m.nets r x → RRef P σ' T hv n m.nets r x := fun r x hr => hr.nm (fun c _ _ => by rw [e]) (fun _ _ z => z)
  refine ⟨h1, h2.trans f.fm h6, h3, h4, h5, n, h6, h7.fl f c hp, by rw [e]; exact h8, h9.ag (by omega) (fun k _ => by rw [e]) (fun k t _ _ => by rw [e]) rr, by rw [e]; exact h10, by rw [e]; exact h11, h12.mo rr⟩
theorem TIn.bad {P : xP} {T : xT} {hv : Nat} {lng : Bool} {ms : List xMod} {pl n0 : Nat} {σ0 : xS} {m : xMod} {i : xIns} {pc : Nat} {o : Option xPart} {v : Int32} {σ : xS} {p : Nat} (h : TIn P T hv lng ms pl n0 σ0 m i pc o v σ p) (hk : lx_kind T p = 4) : EI P T hv ms pl n0 σ0 p σ := by
  obtain ⟨h1, h2, h3, h4, h5, n, h6, h7, h8⟩ := h
  exact ⟨h2, h7.bad hk⟩
theorem TInfail {P : xP} {T : xT} {hv : Nat} {lng : Bool} {ms : List xMod} {pl n0 : Nat} {σ0 : xS} {m : xMod} {i : xIns} {pc : Nat} {o : Option xPart} {v : Int32} {σ : xS} {p : Nat} (h : TIn P T hv lng ms pl n0 σ0 m i pc o v σ p) : EI P T hv ms pl n0 σ0 p (fl P σ p) := by
  obtain ⟨h1, h2, h3, h4, h5, n, h6, h7, h8⟩ := h
  exact EI.fail h7 h2 h6
theorem TIn.sign {P : xP} {T : xT} {hv : Nat} {lng : Bool} {ms : List xMod} {pl n0 : Nat} {σ0 : xS} {m : xMod} {i : xIns} {pc : Nat} {o : Option xPart} {v : Int32} {σ : xS} {p c : Nat} (h : TIn P T hv lng ms pl n0 σ0 m i pc o v σ p) (hk : lx_kind T p ≠ 4) (hc : c < 2 ^ 31) : Rr (dm_X12_needSign P (P.base + 11) (nI c) σ) (sp_sign T c p) (fun _ s p' => TIn P T hv lng ms pl n0 σ0 m i pc o v s p') (EI P T hv ms pl n0 σ0) := by
  obtain ⟨-, h2, -, -, -, n, h6, h7, -⟩ := id h
  obtain ⟨v, s, q1, q2⟩ := rx_sign (σ0 := σ) h7 hk hc (FP.refl P hv n σ)
  refine ⟨v, s, q1, ?_⟩
  cases e : sp_sign T c p with
  | ok p' =>
    obtain ⟨v', s', y1, y2⟩ := rw_needSign h.tr.1 h.tr.2 hk hc
    rw [y1] at q1
    cases q1
    rw [e] at y2
    have := po_sign e
    exact h.fl y2.1 y2.2 (by omega)
  | error g =>
    rw [e] at q2
    exact ⟨h2.trans q2.1.fm h6, q2.2⟩
theorem TIn.next {P : xP} {T : xT} {hv : Nat} {lng : Bool} {ms : List xMod} {pl n0 : Nat} {σ0 : xS} {m : xMod} {i : xIns} {pc : Nat} {o : Option xPart} {v : Int32} {σ : xS} {p : Nat} (h : TIn P T hv lng ms pl n0 σ0 m i pc o v σ p) (hk : lx_kind T p ≠ 4) (hp : p < T.2) : ∃ s, dm_X12_next P (P.base + 11) σ = some (.inl (), s) ∧ TIn P T hv lng ms pl n0 σ0 m i pc o v s (lx_nx T p) := by
  obtain ⟨s, u1, u2, u3⟩ := rw_next h.tr.1 h.tr.2 hk
  have := nx_gt hp
  exact ⟨s, u1, h.fl u2 u3 (by omega)⟩
/-- a part is read -/
theorem TIn.part {P : xP} {T : xT} {hv : Nat} {lng : Bool} {ms : List xMod} {pl n0 : Nat} {σ0 : xS} {m : xMod} {i : xIns} {pc : Nat} {o : Option xPart} {v : Int32} {σ : xS} {p : Nat} (h : TIn P T hv lng ms pl n0 σ0 m i pc o v σ p) (hk : lx_kind T p ≠ 4) : Rr (rRef P lng σ) (sp_part T lng m.nets p) (fun w s q => (lx_kind T q.2 ≠ 4 → TIn P T hv lng ms pl n0 σ0 m i pc (some q.1) w s q.2) ∧ (lx_kind T q.2 = 4 → EI P T hv ms pl n0 σ0 q.2 s)) (EI P T hv ms pl n0 σ0) := by
  obtain ⟨h1, h2, h3, h4, h5, n, h6, h7, h8, h9, h10, h11, h12⟩ := h
  refine (rw_ref h7 hk).mono (fun w s q _ hq => ⟨fun hk2 => ?_, fun hk2 => ?_⟩) (fun g s hq => ?_)
  · obtain ⟨z1, z2, z3⟩ := hq.2.1 hk2
    have ne : ∀ c j, ¬ (24 ≤ c ∧ c ≤ 29) → s.AI (P.base + c) j = σ.AI (P.base + c) j := fun c j hc => hq.1.2.2 _ _ (fun k hk => by omega)
    have rr : ∀ r x, RRef P σ T hv n m.nets r x → RRef P s T hv (n + 1) m.nets r x := fun r x hr => hr.fp hq.1 (Nat.le_refl _) (by omega)
    exact ⟨h1, h2.trans hq.1.fm h6, h3, h4, h5, n + 1, by omega, z2, (ne _ _ (by omega)).trans h8, h9.ag (by omega) (fun k hk => ne _ _ (by omega)) (fun k t hk _ => ne _ _ (by omega)) rr, (ne _ _ (by omega)).trans h10, (ne _ _ (by omega)).trans h11, _, z1, z3⟩
  · exact ⟨h2.trans hq.1.fm h6, hq.2.2 hk2⟩
  · exact ⟨h2.trans hq.1.fm h6, hq.2⟩
/-- the link is read -/
theorem TIn.fin {P : xP} {T : xT} {hv : Nat} {lng : Bool} {ms : List xMod} {pl n0 : Nat} {σ0 : xS} {m : xMod} {f nm : List Nat} {ip : Nat} {bn : Bool} {ls : List xLnk} {pc : Nat} {o : Option xPart} {v : Int32} {σ σ' : xS} {p : Nat} (h : TIn P T hv lng ms pl n0 σ0 m (f, nm, ip, bn, ls) pc o v σ p) (l : xLnk) (hl : LW bn m.nets ip (ls ++ [l]) p) (fk : FKi P (8 * hv + ms.length) m.ins.length σ σ') (hc : ∀ k j, ¬ ((k = 39 ∨ k = 40) ∧ j = 16 * (12 * (8 * hv + ms.length) + m.ins.length) + ls.length) → σ'.AI (P.base + k) j = σ.AI (P.base + k) j) (h39 : σ'.AI (P.base + 39) (16 * (12 * (8 * hv + ms.length) + m.ins.length) + ls.length) = v) (ho : l.2.2 = o) (hbn : bn = true → σ'.AI (P.base + 40) (16 * (12 * (8 * hv + ms.length) + m.ins.length) + ls.length) = nI l.2.1 ∧ NmAt T l.2.1 l.1) (hbf : bn = false → l.2.1 = pc) : PIn P T hv lng ms pl n0 σ0 m (f, nm, ip, bn, ls ++ [l]) σ' p := by
  obtain ⟨h1, h2, h3, h4, h5, n, h6, h7, h8, h9, h10, h11, h12⟩ := h
  have rr : ∀ r x, RRef P σ T hv n m.nets r x → RRef P σ' T hv n m.nets r x := fun r x hr => hr.fk fk
  have h8' : σ'.AI (P.base + 33) (8 * hv + ms.length) = nI (m.ins.length + 1) := (hc _ _ (by omega)).trans h8
  have h12' := h12.mo rr
  have h9' : RIq P σ' T hv n m.nets (12 * (8 * hv + ms.length) + m.ins.length) (f, nm, ip, bn, ls) (ls.length + 1) := h9.ag (by simp only at h5 ⊢; omega) (fun k hk => hc _ _ (by omega)) (fun k t hk ht => hc _ _ (by simp only at ht; omega)) rr
  refine ⟨h1, h2.trans (fk.fm h3) h6, h3, h4, hl, n, h6, h7.lk fk h3 h8', h8', ?_⟩
  obtain ⟨d1, d2, d3, d4, d5, d6⟩ := h9'
  refine ⟨d1, d2, d3, d4, ?_, fun t l' hl' => ?_⟩
  · rw [d5]; simp
  · rcases app_get hl' with ⟨z1, z2⟩ | ⟨z1, z2⟩
    · exact d6 t l' z2
    · subst z1 z2
      refine ⟨?_, hbn, fun e => ?_⟩
      · rw [ho]
        cases o with
        | none =>
          have : v = nN := h12'
          show σ'.AI (P.base + 39) _ = nN
          rw [← this]
          exact h39
        | some x =>
          obtain ⟨r, r1, r2⟩ := h12'
          exact ⟨r, h39.trans r1, r2⟩
      · show σ'.AI (P.base + 41) _ = nI l'.2.1
        rw [hc _ _ (by omega), hbf e]
        exact h11
