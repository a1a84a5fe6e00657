/-! ===== the reference: rows with , between ===== -/
theorem rw_comma {β δ : Type} {P : xP} {T : xT} {hv : Nat} {Lp : Nat → Int32 → xS → xO Unit} {body after : xS → xO Unit} {f : β → Nat → Except Nat (β × Nat)} {F : β × Nat → Except Nat δ} {S : β → xS → Nat → Prop} {D : Nat → xS → Prop} {Q : Unit → xS → δ → Prop} (μ : β → Nat)
    (hz0 : ∀ N σ, Lp (N + 1) (nI 0) σ = after σ)
    (hdead : ∀ N σ g, DE P σ g → Lp (N + 1) (nI 1) σ = after σ)
    (hstep : ∀ N σ s v, RI P σ → σ.I 1139 (P.base + 11) = nN → body σ = some (.inl v, s) → RI P s → Lp (N + 1) (nI 1) σ = x_bind (dm_X12_isSign P (P.base + 11) (nI 44) s) (fun b s2 => if b = nI 0 then Lp N b s2 else x_chk (s2.K (P.base + 11) = 12) <| x_bind (dm_X12_next P (P.base + 11) s2) (fun _ s3 => Lp N b s3) (fun E s3 => some (.inr E, s3))) (fun E s2 => some (.inr E, s2)))
    (hS : ∀ b σ p, S b σ p → TX P T hv σ ∧ RC P T σ p)
    (hS2 : ∀ b σ σ' p p', S b σ p → FL P σ σ' → RC P T σ' p' → p ≤ p' → S b σ' p')
    (hSD : ∀ b σ p, S b σ p → lx_kind T p = 4 → D p σ)
    (hD : ∀ g σ, D g σ → DE P σ g)
    (hb : ∀ b σ p, S b σ p → lx_kind T p ≠ 4 → Rr (body σ) (f b p) (fun _ s q => (lx_kind T q.2 ≠ 4 → S q.1 s q.2) ∧ (lx_kind T q.2 = 4 → D q.2 s)) D)
    (hz : ∀ b p, lx_kind T p = 4 → f b p = .error p)
    (hμ : ∀ b σ p q, S b σ p → f b p = .ok q → μ q.1 < μ b)
    (ha : ∀ b σ p, S b σ p → lx_kind T p ≠ 4 → Rr (after σ) (F (b, p)) Q D)
    (had : ∀ g s, D g s → after s = some (.inl (), s))
    (hF : ∀ b p, lx_kind T p = 4 → F (b, p) = .error p) :
    ∀ (r : Nat) (b : β) (σ : xS) (p N : Nat), μ b < r → r < N → S b σ p → Rr (Lp N (nI 1) σ) (eb (sp_loop T f r b p) F) Q D := by
  intro r
  induction r with
  | zero => intro b σ p N h1; omega
  | succ r ih =>
    intro b σ p N h1 h2 hs
    obtain ⟨N, rfl⟩ : ∃ k, N = k + 1 := ⟨N - 1, by omega⟩
    obtain ⟨N1, hN1⟩ : ∃ k, N = k + 1 := ⟨N - 1, by omega⟩
    simp only [sp_loop]
    by_cases d : lx_kind T p = 4
    · have dd := hSD b σ p hs d
      rw [hz b p d, eb_er, eb_er]
      refine Rr.er (v := ()) (σ' := σ) ?_ dd
      rw [hdead N σ p (hD _ _ dd)]
      exact had _ _ dd
    · obtain ⟨v, s, e1, e2⟩ := hb b σ p hs d
      obtain ⟨tx, rc⟩ := hS b σ p hs
      have dead : ∀ g, D g s → Lp (N + 1) (nI 1) σ = some (.inl (), s) := by
        intro g dg
        have de := hD _ _ dg
        rw [hstep N σ s v tx.1 (rc.ok d) e1 de.1, rd_isSign de, bd_l, if_pos rfl, hN1, hz0]
        exact had _ _ dg
      cases ef : f b p with
      | error g =>
        rw [ef] at e2
        rw [eb_er, eb_er]
        exact Rr.er (dead g e2) e2
      | ok q =>
        rw [ef] at e2
        rw [eb_ok]
        by_cases d2 : lx_kind T q.2 = 4
        · have dd := e2.2 d2
          rw [if_neg (by rw [dz_is d2]; simp), eb_ok, hF q.1 q.2 d2]
          exact Rr.er (dead _ dd) dd
        · have s2 := e2.1 d2
          obtain ⟨tx2, rc2⟩ := hS q.1 s q.2 s2
          have is := rw_isSign tx2 rc2 d2 (s := 44) (by omega)
          rw [hstep N σ s v tx.1 (rc.ok d) e1 tx2.1, is, bd_l]
          by_cases e : sp_is T 44 q.2 = true
          · rw [if_pos e, e]
            have n10 : ¬ nI 1 = nI 0 := by decide
            obtain ⟨s', u1, u2, u3⟩ := rw_next tx2 rc2 d2
            have gt := is_p e
            have s3 := hS2 q.1 s s' q.2 (lx_nx T q.2) s2 u2 u3 (by omega)
            simp only [bI_tt, n10, if_false, ri_0 tx2.1, ck_T, eq_self, u1, bd_l]
            exact ih q.1 s' (lx_nx T q.2) N (by have := hμ b σ p q hs ef; omega) (by omega) s3
          · rw [if_neg e, eb_ok]
            have e' : sp_is T 44 q.2 = false := by simpa using e
            rw [e', bI_ff, if_pos rfl, hN1, hz0]
            exact ha q.1 s q.2 s2 d2
/-- an item is being read: the module m, since σ0 -/
def SI (P : xP) (T : xT) (hv : Nat) (lng : Bool) (ms : List xMod) (pl n0 : Nat) (σ0 : xS) (m : xMod) (σ : xS) (p : Nat) : Prop := m.pl = pl ∧ FM P hv (8 * hv + ms.length) pl n0 σ0 σ ∧ ∃ n, n0 ≤ n ∧ RXf P T hv lng ms m n σ p
theorem SI.mk {P : xP} {T : xT} {hv : Nat} {lng : Bool} {ms : List xMod} {m : xMod} {n : Nat} {σ : xS} {p : Nat} (h : RXf P T hv lng ms m n σ p) : SI P T hv lng ms m.pl n σ m σ p := ⟨rfl, FM.refl _ _ _ _ _ _, n, Nat.le_refl _, h⟩
theorem SI.tr {P : xP} {T : xT} {hv : Nat} {lng : Bool} {ms : List xMod} {pl n0 : Nat} {σ0 : xS} {m : xMod} {σ : xS} {p : Nat} (h : SI P T hv lng ms pl n0 σ0 m σ p) : TX P T hv σ ∧ RC P T σ p := by
  obtain ⟨h1, h2, n, h3, h4⟩ := h
  exact ⟨h4.1.1, h4.1.2.1⟩
theorem SI.fl {P : xP} {T : xT} {hv : Nat} {lng : Bool} {ms : List xMod} {pl n0 : Nat} {σ0 : xS} {m : xMod} {σ σ' : xS} {p p' : Nat} (h : SI P T hv lng ms pl n0 σ0 m σ p) (f : FL P σ σ') (c : RC P T σ' p') (hp : p ≤ p') : SI P T hv lng ms pl n0 σ0 m σ' p' := by
  obtain ⟨h1, h2, n, h3, h4⟩ := h
  exact ⟨h1, h2.trans f.fm h3, n, h3, h4.fl f c hp⟩
theorem SI.bad {P : xP} {T : xT} {hv : Nat} {lng : Bool} {ms : List xMod} {pl n0 : Nat} {σ0 : xS} {m : xMod} {σ : xS} {p : Nat} (h : SI P T hv lng ms pl n0 σ0 m σ p) (hk : lx_kind T p = 4) : EI P T hv ms pl n0 σ0 p σ := by
  obtain ⟨h1, h2, n, h3, h4⟩ := h
  exact ⟨h2, h4.1.bad hk⟩
theorem SIfail {P : xP} {T : xT} {hv : Nat} {lng : Bool} {ms : List xMod} {pl n0 : Nat} {σ0 : xS} {m : xMod} {σ : xS} {p : Nat} (h : SI P T hv lng ms pl n0 σ0 m σ p) : EI P T hv ms pl n0 σ0 p (fl P σ p) := by
  obtain ⟨h1, h2, n, h3, h4⟩ := h
  exact EI.fail h4.1 h2 h3
theorem SI.wx {P : xP} {T : xT} {hv : Nat} {lng : Bool} {ms : List xMod} {pl n0 : Nat} {σ0 : xS} {m : xMod} {σ : xS} {p : Nat} (h : SI P T hv lng ms pl n0 σ0 m σ p) : WX lng m p := by
  obtain ⟨h1, h2, n, h3, h4⟩ := h
  exact h4.1.2.2.2.2.2.2.1
theorem SI.next {P : xP} {T : xT} {hv : Nat} {lng : Bool} {ms : List xMod} {pl n0 : Nat} {σ0 : xS} {m : xMod} {σ : xS} {p : Nat} (h : SI P T hv lng ms pl n0 σ0 m σ p) (hk : lx_kind T p ≠ 4) (hp : p < T.2) : ∃ s, dm_X12_next P (P.base + 11) σ = some (.inl (), s) ∧ SI P T hv lng ms pl n0 σ0 m s (lx_nx T p) := by
  obtain ⟨s, u1, u2, u3⟩ := rw_next h.tr.1 h.tr.2 hk
  have := nx_gt hp
  exact ⟨s, u1, h.fl u2 u3 (by omega)⟩
theorem SI.sign {P : xP} {T : xT} {hv : Nat} {lng : Bool} {ms : List xMod} {pl n0 : Nat} {σ0 : xS} {m : xMod} {σ : xS} {p c : Nat} (h : SI P T hv lng ms pl n0 σ0 m σ p) (hk : lx_kind T p ≠ 4) (hc : c < 2 ^ 31) : Rr (dm_X12_needSign P (P.base + 11) (nI c) σ) (sp_sign T c p) (fun _ s p' => SI P T hv lng ms pl n0 σ0 m s p') (EI P T hv ms pl n0 σ0) := by
  obtain ⟨h1, h2, n, h3, h4⟩ := h
  refine (rx_sign (σ0 := σ) h4.1 hk hc (FP.refl P hv n σ)).mono (fun v s p' _ hq => ?_) (fun g s hq => ?_)
  · exact ⟨h1, h2.trans hq.1.fm h3, n, h3, h4.fp hq.1 hq.2⟩
  · exact ⟨h2.trans hq.1.fm h3, hq.2⟩
/-- what an item leaves, since σ0 -/
def QS (P : xP) (T : xT) (hv : Nat) (lng : Bool) (ms : List xMod) (pl n0 : Nat) (σ0 : xS) (_ : Unit) (s : xS) (q : xMod × Nat) : Prop := (lx_kind T q.2 ≠ 4 → SI P T hv lng ms pl n0 σ0 q.1 s q.2) ∧ (lx_kind T q.2 = 4 → EI P T hv ms pl n0 σ0 q.2 s)
theorem SI.qs {P : xP} {T : xT} {hv : Nat} {lng : Bool} {ms : List xMod} {pl n0 : Nat} {σ0 : xS} {m : xMod} {σ : xS} {p : Nat} (h : SI P T hv lng ms pl n0 σ0 m σ p) : QS P T hv lng ms pl n0 σ0 () σ (m, p) := ⟨fun _ => h, fun hk => h.bad hk⟩
theorem SI.run {P : xP} {T : xT} {hv : Nat} {lng : Bool} {ms : List xMod} {pl n0 : Nat} {σ0 : xS} {m : xMod} {σ : xS} {p : Nat} {o : xO Unit} {e : Except Nat (xMod × Nat)} (h : SI P T hv lng ms pl n0 σ0 m σ p) (hr : ∀ n, RXf P T hv lng ms m n σ p → Rr o e (QI P T hv lng ms m.pl n σ) (EI P T hv ms m.pl n σ)) (hpl : ∀ q, e = .ok q → q.1.pl = m.pl) : Rr o e (QS P T hv lng ms pl n0 σ0) (EI P T hv ms pl n0 σ0) := by
  obtain ⟨h1, h2, n, h3, h4⟩ := h
  subst h1
  refine (hr n h4).mono (fun v s q he hq => ⟨fun hk => ?_, fun hk => ?_⟩) (fun g s hq => ?_)
  · obtain ⟨n', q1, q2⟩ := hq.2.1 hk
    exact ⟨hpl q he, h2.trans hq.1 h3, n', by omega, q2⟩
  · exact ⟨h2.trans hq.1 h3, hq.2.2 hk⟩
  · exact ⟨h2.trans hq.1 h3, hq.2⟩
/-- back: an item since its own beginning -/
theorem QS.qi {P : xP} {T : xT} {hv : Nat} {lng : Bool} {ms : List xMod} {pl n0 : Nat} {σ0 : xS} {o : xO Unit} {e : Except Nat (xMod × Nat)} (h : Rr o e (QS P T hv lng ms pl n0 σ0) (EI P T hv ms pl n0 σ0)) : Rr o e (QI P T hv lng ms pl n0 σ0) (EI P T hv ms pl n0 σ0) := by
  refine h.mono (fun v s q he hq => ?_) (fun g s hq => hq)
  by_cases hk : lx_kind T q.2 = 4
  · have := hq.2 hk
    exact ⟨this.1, fun z => absurd hk z, fun _ => this.2⟩
  · obtain ⟨q1, q2, q3⟩ := hq.1 hk
    exact ⟨q2, fun _ => q3, fun z => absurd z hk⟩
