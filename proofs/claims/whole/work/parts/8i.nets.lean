/-! ===== the reference: longNets ===== -/
theorem SInum {P : xP} {T : xT} {hv : Nat} {lng : Bool} {ms : List xMod} {pl n0 : Nat} {σ0 : xS} {m : xMod} {σ : xS} {p lo hi : Nat} (h : SI P T hv lng ms pl n0 σ0 m σ p) (hk : lx_kind T p ≠ 4) (hlo : lo < 2 ^ 31) (hhi : hi < 2 ^ 31) : (∃ s, sp_num T lo hi p = .ok (lx_num T p, lx_nx T p) ∧ dm_X12_needNumber P (P.base + 11) (nI lo) (nI hi) σ = some (.inl (), σ) ∧ σ.I 1138 (P.base + 11) = nI (lx_num T p) ∧ lo ≤ lx_num T p ∧ lx_num T p ≤ hi ∧ dm_X12_next P (P.base + 11) σ = some (.inl (), s) ∧ SI P T hv lng ms pl n0 σ0 m s (lx_nx T p)) ∨ (sp_num T lo hi p = .error p ∧ dm_X12_needNumber P (P.base + 11) (nI lo) (nI hi) σ = some (.inl (), fl P σ p) ∧ EI P T hv ms pl n0 σ0 p (fl P σ p)) := by
  obtain ⟨h1, h2, n, h3, h4⟩ := id h
  rcases rx_num (lo := lo) (hi := hi) h4.1 hk hlo hhi with ⟨a1, a2, a3, a4, a5, a6⟩ | ⟨a1, a2⟩
  · obtain ⟨s, u1, u2⟩ := h.next hk a4
    exact Or.inl ⟨s, a1, a2, a3, a5, a6, u1, u2⟩
  · exact Or.inr ⟨a1, a2, SIfail h⟩
theorem Rr.last {α β γ δ : Type} {o : xO α} {e : Except Nat β} {Q : α → xS → β → Prop} {QE QE' : Nat → xS → Prop} {k : α → xS → xO γ} {kx : String → xS → xO γ} {F : β → Except Nat δ} {Q' : γ → xS → δ → Prop}
    (h : Rr o e Q QE) (h1 : ∀ v s b, e = .ok b → Q v s b → Rr (k v s) (F b) Q' QE') (h2 : ∀ v f s, QE f s → ∃ w, k v s = some (.inl w, s) ∧ QE' f s) : Rr (x_bind o k kx) (eb e F) Q' QE' := by
  obtain ⟨v, s, q1, q2⟩ := h
  rw [q1, bd_l]
  cases e with
  | ok b => exact h1 v s b rfl q2
  | error f =>
    obtain ⟨w, w1, w2⟩ := h2 v f s q2
    exact ⟨w, s, w1, w2⟩
theorem rd_p96 {P : xP} {σ : xS} {f : Nat} (h : DE P σ f) : dm_X12_longNets_p96 P (P.base + 11) σ = some (.inl (), σ) := by
  have a0 := ri_0 h.1
  have ns := rd_needSign h
  unfold dm_X12_longNets_p96
  simp (disch := first | assumption | omega) [ck_T, sm_s, bd_l, bd_r, lt_e, eq_self, and_self, if_true, true_and, and_true, lit_nI, nI_add, nI_mul, nI_sub, nI_clamp, nI_eq, nI_ltI, nI_leI, nN_e, nI_nN, nN_nI, bI_0, bI_1, bI_n, bool_0, bool_1, in_T, lg_cmp0, ofN_nI, a0, ns]
theorem rd_p59 {P : xP} {σ : xS} {f : Nat} (h : DE P σ f) (hN : 5000 ≤ P.N) (v w : Int32) : dm_X12_longNets_p59 P (P.base + 11) v w σ = some (.inl (), σ) := by
  have a0 := ri_0 h.1
  have ok := rd_ok h.1 (by have := h.2.2; omega) h.2.1
  have e := rd_p96 h
  obtain ⟨N, hN⟩ : ∃ k, P.N = k + 1 := ⟨P.N - 1, by omega⟩
  have n10 : ¬ nI 1 = nI 0 := by decide
  unfold dm_X12_longNets_p59
  rw [hN]
  unfold dm_X12_longNets_L61
  simp only [lit_nI, n10, if_false, a0, ck_T, eq_self, ok, bd_l, if_true, e]
def unT (m : xMod) : Nat := (m.ports.filter fun x => decide (x.2.1 = 3)).length
theorem filter_tell {l : List xNet} {nm : List Nat} {s w : Nat} (hs : s < 2) : ∀ x ∈ l, x.1 = nm → x.2.1 = 3 → ((l.map (tellF nm s w)).filter fun x => decide (x.2.1 = 3)).length < (l.filter fun x => decide (x.2.1 = 3)).length := by
  have le : ∀ l : List xNet, ((l.map (tellF nm s w)).filter fun x => decide (x.2.1 = 3)).length ≤ (l.filter fun x => decide (x.2.1 = 3)).length := by
    intro l
    induction l with
    | nil => simp
    | cons a t ih =>
      rw [List.map_cons]
      by_cases e : a.1 = nm
      · have : tellF nm s w a = (nm, s, w) := by unfold tellF; rw [if_pos e]
        rw [this]
        have s3 : ¬ s = 3 := by omega
        simp only [List.filter_cons, decide_eq_true_eq, s3, if_false]
        split
        · simp; omega
        · exact ih
      · have : tellF nm s w a = a := by unfold tellF; rw [if_neg e]
        rw [this]
        simp only [List.filter_cons, decide_eq_true_eq]
        split
        · simp; exact ih
        · exact ih
  induction l with
  | nil => intro x hx; cases hx
  | cons a t ih =>
    intro x hx h1 h3
    rw [List.map_cons]
    by_cases e : a.1 = nm
    · have z : tellF nm s w a = (nm, s, w) := by unfold tellF; rw [if_pos e]
      rw [z]
      have s3 : ¬ s = 3 := by omega
      simp only [List.filter_cons, decide_eq_true_eq, s3, if_false]
      rcases List.mem_cons.mp hx with q | q
      · subst q
        rw [if_pos h3]
        have := le t
        simp; omega
      · have := ih x q h1 h3
        split
        · simp; omega
        · exact this
    · have z : tellF nm s w a = a := by unfold tellF; rw [if_neg e]
      rw [z]
      have q : x ∈ t := by
        rcases List.mem_cons.mp hx with q | q
        · subst q; exact absurd h1 e
        · exact q
      have := ih x q h1 h3
      simp only [List.filter_cons, decide_eq_true_eq]
      split
      · simp; exact this
      · exact this
theorem mu_tell {T : xT} {s w p : Nat} {m : xMod} {q : xMod × Nat} (hw : AW m) (hs : s < 2) (h : sp_tell T s w m p = .ok q) : unT q.1 < unT m := by
  unfold sp_tell at h
  obtain ⟨nm, h1, h2⟩ := eb_eq h
  split at h2
  · cases h2
  · rename_i x hx
    split at h2
    · rename_i h3
      cases h2
      obtain ⟨x1, x2⟩ := sp_find_mem hx
      have xp : x ∈ m.ports := by
        rcases List.mem_append.mp x1 with z | z
        · exact z
        · have := hw.2.2.1 x z; omega
      exact filter_tell hs x xp x2 h3
    · cases h2
theorem mu_wire {T : xT} {w p : Nat} {m : xMod} {q : xMod × Nat} (h : sp_wire T w m p = .ok q) : 16 - q.1.nets.length < 16 - m.nets.length := by
  unfold sp_wire at h
  obtain ⟨nm, h1, h2⟩ := eb_eq h
  split at h2
  · rename_i c
    cases h2
    simp only [sp_can, Bool.and_eq_true, decide_eq_true_eq] at c
    have : (xMod.nets (m.nm, m.pl, m.ports, m.wires ++ [(nm, 2, w)], m.asg, m.ins)).length = m.nets.length + 1 := by
      show (m.ports ++ (m.wires ++ [(nm, 2, w)])).length = (m.ports ++ m.wires).length + 1
      simp; omega
    simp only [this]
    omega
  · cases h2
theorem mu_port {T : xT} {p : Nat} {m : xMod} {q : xMod × Nat} (h : sp_port T m p = .ok q) : 16 - q.1.nets.length < 16 - m.nets.length := by
  unfold sp_port at h
  obtain ⟨nm, h1, h2⟩ := eb_eq h
  split at h2
  · rename_i c
    cases h2
    simp only [sp_can, Bool.and_eq_true, decide_eq_true_eq] at c
    have : (xMod.nets (m.nm, m.pl, m.ports ++ [(nm, 3, 0)], m.wires, m.asg, m.ins)).length = m.nets.length + 1 := by
      show (m.ports ++ [(nm, 3, 0)] ++ m.wires).length = (m.ports ++ m.wires).length + 1
      simp; omega
    simp only [this]
    omega
  · cases h2
theorem pl_wire {T : xT} {s w p : Nat} {m : xMod} {q : xMod × Nat} (h : (if s = 2 then sp_wire T w m p else sp_tell T s w m p) = .ok q) : q.1.pl = m.pl := by
  split at h
  · unfold sp_wire at h
    obtain ⟨nm, h1, h2⟩ := eb_eq h
    split at h2
    · cases h2; rfl
    · cases h2
  · unfold sp_tell at h
    obtain ⟨nm, h1, h2⟩ := eb_eq h
    split at h2
    · cases h2
    · split at h2
      · cases h2; rfl
      · cases h2
theorem rw_p59 {P : xP} {T : xT} {hv : Nat} {ms : List xMod} {pl n0 : Nat} {σ0 : xS} {m : xMod} {σ : xS} {p s w : Nat} (h : SI P T hv true ms pl n0 σ0 m σ p) (hs : s ≤ 2) (hw1 : 1 ≤ w) (hw : w ≤ 8) : Rr (dm_X12_longNets_p59 P (P.base + 11) (nI s) (nI w) σ) (eb (sp_loop T (fun m p => if s = 2 then sp_wire T w m p else sp_tell T s w m p) 17 m p) fun q => eb (sp_sign T 59 q.2) fun p3 => .ok (q.1, p3)) (QS P T hv true ms pl n0 σ0) (EI P T hv ms pl n0 σ0) := by
  have hN := h.tr.1.2.2.2.2.2.2
  have n10 : ¬ nI 1 = nI 0 := by decide
  unfold dm_X12_longNets_p59
  have e1 : (1 : Int32) = nI 1 := lit_nI 1
  rw [e1]
  refine rw_comma (P := P) (T := T) (hv := hv) (Lp := fun N v σ => dm_X12_longNets_L61 P (P.base + 11) N (nI s) (nI w) v σ) (body := dm_X12_takeLongNet P (P.base + 11) (nI s) (nI w)) (after := dm_X12_longNets_p96 P (P.base + 11)) (S := SI P T hv true ms pl n0 σ0) (D := EI P T hv ms pl n0 σ0) (fun m => if s = 2 then 16 - m.nets.length else unT m) ?_ ?_ ?_ ?_ ?_ ?_ ?_ ?_ ?_ ?_ ?_ ?_ ?_ 17 m σ p P.N ?_ (by omega) h
  · intro N σ
    show dm_X12_longNets_L61 P (P.base + 11) (N + 1) (nI s) (nI w) (nI 0) σ = _
    unfold dm_X12_longNets_L61
    simp only [lit_nI, if_true]
  · intro N σ g hd
    have a0 := ri_0 hd.1
    have ok := rd_ok hd.1 (by have := hd.2.2; omega) hd.2.1
    show dm_X12_longNets_L61 P (P.base + 11) (N + 1) (nI s) (nI w) (nI 1) σ = _
    unfold dm_X12_longNets_L61
    simp only [lit_nI, n10, if_false, a0, ck_T, eq_self, ok, bd_l, if_true]
  · intro N σ t v hr hok hb hr2
    have a0 := ri_0 hr
    have b0 := ri_0 hr2
    have ok := rw_ok hr hok
    show dm_X12_longNets_L61 P (P.base + 11) (N + 1) (nI s) (nI w) (nI 1) σ = _
    conv => lhs; unfold dm_X12_longNets_L61
    simp only [lit_nI, n10, if_false, a0, ck_T, eq_self, ok, bd_l, hb, b0]
    rfl
  · exact fun b σ p hs => hs.tr
  · exact fun b σ σ' p p' hs f c hp => hs.fl f c hp
  · exact fun b σ p hs hk => hs.bad hk
  · exact fun g σ hd => hd.2.de
  · intro b σ p hs' hk
    exact hs'.run (fun n hr => rw_takeLongNet hr hk hs hw1 hw) (fun q hq => pl_wire hq)
  · intro b p hk
    show (if s = 2 then sp_wire T w b p else sp_tell T s w b p) = _
    unfold sp_wire sp_tell
    rw [dz_name hk, eb_er, eb_er, ite_self]
  · intro b σ p q hs' hq
    have hq : (if s = 2 then sp_wire T w b p else sp_tell T s w b p) = .ok q := hq
    show (if s = 2 then 16 - q.1.nets.length else unT q.1) < if s = 2 then 16 - b.nets.length else unT b
    by_cases e : s = 2
    · rw [if_pos e] at hq
      rw [if_pos e, if_pos e]
      exact mu_wire hq
    · rw [if_neg e] at hq
      rw [if_neg e, if_neg e]
      exact mu_tell hs'.wx.1 (by omega) hq
  · intro b σ p hs' hk
    have a0 := ri_0 hs'.tr.1.1
    unfold dm_X12_longNets_p96
    simp only [a0, ck_T, eq_self, lit_nI]
    exact (hs'.sign (c := 59) hk (by omega)).last (fun v s2 p2 hb hq => Rr.ok rfl hq.qs) (fun v g s2 hq => ⟨(), rfl, hq⟩)
  · exact fun g s hd => rd_p96 hd.2.de
  · intro b p hk
    simp only [dz_sign hk, eb_er]
  · have w := h.wx.2.2.2.1.1
    show (if s = 2 then 16 - m.nets.length else unT m) < 17
    split
    · omega
    · have : unT m ≤ m.ports.length := List.length_filter_le _ _
      have : m.ports.length ≤ m.nets.length := by unfold xMod.nets; simp
      omega
theorem dz_loop {β : Type} {T : xT} {f : β → Nat → Except Nat (β × Nat)} (hz : ∀ b p, lx_kind T p = 4 → f b p = .error p) {k p : Nat} {b : β} (hk : lx_kind T p = 4) : sp_loop T f (k + 1) b p = .error p := by
  simp only [sp_loop]
  rw [hz b p hk, eb_er]
theorem rw_longNets {P : xP} {T : xT} {hv : Nat} {ms : List xMod} {pl n0 : Nat} {σ0 : xS} {m : xMod} {σ : xS} {p s : Nat} (h : SI P T hv true ms pl n0 σ0 m σ p) (hs : s ≤ 2) (hk : lx_kind T p ≠ 4) (hp : p < T.2) : Rr (dm_X12_longNets P (P.base + 11) (nI s) σ) (sp_nets T s m p) (QS P T hv true ms pl n0 σ0) (EI P T hv ms pl n0 σ0) := by
  have hN := h.tr.1.2.2.2.2.2.2
  have n10 : ¬ nI 1 = nI 0 := by decide
  have a0 := ri_0 h.tr.1.1
  have zf : ∀ w b p, lx_kind T p = 4 → (fun m p => if s = 2 then sp_wire T w m p else sp_tell T s w m p) b p = .error p := by
    intro w b p hk
    show (if s = 2 then sp_wire T w b p else sp_tell T s w b p) = _
    unfold sp_wire sp_tell
    rw [dz_name hk, eb_er, eb_er, ite_self]
  obtain ⟨s1, u1, h1⟩ := h.next hk hp
  have a1 := ri_0 h1.tr.1.1
  unfold sp_nets sp_range dm_X12_longNets
  simp only [a0, ck_T, eq_self, lit_nI, u1, bd_l, a1]
  by_cases k1 : lx_kind T (lx_nx T p) = 4
  · have dq := h1.bad k1
    have is := rd_isSign dq.2.de
    rw [if_neg (by rw [dz_is k1]; simp), eb_ok, dz_loop (zf 1) k1, eb_er]
    refine Rr.er (v := ()) (σ' := s1) ?_ dq
    simp only [is, bd_l, if_true, rd_p59 dq.2.de hN]
  · have is := rw_isSign h1.tr.1 h1.tr.2 k1 (s := 91) (by omega)
    rw [is, bd_l]
    by_cases e : sp_is T 91 (lx_nx T p) = true
    · rw [if_pos e, e]
      simp only [bI_tt, n10, if_false, a1, ck_T, eq_self]
      obtain ⟨s2, u2, h2⟩ := h1.next k1 (is_lt e)
      have a2 := ri_0 h2.tr.1.1
      simp only [u2, bd_l, a2, ck_T, eq_self]
      by_cases k2 : lx_kind T (lx_nx T (lx_nx T p)) = 4
      · have dq := h2.bad k2
        rw [dz_num k2, eb_er, eb_er]
        refine Rr.er (v := ()) (σ' := s2) ?_ dq
        simp only [ri_0 dq.2.de.1, ck_T, eq_self, lt_e, bd_l, rd_next dq.2.de, rd_needSign dq.2.de, rd_needNumber dq.2.de, rd_p59 dq.2.de hN]
      · rcases SInum (lo := 0) (hi := 7) h2 k2 (by omega) (by omega) with ⟨s3, n1, n2, n3, n4, n5, n6, h3⟩ | ⟨n1, n2, dq⟩
        · rw [n1, n2]
          have a3 := ri_0 h3.tr.1.1
          have vb : nI (lx_num T (lx_nx T (lx_nx T p))) + nI 1 = nI (lx_num T (lx_nx T (lx_nx T p)) + 1) := by simp (disch := first | assumption | omega) [lit_nI, nI_add, nI_mul, nI_sub, nI_clamp, nI_eq, nI_ltI, nI_leI, nN_e, nI_nN, nN_nI, bI_0, bI_1, bI_n, bool_0, bool_1, in_T, lg_cmp0, ofN_nI]
          simp only [eb_ok, eb_as, bd_l, lt_e, a2, ck_T, eq_self, n3, n6, a3, vb]
          by_cases k3 : lx_kind T (lx_nx T (lx_nx T (lx_nx T p))) = 4
          · have dq := h3.bad k3
            rw [dz_sign k3, eb_er]
            refine Rr.er (v := ()) (σ' := s3) ?_ dq
            simp only [ri_0 dq.2.de.1, ck_T, eq_self, lt_e, bd_l, rd_next dq.2.de, rd_needSign dq.2.de, rd_needNumber dq.2.de, rd_p59 dq.2.de hN]
          · refine Rr.bind T (fun p => p) (h3.sign (c := 58) k3 (by omega)) (fun v s4 p4 _ h4 k4 => ?_) (fun v g s4 hq => ⟨(), ?_, hq⟩) (fun v s4 b2 hq hk2 => hq.bad hk2) (fun b2 hk2 => by rw [dz_num hk2, eb_er])
            · have a4 := ri_0 h4.tr.1.1
              simp only [a4, ck_T, eq_self]
              rcases SInum (lo := 0) (hi := 0) h4 k4 (by omega) (by omega) with ⟨s5, m1, m2, m3, m4, m5, m6, h5⟩ | ⟨m1, m2, dq⟩
              · rw [m1, m2]
                have a5 := ri_0 h5.tr.1.1
                simp only [eb_ok, bd_l, a4, ck_T, eq_self, m6, a5]
                by_cases k5 : lx_kind T (lx_nx T p4) = 4
                · have dq := h5.bad k5
                  rw [dz_sign k5, eb_er]
                  refine Rr.er (v := ()) (σ' := s5) ?_ dq
                  simp only [ri_0 dq.2.de.1, ck_T, eq_self, lt_e, bd_l, rd_next dq.2.de, rd_needSign dq.2.de, rd_needNumber dq.2.de, rd_p59 dq.2.de hN]
                · refine Rr.bind T (fun p => p) (h5.sign (c := 93) k5 (by omega)) (fun v s6 p6 _ h6 k6 => ?_) (fun v g s6 hq => ⟨(), ?_, hq⟩) (fun v s6 b2 hq hk2 => hq.bad hk2) (fun b2 hk2 => ?_)
                  · exact rw_p59 h6 hs (by omega) (by omega)
                  · simp only [ri_0 hq.2.de.1, ck_T, eq_self, lt_e, bd_l, rd_next hq.2.de, rd_needSign hq.2.de, rd_needNumber hq.2.de, rd_p59 hq.2.de hN]
                  · rw [dz_loop (zf _) hk2, eb_er]
              · rw [m1, m2, eb_er]
                refine Rr.er (v := ()) (σ' := fl P s4 p4) ?_ dq
                simp only [ri_0 dq.2.de.1, ck_T, eq_self, lt_e, bd_l, rd_next dq.2.de, rd_needSign dq.2.de, rd_needNumber dq.2.de, rd_p59 dq.2.de hN]
            · simp only [ri_0 hq.2.de.1, ck_T, eq_self, lt_e, bd_l, rd_next hq.2.de, rd_needSign hq.2.de, rd_needNumber hq.2.de, rd_p59 hq.2.de hN]
        · rw [n1, n2, eb_er, eb_er]
          refine Rr.er (v := ()) (σ' := fl P s2 (lx_nx T (lx_nx T p))) ?_ dq
          simp only [ri_0 dq.2.de.1, ck_T, eq_self, lt_e, bd_l, rd_next dq.2.de, rd_needSign dq.2.de, rd_needNumber dq.2.de, rd_p59 dq.2.de hN]
    · rw [if_neg e]
      have e' : sp_is T 91 (lx_nx T p) = false := by simpa using e
      simp only [e', bI_ff, if_true, eb_ok]
      exact rw_p59 h1 hs (by omega) (by omega)
