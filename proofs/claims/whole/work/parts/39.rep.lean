/-! ===== modules of the class: how the heap holds them ===== -/
def sortI (s : Nat) : Int32 := if s = 3 then nN else nI s
def sp_bin : List Nat → Nat
  | l => l.foldl (fun a c => a * 2 + (c - 48)) 0
/-- between lo and hi nothing has changed -/
def Sms (σ σ' : xS) (lo hi : Nat) : Prop := ∀ b, lo ≤ b → b < hi → Sm σ σ' b
def NetR (σ : xS) (lo hi a : Nat) (x : xNet) : Prop := lo ≤ a ∧ a < hi ∧ σ.K a = 5 ∧ σ.J 400 a = pk x.1 ∧ σ.I 401 a = sortI x.2.1 ∧ σ.I 402 a = nI x.2.2
def PartR (σ : xS) (g : List Nat → Nat) (lo hi a : Nat) (x : xPart) : Prop := lo ≤ a ∧ a < hi ∧ σ.K a = 7 ∧ σ.I 600 a = nI x.1 ∧ σ.I 601 a = nI x.2.1 ∧ σ.R 602 a = (if x.1 = 3 then none else some (g x.2.2.1)) ∧ σ.I 603 a = nI x.2.2.2.1 ∧ σ.I 604 a = nI x.2.2.2.2.1 ∧ σ.I 605 a = nI (sp_bin x.2.2.2.2.2)
def OPartR (σ : xS) (g : List Nat → Nat) (lo hi : Nat) (a : Option Nat) (x : Option xPart) : Prop := match a, x with
  | none, none => True
  | some a, some x => PartR σ g lo hi a x
  | _, _ => False
def LinkR (σ : xS) (g : List Nat → Nat) (lo hi a : Nat) (x : xLnk) : Prop := lo ≤ a ∧ a < hi ∧ σ.K a = 3 ∧ σ.J 200 a = pk x.1 ∧ σ.I 201 a = nI x.2.1 ∧ OPartR σ g lo hi (σ.R 202 a) x.2.2
def InsR (σ : xS) (g : List Nat → Nat) (kd : List Nat → Option Nat) (lo hi a : Nat) (x : xIns) : Prop := lo ≤ a ∧ a + 1 < hi ∧ σ.K a = 2 ∧ σ.J 100 a = pk x.1 ∧ σ.J 101 a = pk x.2.1 ∧ σ.I 102 a = nI x.2.2.1 ∧ σ.I 103 a = bI x.2.2.2.1 ∧ σ.R 104 a = some (a + 1) ∧ σ.K (a + 1) = 25 ∧ σ.L (a + 1) = 16 ∧ σ.I 105 a = nI x.2.2.2.2.length ∧ σ.R 106 a = kd x.1 ∧ x.2.2.2.2.length ≤ 16 ∧ ∀ k l, x.2.2.2.2[k]? = some l → ∃ b, σ.AR (a + 1) k = some b ∧ LinkR σ g (a + 2) hi b l
def MRc (σ : xS) (g : List Nat → Nat) (kd : List Nat → Option Nat) (ix M hi : Nat) (m : xMod) (ni : Nat) : Prop :=
  (M + 5 ≤ hi ∧ σ.K M = 6 ∧ σ.I 500 M = nI ix ∧ σ.J 501 M = pk m.nm ∧ σ.I 502 M = nI m.pl) ∧
  (σ.R 503 M = some (M + 1) ∧ σ.K (M + 1) = 26 ∧ σ.L (M + 1) = 16 ∧ σ.I 504 M = nI m.nets.length ∧ σ.I 505 M = nI m.ports.length ∧ m.nets.length ≤ 16) ∧
  (σ.R 507 M = some (M + 2) ∧ σ.K (M + 2) = 28 ∧ σ.L (M + 2) = 8 ∧ σ.R 508 M = some (M + 3) ∧ σ.K (M + 3) = 28 ∧ σ.L (M + 3) = 8 ∧ σ.I 509 M = nI m.asg.length ∧ m.asg.length ≤ 8) ∧
  (σ.R 510 M = some (M + 4) ∧ σ.K (M + 4) = 24 ∧ σ.L (M + 4) = 12 ∧ σ.I 511 M = nI ni ∧ m.ins.length ≤ 12) ∧
  (∀ k x, m.nets[k]? = some x → σ.AR (M + 1) k = some (g x.1) ∧ NetR σ (M + 5) hi (g x.1) x) ∧
  (∀ k x, m.asg[k]? = some x → ∃ a b, σ.AR (M + 2) k = some a ∧ σ.AR (M + 3) k = some b ∧ PartR σ g (M + 5) hi a x.1 ∧ PartR σ g (M + 5) hi b x.2) ∧
  (∀ k x, m.ins[k]? = some x → ∃ a, σ.AR (M + 4) k = some a ∧ InsR σ g kd (M + 5) hi a x)
def MR (σ : xS) (g : List Nat → Nat) (kd : List Nat → Option Nat) (ix M hi : Nat) (m : xMod) : Prop := MRc σ g kd ix M hi m m.ins.length
theorem NetR.sm {σ σ' : xS} {lo hi hi' a : Nat} {x : xNet} (h : NetR σ lo hi a x) (s : Sms σ σ' lo hi) (hh : hi ≤ hi') : NetR σ' lo hi' a x := by
  obtain ⟨h1, h2, h3, h4, h5, h6⟩ := h
  obtain ⟨s1, s2, s3, s4, s5, s6, s7, s8⟩ := s a h1 h2
  exact ⟨h1, by omega, s1.trans h3, (s4 _).trans h4, (s3 _).trans h5, (s3 _).trans h6⟩
theorem PartR.sm {σ σ' : xS} {g : List Nat → Nat} {lo hi hi' a : Nat} {x : xPart} (h : PartR σ g lo hi a x) (s : Sms σ σ' lo hi) (hh : hi ≤ hi') : PartR σ' g lo hi' a x := by
  obtain ⟨h1, h2, h3, h4, h5, h6, h7, h8, h9⟩ := h
  obtain ⟨s1, s2, s3, s4, s5, s6, s7, s8⟩ := s a h1 h2
  exact ⟨h1, by omega, s1.trans h3, (s3 _).trans h4, (s3 _).trans h5, (s5 _).trans h6, (s3 _).trans h7, (s3 _).trans h8, (s3 _).trans h9⟩
theorem PartR.g {σ : xS} {g g' : List Nat → Nat} {lo hi a : Nat} {x : xPart} (h : PartR σ g lo hi a x) (hg : x.1 = 3 ∨ g' x.2.2.1 = g x.2.2.1) : PartR σ g' lo hi a x := by
  obtain ⟨h1, h2, h3, h4, h5, h6, h7, h8, h9⟩ := h
  refine ⟨h1, h2, h3, h4, h5, ?_, h7, h8, h9⟩
  rcases hg with q | q
  · rw [if_pos q] at h6 ⊢; exact h6
  · rw [q]; exact h6
theorem OPartR.sm {σ σ' : xS} {g : List Nat → Nat} {lo hi hi' : Nat} {a : Option Nat} {x : Option xPart} (h : OPartR σ g lo hi a x) (s : Sms σ σ' lo hi) (hh : hi ≤ hi') : OPartR σ' g lo hi' a x := by
  cases a <;> cases x
  · trivial
  · exact h.elim
  · exact h.elim
  · exact PartR.sm h s hh
theorem LinkR.sm {σ σ' : xS} {g : List Nat → Nat} {lo hi hi' a : Nat} {x : xLnk} (h : LinkR σ g lo hi a x) (s : Sms σ σ' lo hi) (hh : hi ≤ hi') : LinkR σ' g lo hi' a x := by
  obtain ⟨h1, h2, h3, h4, h5, h6⟩ := h
  obtain ⟨s1, s2, s3, s4, s5, s6, s7, s8⟩ := s a h1 h2
  exact ⟨h1, by omega, s1.trans h3, (s4 _).trans h4, (s3 _).trans h5, by rw [s5]; exact h6.sm s hh⟩
theorem InsR.sm {σ σ' : xS} {g : List Nat → Nat} {kd : List Nat → Option Nat} {lo hi hi' a : Nat} {x : xIns} (h : InsR σ g kd lo hi a x) (s : Sms σ σ' lo hi) (hh : hi ≤ hi') : InsR σ' g kd lo hi' a x := by
  obtain ⟨h1, h2, h3, h4, h5, h6, h7, h8, h9, h10, h11, h12, h13, h14⟩ := h
  obtain ⟨s1, s2, s3, s4, s5, s6, s7, s8⟩ := s a h1 (by omega)
  obtain ⟨t1, t2, t3, t4, t5, t6, t7, t8⟩ := s (a + 1) (by omega) h2
  refine ⟨h1, by omega, s1.trans h3, (s4 _).trans h4, (s4 _).trans h5, (s3 _).trans h6, (s3 _).trans h7, (s5 _).trans h8, t1.trans h9, t2.trans h10, (s3 _).trans h11, (s5 _).trans h12, h13, fun k l hl => ?_⟩
  obtain ⟨b, q1, q2⟩ := h14 k l hl
  exact ⟨b, (t8 _).trans q1, q2.sm (fun b h1 h2 => s b (by omega) h2) hh⟩
theorem MRc.sm {σ σ' : xS} {g : List Nat → Nat} {kd : List Nat → Option Nat} {ix M hi hi' ni : Nat} {m : xMod} (h : MRc σ g kd ix M hi m ni) (s : Sms σ σ' M hi) (hh : hi ≤ hi') : MRc σ' g kd ix M hi' m ni := by
  obtain ⟨⟨a1, a2, a3, a4, a5⟩, ⟨b1, b2, b3, b4, b5, b6⟩, ⟨c1, c2, c3, c4, c5, c6, c7, c8⟩, ⟨d1, d2, d3, d4, d5⟩, e1, e2, e3⟩ := h
  obtain ⟨s1, s2, s3, s4, s5, s6, s7, s8⟩ := s M (by omega) (by omega)
  obtain ⟨t1, t2, t3, t4, t5, t6, t7, t8⟩ := s (M + 1) (by omega) (by omega)
  obtain ⟨u1, u2, u3, u4, u5, u6, u7, u8⟩ := s (M + 2) (by omega) (by omega)
  obtain ⟨v1, v2, v3, v4, v5, v6, v7, v8⟩ := s (M + 3) (by omega) (by omega)
  obtain ⟨w1, w2, w3, w4, w5, w6, w7, w8⟩ := s (M + 4) (by omega) (by omega)
  have s' : Sms σ σ' (M + 5) hi := fun b h1 h2 => s b (by omega) h2
  refine ⟨⟨by omega, s1.trans a2, (s3 _).trans a3, (s4 _).trans a4, (s3 _).trans a5⟩, ⟨(s5 _).trans b1, t1.trans b2, t2.trans b3, (s3 _).trans b4, (s3 _).trans b5, b6⟩,
    ⟨(s5 _).trans c1, u1.trans c2, u2.trans c3, (s5 _).trans c4, v1.trans c5, v2.trans c6, (s3 _).trans c7, c8⟩, ⟨(s5 _).trans d1, w1.trans d2, w2.trans d3, (s3 _).trans d4, d5⟩, fun k x hx => ?_, fun k x hx => ?_, fun k x hx => ?_⟩
  · obtain ⟨q1, q2⟩ := e1 k x hx
    exact ⟨(t8 _).trans q1, q2.sm s' hh⟩
  · obtain ⟨a, b, q1, q2, q3, q4⟩ := e2 k x hx
    exact ⟨a, b, (u8 _).trans q1, (v8 _).trans q2, q3.sm s' hh, q4.sm s' hh⟩
  · obtain ⟨a, q1, q2⟩ := e3 k x hx
    exact ⟨a, (w8 _).trans q1, q2.sm s' hh⟩
theorem MR.sm {σ σ' : xS} {g : List Nat → Nat} {kd : List Nat → Option Nat} {ix M hi hi' : Nat} {m : xMod} (h : MR σ g kd ix M hi m) (s : Sms σ σ' M hi) (hh : hi ≤ hi') : MR σ' g kd ix M hi' m := MRc.sm h s hh
/-- a frame keeps what lies below its bound -/
theorem Fr.sms {P : xP} {h c : Nat} {σ σ' : xS} (f : Fr P h c σ σ') {lo hi : Nat} (h1 : P.base + 44 ≤ lo) (h2 : hi ≤ h) : Sms σ σ' lo hi := fun b hb hb2 => f.1 b (by omega) (by omega)
/-! ===== the names of nets ===== -/
theorem sortI_3 : sortI 3 = nN := rfl
theorem sortI_eq {s : Nat} (h : s ≤ 3) : (sortI s = nN) = (s = 3) := by
  unfold sortI
  by_cases e : s = 3
  · simp [e]
  · simp (disch := first | assumption | omega) [e, nI_nN]
theorem cw_netAmongL {P : xP} {σ : xS} {g : List Nat → Nat} {kd : List Nat → Option Nat} {ix M hi : Nat} {m : xMod} (h : MR σ g kd ix M hi m) (hn : ∀ x ∈ m.nets, nm_ok x.1) {nm : List Nat} (ho : nm_ok nm) {many : Nat} (hm : many ≤ m.nets.length) : ∀ (r j n : Nat), j + r = many → r < n → dm_X5_netAmong_L3 P M n (nI many) (pk nm) (nI j) σ = some (.inl ((((m.nets.take many).drop j).find? fun x => decide (x.1 = nm)).map fun x => g x.1), σ) := by
  obtain ⟨⟨a1, a2, a3, a4, a5⟩, ⟨b1, b2, b3, b4, b5, b6⟩, -, -, e1, -, -⟩ := h
  intro r
  induction r with
  | zero =>
    intro j n hj hn
    obtain ⟨n, rfl⟩ : ∃ m, n = m + 1 := ⟨n - 1, by omega⟩
    have e : (m.nets.take many).drop j = [] := List.drop_eq_nil_of_le (by rw [List.length_take]; omega)
    rw [e]
    unfold dm_X5_netAmong_L3 dm_X5_netAmong_p47
    simp (disch := first | assumption | omega) [x_chk, x_some, x_bind, x_let, lit_nI, nI_add, nI_mul, nI_sub, nI_clamp, nI_eq, nI_ltI, nI_leI, nN_e, nI_nN, nN_nI, bI_0, bI_1, bI_n, bool_0, bool_1, in_T, lg_cmp0, ofN_nI, dle_T]
  | succ r ih =>
    intro j n hj hn'
    obtain ⟨n, rfl⟩ : ∃ m, n = m + 1 := ⟨n - 1, by omega⟩
    obtain ⟨x, hx⟩ : ∃ x, m.nets[j]? = some x := ⟨_, List.getElem?_eq_getElem (by omega)⟩
    have hx2 : (m.nets.take many)[j]? = some x := by rw [List.getElem?_take_of_lt (by omega)]; exact hx
    have ed : (m.nets.take many).drop j = x :: (m.nets.take many).drop (j + 1) := by
      obtain ⟨hlt, hx3⟩ := List.getElem?_eq_some_iff.mp hx2
      rw [List.drop_eq_getElem_cons hlt, hx3]
    obtain ⟨q1, q2, q3, q4, q5, q6, q7⟩ := e1 j x hx
    have no := hn x (List.mem_of_getElem? hx)
    rw [ed]
    unfold dm_X5_netAmong_L3
    have i1 : ¬ many ≤ j := by omega
    have i2 : ¬ m.nets.length ≤ j := by omega
    by_cases e : x.1 = nm
    · subst e
      simp (disch := first | assumption | omega) [x_chk, x_some, x_bind, x_let, lit_nI, nI_add, nI_mul, nI_sub, nI_clamp, nI_eq, nI_ltI, nI_leI, nN_e, nI_nN, nN_nI, bI_0, bI_1, bI_n, bool_0, bool_1, in_T, lg_cmp0, ofN_nI, i1, i2, a2, b1, b2, b3, b4, q1, q4, q5, dlt_T, List.find?_cons]
    · have ihh := ih (j + 1) n (by omega) (by omega)
      simp (disch := first | assumption | omega) [x_chk, x_some, x_bind, x_let, lit_nI, nI_add, nI_mul, nI_sub, nI_clamp, nI_eq, nI_ltI, nI_leI, nN_e, nI_nN, nN_nI, bI_0, bI_1, bI_n, bool_0, bool_1, in_T, lg_cmp0, ofN_nI, i1, i2, a2, b1, b2, b3, b4, q1, q4, q5, pk_iff', e, dlt_T, ihh, List.find?_cons]
theorem cw_netAmong {P : xP} {σ : xS} {g : List Nat → Nat} {kd : List Nat → Option Nat} {ix M hi : Nat} {m : xMod} (C : CI P σ) (h : MR σ g kd ix M hi m) (hn : ∀ x ∈ m.nets, nm_ok x.1) {nm : List Nat} (ho : nm_ok nm) {many : Nat} (hm : many ≤ m.nets.length) : dm_X5_netAmong P M (nI many) (pk nm) σ = some (.inl ((sp_find (m.nets.take many) nm).map fun x => g x.1), σ) := by
  have q := cw_netAmongL (P := P) h hn ho hm many 0 P.N (by omega) (by have := C.N; have := h.2.1.2.2.2.2.2; omega)
  exact q
theorem cw_canTakeNet {P : xP} {σ : xS} {g : List Nat → Nat} {kd : List Nat → Option Nat} {ix M hi : Nat} {m : xMod} (C : CI P σ) (h : MR σ g kd ix M hi m) (hn : ∀ x ∈ m.nets, nm_ok x.1) {nm : List Nat} (ho : nm_ok nm) : dm_X5_canTakeNet P M (pk nm) σ = some (.inl (bI (sp_can m nm)), σ) := by
  have q := cw_netAmong C h hn ho (Nat.le_refl _)
  rw [List.take_length] at q
  obtain ⟨⟨a1, a2, a3, a4, a5⟩, ⟨b1, b2, b3, b4, b5, b6⟩, -⟩ := h
  unfold dm_X5_canTakeNet dm_X5_canTakeNet_p25 dm_X5_canTakeNet_p26 sp_can
  by_cases e : m.nets.length < 16
  · have e2 : ¬ 16 ≤ m.nets.length := by omega
    cases e3 : sp_find m.nets nm with
    | none => simp (disch := first | assumption | omega) [x_chk, x_some, x_bind, x_let, lit_nI, nI_add, nI_mul, nI_sub, nI_clamp, nI_eq, nI_ltI, nI_leI, nN_e, nI_nN, nN_nI, bI_0, bI_1, bI_n, bool_0, bool_1, in_T, lg_cmp0, ofN_nI, a2, b4, e, e2, q, e3, bI_tt]
    | some x => simp (disch := first | assumption | omega) [x_chk, x_some, x_bind, x_let, lit_nI, nI_add, nI_mul, nI_sub, nI_clamp, nI_eq, nI_ltI, nI_leI, nN_e, nI_nN, nN_nI, bI_0, bI_1, bI_n, bool_0, bool_1, in_T, lg_cmp0, ofN_nI, a2, b4, e, e2, q, e3, bI_ff]
  · have e2 : 16 ≤ m.nets.length := by omega
    simp (disch := first | assumption | omega) [x_chk, x_some, x_bind, x_let, lit_nI, nI_add, nI_mul, nI_sub, nI_clamp, nI_eq, nI_ltI, nI_leI, nN_e, nI_nN, nN_nI, bI_0, bI_1, bI_n, bool_0, bool_1, in_T, lg_cmp0, ofN_nI, a2, b4, e, e2, bI_ff]
