/-! ===== the document's functions: the whole text ===== -/
def kp (m : xMod) : List Nat × Nat := (m.nm, m.pl)
theorem kp_nets {T : xT} {m : xMod} {s p : Nat} {q : xMod × Nat} (he : sp_nets T s m p = .ok q) : kp q.1 = kp m := by
  unfold sp_nets at he
  obtain ⟨w, h1, h2⟩ := eb_eq he
  obtain ⟨r, h3, h4⟩ := eb_eq h2
  obtain ⟨p3, h5, h6⟩ := eb_eq h4
  cases h6
  refine sp_loop_keep kp (fun m p q hq => ?_) 17 m w.2 r h3
  split at hq
  · unfold sp_wire at hq
    obtain ⟨nm, h1, h2⟩ := eb_eq hq
    split at h2
    · cases h2; rfl
    · cases h2
  · unfold sp_tell at hq
    obtain ⟨nm, h1, h2⟩ := eb_eq hq
    split at h2
    · cases h2
    · split at h2
      · cases h2; rfl
      · cases h2
theorem kp_assign {T : xT} {lng : Bool} {m : xMod} {p : Nat} {q : xMod × Nat} (he : sp_assign T lng m p = .ok q) : kp q.1 = kp m := by
  unfold sp_assign at he
  split at he
  · cases he
  · obtain ⟨a, h1, h2⟩ := eb_eq he
    obtain ⟨p2, h3, h4⟩ := eb_eq h2
    obtain ⟨b, h5, h6⟩ := eb_eq h4
    obtain ⟨p3, h7, h8⟩ := eb_eq h6
    cases h8
    rfl
theorem kp_longIns {T : xT} {m : xMod} {p : Nat} {q : xMod × Nat} (he : sp_longIns T m p = .ok q) : kp q.1 = kp m := by
  unfold sp_longIns at he
  obtain ⟨a, h1, h2⟩ := eb_eq he
  obtain ⟨p1, h3, h4⟩ := eb_eq h2
  obtain ⟨r, h5, h6⟩ := eb_eq h4
  obtain ⟨p3, h7, h8⟩ := eb_eq h6
  obtain ⟨p4, h9, h10⟩ := eb_eq h8
  cases h10
  rfl
theorem kp_shortIns {T : xT} {m : xMod} {p : Nat} {q : xMod × Nat} (he : sp_shortIns T m p = .ok q) : kp q.1 = kp m := by
  unfold sp_shortIns at he
  obtain ⟨a, h1, h2⟩ := eb_eq he
  obtain ⟨r, h5, h6⟩ := eb_eq h2
  obtain ⟨p3, h7, h8⟩ := eb_eq h6
  cases h8
  rfl
theorem kp_shortNet {T : xT} {m : xMod} {s p : Nat} {q : xMod × Nat} (he : sp_shortNet T s m p = .ok q) : kp q.1 = kp m := by
  unfold sp_shortNet at he
  obtain ⟨nm, h1, h2⟩ := eb_eq he
  split at h2
  · obtain ⟨w, h3, h4⟩ := eb_eq h2
    obtain ⟨p3, h5, h6⟩ := eb_eq h4
    cases h6
    split <;> rfl
  · cases h2
/-- a module that was read, all of it before the place p -/
def FX (lng : Bool) (m : xMod) (p : Nat) : Prop := WX lng m p ∧ ∀ x ∈ m.nets, x.2.1 ≠ 3
theorem FX.up {lng : Bool} {m : xMod} {p p' : Nat} (h : FX lng m p) (hp : p ≤ p') : FX lng m p' := ⟨h.1.up hp, h.2⟩
/-- the modules of a text up to the place p -/
def DX (lng : Bool) (ms : List xMod) (p : Nat) : Prop := ms.length ≤ 8 ∧ (ms.map fun m => m.nm).Nodup ∧ (∀ m ∈ ms, FX lng m p) ∧ ms.Pairwise (fun a b => FX lng a b.pl)
theorem DX.up {lng : Bool} {ms : List xMod} {p p' : Nat} (h : DX lng ms p) (hp : p ≤ p') : DX lng ms p' := ⟨h.1, h.2.1, fun m hm => (h.2.2.1 m hm).up hp, h.2.2.2⟩
theorem DX.snoc {lng : Bool} {ms : List xMod} {m : xMod} {p : Nat} (h : DX lng ms m.pl) (hm : FX lng m p) (hl : ms.length < 8) (hn : m.nm ∉ ms.map fun m => m.nm) : DX lng (ms ++ [m]) p := by
  have hp := hm.1.2.2.2.2.1.1
  refine ⟨by simp; omega, ?_, fun y hy => ?_, ?_⟩
  · rw [List.map_append, List.nodup_append]
    refine ⟨h.2.1, by simp, fun a ha b hb => ?_⟩
    simp only [List.map_cons, List.map_nil, List.mem_singleton] at hb
    intro z
    exact hn (hb ▸ z ▸ ha)
  · rcases List.mem_append.mp hy with z | z
    · exact (h.2.2.1 y z).up (by omega)
    · rw [List.mem_singleton.mp z]; exact hm
  · rw [List.pairwise_append]
    refine ⟨h.2.2.2, List.pairwise_singleton _ _, fun a ha b hb => ?_⟩
    rw [List.mem_singleton.mp hb]
    exact h.2.2.1 a ha
/-- the cursor of a text -/
def KX (T : xT) (lng : Bool) (c : xCur) : Prop := c.2.2 ≤ T.2 ∧ match c.2.1 with
  | none => DX lng c.1 c.2.2
  | some m => DX lng c.1 m.pl ∧ WX lng m c.2.2 ∧ c.1.length < 8 ∧ m.nm ∉ c.1.map (fun m => m.nm)
theorem KX.item {T : xT} {lng : Bool} {ms : List xMod} {m : xMod} {p : Nat} {e : Except Nat (xMod × Nat)} {c : xCur} (h : KX T lng (ms, some m, p)) (hk : ∀ q, e = .ok q → (WX lng q.1 q.2 ∧ p < q.2 ∧ q.2 ≤ T.2) ∧ kp q.1 = kp m) (he : sp_item e ms = .ok c) : KX T lng c ∧ p < c.2.2 := by
  unfold sp_item at he
  obtain ⟨q, h1, h2⟩ := eb_eq he
  obtain ⟨⟨a1, a2, a3⟩, a4⟩ := hk q h1
  cases h2
  obtain ⟨k1, k2⟩ := Prod.mk.injEq _ _ _ _ ▸ (show (q.1.nm, q.1.pl) = (m.nm, m.pl) from a4)
  obtain ⟨b1, b2, b3, b4, b5⟩ := h
  refine ⟨⟨a3, ?_, a1, b4, ?_⟩, a2⟩
  · show DX lng ms q.1.pl
    rw [k2]; exact b2
  · show q.1.nm ∉ _
    rw [k1]; exact b5
theorem KX.piece {T : xT} (hT : TV T) {lng : Bool} {c c' : xCur} (h : KX T lng c) (he : sp_piece T lng c = .ok c') : KX T lng c' ∧ c.2.2 < c'.2.2 := by
  obtain ⟨ms, cu, p⟩ := c
  cases cu with
  | none =>
    have he' : sp_item (if lng = true then sp_longHead T ms p else sp_shortHead T ms p) ms = .ok c' := he
    obtain ⟨q, h1, h2⟩ := eb_eq he'
    cases h2
    have hd : DX lng ms p := h.2
    have hq : WX lng q.1 q.2 ∧ p < q.1.pl ∧ q.1.pl < q.2 ∧ q.2 ≤ T.2 ∧ ms.length < 8 ∧ q.1.nm ∉ ms.map (fun m => m.nm) := by
      cases lng with
      | true => exact WX.longHead hT (by simpa using h1)
      | false => exact WX.shortHead hT (by simpa using h1)
    obtain ⟨a1, a2, a3, a4, a5, a6⟩ := hq
    exact ⟨⟨a4, hd.up (by omega), a1, a5, a6⟩, by simp only; omega⟩
  | some m =>
    obtain ⟨b1, b2, b3, b4, b5⟩ := id h
    have b1 : p ≤ T.2 := b1
    have b2 : DX lng ms m.pl := b2
    have b3 : WX lng m p := b3
    have b4 : ms.length < 8 := b4
    have b5 : m.nm ∉ ms.map (fun m => m.nm) := b5
    unfold sp_piece at he
    simp only at he
    cases lng with
    | true =>
      simp only [if_true] at he
      split at he
      · rename_i e; exact KX.item h (fun q hq => ⟨WX.nets hT b3 (by omega) (txt_lt e) hq, kp_nets hq⟩) he
      · split at he
        · rename_i e; exact KX.item h (fun q hq => ⟨WX.nets hT b3 (by omega) (txt_lt e) hq, kp_nets hq⟩) he
        · split at he
          · rename_i e; exact KX.item h (fun q hq => ⟨WX.nets hT b3 (by omega) (txt_lt e) hq, kp_nets hq⟩) he
          · split at he
            · rename_i e; exact KX.item h (fun q hq => ⟨WX.assign hT b3 (txt_lt e) hq, kp_assign hq⟩) he
            · split at he
              · rename_i e
                obtain ⟨p1, h1, h2⟩ := eb_eq he
                cases h2
                unfold sp_longEnd at h1
                split at h1
                · cases h1
                · rename_i e2
                  cases h1
                  have n0 := nx_gt (txt_lt e)
                  refine ⟨⟨nx_le T p, ?_⟩, n0⟩
                  refine DX.snoc b2 ⟨b3.up (by simp only; omega), fun x hx z => ?_⟩ b4 b5
                  rcases List.mem_append.mp hx with y | y
                  · exact e2 (List.any_eq_true.mpr ⟨x, y, by simpa using z⟩)
                  · have := b3.1.2.2.1 x y; omega
              · exact KX.item h (fun q hq => ⟨WX.longIns hT b3 hq, kp_longIns hq⟩) he
    | false =>
      simp only [Bool.false_eq_true, if_false] at he
      split at he
      · rename_i e; exact KX.item h (fun q hq => ⟨WX.shortNet hT b3 (by omega) (txt_lt e) hq, kp_shortNet hq⟩) he
      · split at he
        · rename_i e; exact KX.item h (fun q hq => ⟨WX.shortNet hT b3 (by omega) (txt_lt e) hq, kp_shortNet hq⟩) he
        · split at he
          · rename_i e; exact KX.item h (fun q hq => ⟨WX.shortNet hT b3 (by omega) (txt_lt e) hq, kp_shortNet hq⟩) he
          · split at he
            · rename_i e; exact KX.item h (fun q hq => ⟨WX.assign hT b3 (txt_lt e) hq, kp_assign hq⟩) he
            · split at he
              · rename_i e; exact KX.item h (fun q hq => ⟨WX.shortIns hT b3 (txt_lt e) hq, kp_shortIns hq⟩) he
              · obtain ⟨p1, h1, h2⟩ := eb_eq he
                cases h2
                unfold sp_shortEnd at h1
                split at h1
                · rename_i e
                  have n0 := nx_gt (txt_lt e)
                  have n1 := po_sign h1
                  refine ⟨⟨n1.2, ?_⟩, by simp only; omega⟩
                  refine DX.snoc b2 ⟨b3.up (by simp only; omega), fun x hx z => ?_⟩ b4 b5
                  rcases List.mem_append.mp hx with y | y
                  · exact b3.2.2.2.2.2 rfl x y z
                  · have := b3.1.2.2.1 x y; omega
                · cases h1
/-- the fuel of sp_text does not matter once it is enough -/
theorem KX.text {T : xT} (hT : TV T) {lng : Bool} : ∀ (k : Nat) (c : xCur), KX T lng c → T.2 < c.2.2 + k → ∀ ms, sp_text T lng k c = .ok ms → DX lng ms T.2
  | 0, c, h, hk, ms, he => by
    have := h.1; omega
  | k + 1, c, h, hk, ms, he => by
    simp only [sp_text] at he
    split at he
    · rename_i e
      cases he
      obtain ⟨ms, cu, p⟩ := c
      cases cu with
      | none => exact h.2.up h.1
      | some m => simp at e
    · obtain ⟨c2, h1, h2⟩ := eb_eq he
      obtain ⟨h3, h4⟩ := KX.piece hT h h1
      exact KX.text hT k c2 h3 (by omega) ms h2
theorem KX.start (T : xT) (lng : Bool) {p : Nat} (h : p ≤ T.2) : KX T lng ([], none, p) := ⟨h, by simp [DX]⟩
