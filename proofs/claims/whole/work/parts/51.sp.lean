/-! ===== the document's functions: where the cursor goes, what is kept ===== -/
theorem is_p {T : xT} {c p : Nat} (h : sp_is T c p = true) : p < lx_nx T p := nx_gt (is_lt h)
theorem po_num {T : xT} {lo hi p : Nat} {q : Nat × Nat} (h : sp_num T lo hi p = .ok q) : p < q.2 ∧ q.2 ≤ T.2 := by
  obtain ⟨h1, h2, h3, h4, h5⟩ := sp_num_ok h
  rw [h5]
  exact ⟨nx_gt (kind_num h1).1, nx_le T p⟩
theorem po_sign {T : xT} {c p q : Nat} (h : sp_sign T c p = .ok q) : p < q ∧ q ≤ T.2 := by
  obtain ⟨h1, h2⟩ := sp_sign_ok h
  rw [h2]
  exact ⟨is_p h1, nx_le T p⟩
theorem po_name {T : xT} {p : Nat} {l : List Nat} (h : sp_name T p = .ok l) : p < T.2 ∧ p < lx_nx T p ∧ lx_nx T p ≤ T.2 := by
  have h1 := (kind_nm (Or.inl (sp_name_ok h).1)).1
  exact ⟨h1, nx_gt h1, nx_le T p⟩
theorem po_netPart {T : xT} {c1 c2 p : Nat} {ns : List xNet} {q : xPart × Nat} (h : sp_netPart T c1 c2 ns p = .ok q) : p < q.2 ∧ q.2 ≤ T.2 := by
  unfold sp_netPart at h
  obtain ⟨l, h1, h2⟩ := eb_eq h
  have hn := po_name h1
  split at h2
  · cases h2
  · split at h2
    · cases h2
    · split at h2
      · rename_i e1
        have e2 := is_p e1
        obtain ⟨a, h3, h4⟩ := eb_eq h2
        have hn2 := po_num h3
        split at h4
        · rename_i e3
          have e4 := is_p e3
          obtain ⟨b, h5, h6⟩ := eb_eq h4
          have hn3 := po_num h5
          cases h6
          exact ⟨by simp only; omega, hn3.2⟩
        · cases h4
          exact ⟨by simp only; omega, hn2.2⟩
      · cases h2
        exact ⟨hn.2.1, hn.2.2⟩
theorem po_digits {T : xT} {pl lo hi p : Nat} {q : xPart × Nat} (h : sp_digits T pl lo hi p = .ok q) : p < q.2 ∧ q.2 ≤ T.2 := by
  unfold sp_digits at h
  obtain ⟨l, h1, h2⟩ := eb_eq h
  have hn := po_name h1
  split at h2
  · cases h2; exact ⟨hn.2.1, hn.2.2⟩
  · cases h2
theorem po_part {T : xT} (hT : TV T) {lng : Bool} {p : Nat} {ns : List xNet} {q : xPart × Nat} (h : sp_part T lng ns p = .ok q) : p < q.2 ∧ q.2 ≤ T.2 ∧ q.1.2.1 = p ∧ PW ns q.1 ∧ p < T.2 := by
  unfold sp_part at h
  split at h
  · unfold sp_longPart at h
    split at h
    · rename_i hk
      obtain ⟨a, h1, h2⟩ := eb_eq h
      obtain ⟨b, h3, h4⟩ := eb_eq h2
      have a1 := sp_num_ok h1
      have n1 := po_num h1
      have n2 := po_sign h3
      have n3 := po_digits h4
      have d := sp_digits_ok hT (by omega) (ns := ns) h4
      exact ⟨by omega, n3.2, d.2.2.1, d.1, (kind_num hk).1⟩
    · obtain ⟨a, h1, h2⟩ := eb_eq h
      have n1 := po_netPart h1
      have d := sp_netPart_ok h1
      split at h2
      · cases h2; exact ⟨n1.1, n1.2, d.2.2.1, d.1, d.2.2.2⟩
      · obtain ⟨b, h3, h4⟩ := eb_eq h2
        have n2 := po_sign h3
        cases h4
        exact ⟨by simp only; omega, n2.2, d.2.2.1, d.1, d.2.2.2⟩
  · unfold sp_shortPart at h
    split at h
    · rename_i hs
      have n2 := is_p hs
      have n3 := po_digits h
      have d := sp_digits_ok hT (by omega) (ns := ns) h
      exact ⟨by omega, n3.2, d.2.2.1, d.1, is_lt hs⟩
    · have n1 := po_netPart h
      have d := sp_netPart_ok h
      exact ⟨n1.1, n1.2, d.2.2.1, d.1, d.2.2.2⟩
/-- links between the places lo and p, in their order -/
def LSo (lo : Nat) (ls : List xLnk) (p : Nat) : Prop := (∀ l ∈ ls, lo < l.2.1 ∧ l.2.1 < p ∧ ∀ r, l.2.2 = some r → l.2.1 ≤ r.2.1 ∧ r.2.1 < p) ∧ ls.Pairwise (fun a b => a.2.1 < b.2.1 ∧ ∀ r, a.2.2 = some r → r.2.1 < b.2.1)
theorem LSo.nil (lo p : Nat) : LSo lo [] p := ⟨fun l hl => by simp at hl, List.Pairwise.nil⟩
theorem LSo.up {lo p p' : Nat} {ls : List xLnk} (h : LSo lo ls p) (hp : p ≤ p') : LSo lo ls p' := by
  refine ⟨fun l hl => ?_, h.2⟩
  obtain ⟨h1, h2, h3⟩ := h.1 l hl
  refine ⟨h1, by omega, fun r hr => ?_⟩
  have := h3 r hr
  omega
theorem LSo.snoc {lo p p' : Nat} {ls : List xLnk} {l : xLnk} (h : LSo lo ls p) (h0 : lo < p) (h1 : p ≤ l.2.1) (h2 : l.2.1 < p') (h3 : ∀ r, l.2.2 = some r → l.2.1 ≤ r.2.1 ∧ r.2.1 < p') : LSo lo (ls ++ [l]) p' := by
  refine ⟨fun y hy => ?_, ?_⟩
  · rcases List.mem_append.mp hy with q | q
    · obtain ⟨a1, a2, a3⟩ := h.1 y q
      refine ⟨a1, by omega, fun r hr => ?_⟩
      have := a3 r hr
      omega
    · rw [List.mem_singleton.mp q]
      exact ⟨by omega, h2, h3⟩
  · rw [List.pairwise_append]
    refine ⟨h.2, List.pairwise_singleton _ _, fun a ha b hb => ?_⟩
    rw [List.mem_singleton.mp hb]
    obtain ⟨a1, a2, a3⟩ := h.1 a ha
    refine ⟨by omega, fun r hr => ?_⟩
    have := a3 r hr
    omega
/-- links as they are read -/
def LW (byN : Bool) (ns : List xNet) (lo : Nat) (ls : List xLnk) (p : Nat) : Prop := LSo lo ls p ∧ ls.length ≤ 16 ∧ (∀ l ∈ ls, nm_ok l.1 ∧ ∀ r, l.2.2 = some r → PW ns r) ∧ (byN = true → (ls.map fun x => x.1).Nodup) ∧ lo < p
theorem LW.up {byN : Bool} {ns : List xNet} {lo p p' : Nat} {ls : List xLnk} (h : LW byN ns lo ls p) (hp : p ≤ p') : LW byN ns lo ls p' := ⟨h.1.up hp, h.2.1, h.2.2.1, h.2.2.2.1, by have := h.2.2.2.2; omega⟩
theorem LW.snoc {byN : Bool} {ns : List xNet} {lo p p' : Nat} {ls : List xLnk} {l : xLnk} (h : LW byN ns lo ls p) (hn : ls.length < 16) (h1 : p ≤ l.2.1) (h2 : l.2.1 < p') (h3 : ∀ r, l.2.2 = some r → l.2.1 ≤ r.2.1 ∧ r.2.1 < p' ∧ PW ns r) (h4 : nm_ok l.1) (h5 : byN = true → l.1 ∉ ls.map fun x => x.1) : LW byN ns lo (ls ++ [l]) p' := by
  refine ⟨h.1.snoc h.2.2.2.2 h1 h2 (fun r hr => ⟨(h3 r hr).1, (h3 r hr).2.1⟩), by simp; omega, fun y hy => ?_, fun e => ?_, ?_⟩
  · rcases List.mem_append.mp hy with q | q
    · exact h.2.2.1 y q
    · rw [List.mem_singleton.mp q]
      exact ⟨h4, fun r hr => (h3 r hr).2.2⟩
  · rw [List.map_append, List.nodup_append]
    refine ⟨h.2.2.2.1 e, by simp, fun a ha b hb => ?_⟩
    simp only [List.map_cons, List.map_nil, List.mem_singleton] at hb
    intro z
    rw [hb] at z
    exact h5 e (z ▸ ha)
  · have := h.2.2.2.2; omega
theorem nm_nil : nm_ok [] := ⟨by simp, by simp⟩
theorem LW.olink {T : xT} (hT : TV T) {lng byN : Bool} {ns : List xNet} {lo p : Nat} {ls : List xLnk} {q : List xLnk × Nat} (h : LW byN ns lo ls p) (hb : byN = false) (he : sp_olink T lng ns ls p = .ok q) : LW byN ns lo q.1 q.2 ∧ p < q.2 ∧ q.2 ≤ T.2 := by
  unfold sp_olink at he
  split at he
  · cases he
  · split at he
    · rename_i e1 e2
      cases he
      have := is_p e2
      exact ⟨h.snoc (l := ([], p, none)) (by omega) (Nat.le_refl _) this (fun r hr => by simp at hr) nm_nil (fun z => by simp [hb] at z), this, nx_le T p⟩
    · rename_i e1 e2
      obtain ⟨a, h1, h2⟩ := eb_eq he
      obtain ⟨n1, n2, n3, n4, n5⟩ := po_part hT h1
      cases h2
      refine ⟨h.snoc (l := ([], p, some a.1)) (by omega) (Nat.le_refl _) n1 (fun r hr => ?_) nm_nil (fun z => by simp [hb] at z), n1, n2⟩
      simp only [Option.some.injEq] at hr
      subst hr
      exact ⟨by simp only; omega, by omega, n4⟩
theorem LW.nlink {T : xT} (hT : TV T) {byN : Bool} {ns : List xNet} {lo p : Nat} {ls : List xLnk} {q : List xLnk × Nat} (h : LW byN ns lo ls p) (he : sp_nlink T ns ls p = .ok q) : LW byN ns lo q.1 q.2 ∧ p < q.2 ∧ q.2 ≤ T.2 := by
  unfold sp_nlink at he
  split at he
  · cases he
  · rename_i e1
    obtain ⟨p1, h1, h2⟩ := eb_eq he
    obtain ⟨nm, h3, h4⟩ := eb_eq h2
    have n1 := po_sign h1
    have n2 := po_name h3
    have ho := kind_nm_ok hT (Or.inl (sp_name_ok h3).1)
    rw [← (sp_name_ok h3).2] at ho
    split at h4
    · cases h4
    · rename_i e2
      obtain ⟨p3, h5, h6⟩ := eb_eq h4
      have n3 := po_sign h5
      split at h6
      · rename_i e3
        have n4 := is_p e3
        cases h6
        exact ⟨h.snoc (l := (nm, p1, none)) (by omega) (by simp only; omega) (by simp only; omega) (fun r hr => by simp at hr) ho (fun _ => e2), by simp only; omega, nx_le T p3⟩
      · obtain ⟨a, h7, h8⟩ := eb_eq h6
        obtain ⟨p4, h9, h10⟩ := eb_eq h8
        obtain ⟨m1, m2, m3, m4, m5⟩ := po_part hT (lng := true) h7
        have n5 := po_sign h9
        cases h10
        refine ⟨h.snoc (l := (nm, p1, some a.1)) (by omega) (by simp only; omega) (by simp only; omega) (fun r hr => ?_) ho (fun _ => e2), by simp only; omega, n5.2⟩
        simp only [Option.some.injEq] at hr
        subst hr
        exact ⟨by simp only; omega, by simp only; omega, m4⟩
theorem LW.loop {T : xT} (hT : TV T) {byN : Bool} {ns : List xNet} {lo : Nat} : ∀ (k : Nat) (ls : List xLnk) (p : Nat) (q : List xLnk × Nat), LW byN ns lo ls p → sp_loop T (fun ls p => if byN = true then sp_nlink T ns ls p else sp_olink T true ns ls p) k ls p = .ok q → LW byN ns lo q.1 q.2 ∧ p ≤ q.2 ∧ (p ≤ T.2 → q.2 ≤ T.2)
  | 0, ls, p, q, h, he => by
    simp only [sp_loop] at he
    cases he
    exact ⟨h, Nat.le_refl _, id⟩
  | k + 1, ls, p, q, h, he => by
    simp only [sp_loop] at he
    obtain ⟨a, h1, h2⟩ := eb_eq he
    have h3 : LW byN ns lo a.1 a.2 ∧ p < a.2 ∧ a.2 ≤ T.2 := by
      cases e : byN with
      | true => rw [e] at h1; exact e ▸ (LW.nlink hT h (by simpa using h1))
      | false => rw [e] at h1; exact e ▸ (LW.olink hT (lng := true) h e (by simpa using h1))
    split at h2
    · rename_i e1
      have n1 := is_p e1
      have := LW.loop hT k a.1 (lx_nx T a.2) q (h3.1.up (by omega)) h2
      exact ⟨this.1, by omega, fun _ => this.2.2 (nx_le T _)⟩
    · cases h2
      exact ⟨h3.1, by omega, fun _ => h3.2.2⟩
theorem LW.links {T : xT} (hT : TV T) {byN : Bool} {ns : List xNet} {lo p : Nat} {q : List xLnk × Nat} (hl : lo < p) (hp : p ≤ T.2) (he : sp_links T byN ns p = .ok q) : LW byN ns lo q.1 q.2 ∧ p ≤ q.2 ∧ q.2 ≤ T.2 := by
  have h0 : LW byN ns lo [] p := ⟨LSo.nil _ _, by simp, fun l hl => by simp at hl, fun _ => by simp, hl⟩
  unfold sp_links at he
  split at he
  · cases he
    exact ⟨h0, Nat.le_refl _, hp⟩
  · have := LW.loop hT 17 [] p q h0 he
    exact ⟨this.1, this.2.1, this.2.2 hp⟩
theorem LW.shortLinks {T : xT} (hT : TV T) {ns : List xNet} {lo : Nat} : ∀ (k : Nat) (ls : List xLnk) (p : Nat) (q : List xLnk × Nat), LW false ns lo ls p → sp_shortLinks T ns k ls p = .ok q → LW false ns lo q.1 q.2 ∧ p ≤ q.2 ∧ (p ≤ T.2 → q.2 ≤ T.2)
  | 0, ls, p, q, h, he => by
    simp only [sp_shortLinks] at he
    cases he
    exact ⟨h, Nat.le_refl _, id⟩
  | k + 1, ls, p, q, h, he => by
    simp only [sp_shortLinks] at he
    split at he
    · cases he
      exact ⟨h, Nat.le_refl _, id⟩
    · obtain ⟨a, h1, h2⟩ := eb_eq he
      obtain ⟨h3, h4, h5⟩ := LW.olink hT h rfl h1
      have := LW.shortLinks hT k a.1 a.2 q h3 h2
      exact ⟨this.1, by omega, fun _ => this.2.2 h5⟩
/-- an instance as it was read -/
def IX (p : Nat) (i : xIns) : Prop := LSo i.2.2.1 i.2.2.2.2 p ∧ i.2.2.2.2.length ≤ 16 ∧ (i.2.2.2.1 = true → (i.2.2.2.2.map fun x => x.1).Nodup) ∧ i.2.2.1 < p
theorem IX.up {p p' : Nat} {i : xIns} (h : IX p i) (hp : p ≤ p') : IX p' i := ⟨h.1.up hp, h.2.1, h.2.2.1, by have := h.2.2.2; omega⟩
/-- a module as it is read, with the cursor at p -/
def WX (lng : Bool) (m : xMod) (p : Nat) : Prop := AW m ∧ MW m ∧ nm_ok m.nm ∧ (m.nets.length ≤ 16 ∧ m.asg.length ≤ 8 ∧ m.ins.length ≤ 12) ∧ (m.pl < p ∧ (∀ a ∈ m.asg, m.pl < a.1.2.1 ∧ a.1.2.1 < p ∧ m.pl < a.2.2.1 ∧ a.2.2.1 < p) ∧ ∀ i ∈ m.ins, m.pl < i.2.2.1 ∧ IX p i) ∧ (lng = false → ∀ x ∈ m.ports, x.2.1 ≠ 3)
theorem WX.up {lng : Bool} {m : xMod} {p p' : Nat} (h : WX lng m p) (hp : p ≤ p') : WX lng m p' := by
  obtain ⟨h1, h2, h3, h4, ⟨h5, h6, h7⟩, h8⟩ := h
  refine ⟨h1, h2, h3, h4, ⟨by omega, fun a ha => ?_, fun i hi => ?_⟩, h8⟩
  · have := h6 a ha; omega
  · have := h7 i hi; exact ⟨this.1, this.2.up hp⟩
theorem WX.assign {T : xT} (hT : TV T) {lng : Bool} {m : xMod} {p : Nat} {q : xMod × Nat} (h : WX lng m p) (hp : p < T.2) (he : sp_assign T lng m p = .ok q) : WX lng q.1 q.2 ∧ p < q.2 ∧ q.2 ≤ T.2 := by
  unfold sp_assign at he
  split at he
  · cases he
  · rename_i e8
    obtain ⟨a, h1, h2⟩ := eb_eq he
    obtain ⟨p2, h3, h4⟩ := eb_eq h2
    obtain ⟨b, h5, h6⟩ := eb_eq h4
    obtain ⟨p3, h7, h8⟩ := eb_eq h6
    cases h8
    have n0 := nx_gt hp
    obtain ⟨a1, a2, a3, a4, a5⟩ := po_part hT h1
    have n1 : a.2 ≤ p2 := by
      split at h3
      · have := po_sign h3; omega
      · cases h3; exact Nat.le_refl _
    obtain ⟨b1, b2, b3, b4, b5⟩ := po_part hT h5
    have n2 := po_sign h7
    have hu := h.up (p' := p3) (by omega)
    obtain ⟨⟨w1, w2, w3, w4, w5⟩, u2, u3, ⟨u4, u5, u6⟩, ⟨u7, u8, u9⟩, u10⟩ := hu
    have hpl := h.2.2.2.2.1.1
    refine ⟨⟨⟨fun y hy => ?_, w2, w3, w4, w5⟩, u2, u3, ⟨u4, ?_, u6⟩, ⟨u7, fun y hy => ?_, u9⟩, u10⟩, by simp only; omega, n2.2⟩
    · rcases List.mem_append.mp hy with z | z
      · exact w1 y z
      · rw [List.mem_singleton.mp z]; exact ⟨a4, b4⟩
    · show (m.asg ++ [(a.1, b.1)]).length ≤ 8
      simp; omega
    · rcases List.mem_append.mp hy with z | z
      · exact u8 y z
      · rw [List.mem_singleton.mp z]
        show m.pl < a.1.2.1 ∧ a.1.2.1 < p3 ∧ m.pl < b.1.2.1 ∧ b.1.2.1 < p3
        omega
theorem AW.ins {m : xMod} {i : xIns} (h : AW m) (hi : ∀ l ∈ i.2.2.2.2, ∀ r, l.2.2 = some r → PW m.nets r) : AW (m.wIns i) := by
  obtain ⟨w1, w2, w3, w4, w5⟩ := h
  refine ⟨w1, fun y hy => ?_, w3, w4, w5⟩
  rcases List.mem_append.mp hy with z | z
  · exact w2 y z
  · rw [List.mem_singleton.mp z]; exact hi
theorem sp_start_ok {T : xT} (hT : TV T) {m : xMod} {p : Nat} {q : (List Nat × List Nat × Nat) × Nat} (h : sp_start T m p = .ok q) : nm_ok q.1.1 ∧ nm_ok q.1.2.1 ∧ m.ins.length < 12 ∧ p < q.1.2.2 ∧ q.1.2.2 < q.2 ∧ q.2 ≤ T.2 := by
  unfold sp_start at h
  obtain ⟨f, h1, h2⟩ := eb_eq h
  obtain ⟨nm, h3, h4⟩ := eb_eq h2
  have n1 := po_name h1
  have n2 := po_name h3
  have o1 := kind_nm_ok hT (Or.inl (sp_name_ok h1).1)
  have o2 := kind_nm_ok hT (Or.inl (sp_name_ok h3).1)
  rw [← (sp_name_ok h1).2] at o1
  rw [← (sp_name_ok h3).2] at o2
  split at h4
  · cases h4
  · rename_i e
    cases h4
    refine ⟨o1, o2, ?_, n1.2.1, n2.2.1, n2.2.2⟩
    by_cases z : 12 ≤ m.ins.length
    · exact absurd (Or.inl z) e
    · omega
theorem WX.ins {lng : Bool} {m : xMod} {p p' : Nat} {f nm : List Nat} {pl : Nat} {byN : Bool} {ls : List xLnk} (h : WX lng m p) (hp : p ≤ p') (h1 : nm_ok f) (h2 : nm_ok nm) (h3 : m.ins.length < 12) (h4 : p ≤ pl) (hl : LW byN m.nets pl ls p') : WX lng (m.wIns (f, nm, pl, byN, ls)) p' := by
  obtain ⟨u1, u2, u3, ⟨u4, u5, u6⟩, ⟨u7, u8, u9⟩, u10⟩ := h.up hp
  have hpl := h.2.2.2.2.1.1
  refine ⟨u1.ins (fun l hl' r hr => (hl.2.2.1 l hl').2 r hr), u2.ins h1 h2 (fun l hl' => (hl.2.2.1 l hl').1), u3, ⟨u4, u5, ?_⟩, ⟨u7, u8, fun y hy => ?_⟩, u10⟩
  · show (m.ins ++ [_]).length ≤ 12
    simp; omega
  · rcases List.mem_append.mp hy with z | z
    · exact u9 y z
    · rw [List.mem_singleton.mp z]
      exact ⟨by show m.pl < pl; omega, hl.1, hl.2.1, hl.2.2.2.1, hl.2.2.2.2⟩
theorem WX.longIns {T : xT} (hT : TV T) {lng : Bool} {m : xMod} {p : Nat} {q : xMod × Nat} (h : WX lng m p) (he : sp_longIns T m p = .ok q) : WX lng q.1 q.2 ∧ p < q.2 ∧ q.2 ≤ T.2 := by
  unfold sp_longIns at he
  obtain ⟨a, h1, h2⟩ := eb_eq he
  obtain ⟨p1, h3, h4⟩ := eb_eq h2
  obtain ⟨r, h5, h6⟩ := eb_eq h4
  obtain ⟨p3, h7, h8⟩ := eb_eq h6
  obtain ⟨p4, h9, h10⟩ := eb_eq h8
  cases h10
  obtain ⟨a1, a2, a3, a4, a5, a6⟩ := sp_start_ok hT h1
  have n1 := po_sign h3
  have hl := LW.links hT (lo := a.1.2.2) (by omega) n1.2 h5
  have n2 := po_sign h7
  have n3 := po_sign h9
  exact ⟨WX.ins h (by omega) a1 a2 a3 (by omega) (hl.1.up (by omega)), by simp only; omega, n3.2⟩
theorem WX.shortIns {T : xT} (hT : TV T) {lng : Bool} {m : xMod} {p : Nat} {q : xMod × Nat} (h : WX lng m p) (hp : p < T.2) (he : sp_shortIns T m p = .ok q) : WX lng q.1 q.2 ∧ p < q.2 ∧ q.2 ≤ T.2 := by
  unfold sp_shortIns at he
  obtain ⟨a, h1, h2⟩ := eb_eq he
  obtain ⟨r, h5, h6⟩ := eb_eq h2
  obtain ⟨p3, h7, h8⟩ := eb_eq h6
  cases h8
  have n0 := nx_gt hp
  obtain ⟨a1, a2, a3, a4, a5, a6⟩ := sp_start_ok hT h1
  have hl := LW.shortLinks hT (lo := a.1.2.2) 17 [] a.2 r ⟨LSo.nil _ _, by simp, fun l hl => by simp at hl, fun _ => by simp, by omega⟩ h5
  have n2 := po_sign h7
  exact ⟨WX.ins h (by omega) a1 a2 a3 (by omega) (hl.1.up (by omega)), by simp only; omega, n2.2⟩
theorem wNet_len {m : xMod} {x : xNet} : (m.wNet x).nets.length = m.nets.length + 1 := by
  by_cases h : x.2.1 = 2
  · rw [(wNet_w h).1]; simp
  · rw [(wNet_p h).1]; simp [xMod.nets]; omega
theorem wNet_rest {m : xMod} {x : xNet} : (m.wNet x).asg = m.asg ∧ (m.wNet x).ins = m.ins ∧ (m.wNet x).nm = m.nm ∧ (m.wNet x).pl = m.pl := by
  by_cases h : x.2.1 = 2
  · exact (wNet_w h).2.2
  · exact (wNet_p h).2.2
theorem WX.net {lng : Bool} {m : xMod} {p : Nat} {x : xNet} (h : WX lng m p) (hc : sp_can m x.1 = true) (hx : nm_ok x.1 ∧ x.2.1 ≤ 3 ∧ x.2.2 ≤ 8 ∧ (x.2.1 ≠ 3 → 1 ≤ x.2.2)) (hs : lng = false → x.2.1 ≠ 3) : WX lng (m.wNet x) p := by
  obtain ⟨u1, u2, u3, ⟨u4, u5, u6⟩, ⟨u7, u8, u9⟩, u10⟩ := h
  simp only [sp_can, Bool.and_eq_true, decide_eq_true_eq] at hc
  obtain ⟨r1, r2, r3, r4⟩ := wNet_rest (m := m) (x := x)
  refine ⟨u1.net hc.2, u2.net hx, by rw [r3]; exact u3, ⟨?_, by rw [r1]; exact u5, by rw [r2]; exact u6⟩, ⟨by rw [r4]; exact u7, by rw [r1, r4]; exact u8, by rw [r2, r4]; exact u9⟩, fun e y hy => ?_⟩
  · rw [wNet_len]; omega
  · by_cases z : x.2.1 = 2
    · rw [(wNet_w z).2.1] at hy; exact u10 e y hy
    · rw [(wNet_p z).2.1] at hy
      rcases List.mem_append.mp hy with w | w
      · exact u10 e y w
      · rw [List.mem_singleton.mp w]; exact hs e
theorem WX.wire {T : xT} (hT : TV T) {lng : Bool} {m : xMod} {w p : Nat} {q : xMod × Nat} (h : WX lng m p) (hw1 : 1 ≤ w) (hw : w ≤ 8) (he : sp_wire T w m p = .ok q) : WX lng q.1 q.2 ∧ p < q.2 ∧ q.2 ≤ T.2 := by
  unfold sp_wire at he
  obtain ⟨nm, h1, h2⟩ := eb_eq he
  have n1 := po_name h1
  have o1 := kind_nm_ok hT (Or.inl (sp_name_ok h1).1)
  rw [← (sp_name_ok h1).2] at o1
  split at h2
  · rename_i hc
    cases h2
    exact ⟨(h.net (x := (nm, 2, w)) hc ⟨o1, by simp, hw, fun _ => hw1⟩ (by simp)).up (by simp only; omega), n1.2.1, n1.2.2⟩
  · cases h2
theorem WX.port {T : xT} (hT : TV T) {m : xMod} {p : Nat} {q : xMod × Nat} (h : WX true m p) (he : sp_port T m p = .ok q) : WX true q.1 q.2 ∧ p < q.2 ∧ q.2 ≤ T.2 := by
  unfold sp_port at he
  obtain ⟨nm, h1, h2⟩ := eb_eq he
  have n1 := po_name h1
  have o1 := kind_nm_ok hT (Or.inl (sp_name_ok h1).1)
  rw [← (sp_name_ok h1).2] at o1
  split at h2
  · rename_i hc
    cases h2
    exact ⟨(h.net (x := (nm, 3, 0)) hc ⟨o1, by simp, by simp, by simp⟩ (by simp)).up (by simp only; omega), n1.2.1, n1.2.2⟩
  · cases h2
theorem MW.tell {m : xMod} {nm : List Nat} {x : xNet} {s w : Nat} (h : MW m) (hf : sp_find m.nets nm = some x) (hs : s < 2) (hw1 : 1 ≤ w) (hw : w ≤ 8) : MW (m.wTell nm s w) := by
  refine ⟨fun y hy => ?_, h.2⟩
  have hx := sp_find_mem hf
  have ho := (h.1 x hx.1).1
  rw [hx.2] at ho
  rcases List.mem_append.mp hy with z | z
  · have z' : y ∈ m.ports.map (tellF nm s w) := z
    obtain ⟨u, hu, e⟩ := List.mem_map.mp z'
    have := h.1 u (List.mem_append.mpr (Or.inl hu))
    unfold tellF at e
    split at e
    · subst e; exact ⟨ho, by simp only; omega, hw, fun _ => hw1⟩
    · subst e; exact this
  · exact h.1 y (List.mem_append.mpr (Or.inr z))
theorem WX.tell {T : xT} {m : xMod} {s w p : Nat} {q : xMod × Nat} (h : WX true m p) (hs : s < 2) (hw1 : 1 ≤ w) (hw : w ≤ 8) (he : sp_tell T s w m p = .ok q) : WX true q.1 q.2 ∧ p < q.2 ∧ q.2 ≤ T.2 := by
  have he0 := he
  unfold sp_tell at he
  obtain ⟨nm, h1, h2⟩ := eb_eq he
  have n1 := po_name h1
  split at h2
  · cases h2
  · rename_i x hx
    split at h2
    · rename_i h3
      cases h2
      obtain ⟨u1, u2, u3, ⟨u4, u5, u6⟩, u7, u10⟩ := h.up (p' := lx_nx T p) (by omega)
      refine ⟨⟨u1.tell (w := w) hx h3 hs, u2.tell hx hs hw1 hw, u3, ⟨?_, u5, u6⟩, u7, by simp⟩, n1.2.1, n1.2.2⟩
      show ((m.ports.map (tellF nm s w)) ++ m.wires).length ≤ 16
      simp only [xMod.nets, List.length_append] at u4
      simp; omega
    · cases h2
theorem WX.loop {T : xT} {lng : Bool} {f : xMod → Nat → Except Nat (xMod × Nat)} (hf : ∀ m p q, WX lng m p → f m p = .ok q → WX lng q.1 q.2 ∧ p < q.2 ∧ q.2 ≤ T.2) : ∀ (k : Nat) (m : xMod) (p : Nat) (q : xMod × Nat), WX lng m p → p ≤ T.2 → sp_loop T f k m p = .ok q → WX lng q.1 q.2 ∧ p ≤ q.2 ∧ q.2 ≤ T.2
  | 0, m, p, q, h, hp, he => by
    simp only [sp_loop] at he
    cases he
    exact ⟨h, Nat.le_refl _, hp⟩
  | k + 1, m, p, q, h, hp, he => by
    simp only [sp_loop] at he
    obtain ⟨a, h1, h2⟩ := eb_eq he
    obtain ⟨h3, h4, h5⟩ := hf m p a h h1
    split at h2
    · rename_i e1
      have n1 := is_p e1
      have := WX.loop hf k a.1 (lx_nx T a.2) q (h3.up (by omega)) (nx_le T _) h2
      exact ⟨this.1, by omega, this.2.2⟩
    · cases h2
      exact ⟨h3, by omega, h5⟩
theorem po_range {T : xT} {p : Nat} {q : Nat × Nat} (hp : p ≤ T.2) (h : sp_range T p = .ok q) : p ≤ q.2 ∧ q.2 ≤ T.2 ∧ 1 ≤ q.1 ∧ q.1 ≤ 8 := by
  unfold sp_range at h
  split at h
  · rename_i e1
    have n0 := is_p e1
    obtain ⟨a, h1, h2⟩ := eb_eq h
    obtain ⟨p2, h3, h4⟩ := eb_eq h2
    obtain ⟨b, h5, h6⟩ := eb_eq h4
    obtain ⟨p4, h7, h8⟩ := eb_eq h6
    cases h8
    have n1 := po_num h1
    have n2 := po_sign h3
    have n3 := po_num h5
    have n4 := po_sign h7
    have n5 := (sp_num_ok h1).2.2.2.1
    exact ⟨by simp only; omega, n4.2, by simp, by simp only; omega⟩
  · cases h
    exact ⟨Nat.le_refl _, hp, by simp, by simp⟩
theorem WX.nets {T : xT} (hT : TV T) {m : xMod} {s p : Nat} {q : xMod × Nat} (h : WX true m p) (hs : s ≤ 2) (hp : p < T.2) (he : sp_nets T s m p = .ok q) : WX true q.1 q.2 ∧ p < q.2 ∧ q.2 ≤ T.2 := by
  unfold sp_nets at he
  obtain ⟨w, h1, h2⟩ := eb_eq he
  obtain ⟨r, h3, h4⟩ := eb_eq h2
  obtain ⟨p3, h5, h6⟩ := eb_eq h4
  cases h6
  have n0 := nx_gt hp
  obtain ⟨a1, a2, a3, a4⟩ := po_range (nx_le T p) h1
  have hl := WX.loop (T := T) (lng := true) (f := fun m p => if s = 2 then sp_wire T w.1 m p else sp_tell T s w.1 m p) (fun m p q hm hq => by
    by_cases e : s = 2
    · simp only [e, if_true] at hq; exact WX.wire hT hm a3 a4 hq
    · simp only [e, if_false] at hq; exact WX.tell hm (by omega) a3 a4 hq) 17 m w.2 r (h.up (by omega)) a2 h3
  have n2 := po_sign h5
  exact ⟨hl.1.up (by simp only; omega), by simp only; omega, n2.2⟩
theorem WX.shortNet {T : xT} (hT : TV T) {m : xMod} {s p : Nat} {q : xMod × Nat} (h : WX false m p) (hs : s ≤ 2) (hp : p < T.2) (he : sp_shortNet T s m p = .ok q) : WX false q.1 q.2 ∧ p < q.2 ∧ q.2 ≤ T.2 := by
  unfold sp_shortNet at he
  obtain ⟨nm, h1, h2⟩ := eb_eq he
  have n0 := nx_gt hp
  have n1 := po_name h1
  have o1 := kind_nm_ok hT (Or.inl (sp_name_ok h1).1)
  rw [← (sp_name_ok h1).2] at o1
  split at h2
  · rename_i hc
    obtain ⟨w, h3, h4⟩ := eb_eq h2
    obtain ⟨p3, h5, h6⟩ := eb_eq h4
    cases h6
    have n2 := po_num h3
    have w1 := sp_num_ok h3
    have n3 := po_sign h5
    exact ⟨(h.net (x := (nm, s, w.1)) hc ⟨o1, by simp only; omega, w1.2.2.2.1, fun _ => w1.2.2.1⟩ (fun _ => by simp only; omega)).up (by simp only; omega), by simp only; omega, n3.2⟩
  · cases h2
theorem WX.start {T : xT} (hT : TV T) {lng : Bool} {ms : List xMod} {p : Nat} {q : xMod × Nat} (he : sp_mod T ms p = .ok q) : WX lng q.1 q.2 ∧ p < q.2 ∧ q.2 ≤ T.2 ∧ ms.length < 8 ∧ q.1.nm ∉ ms.map (fun m => m.nm) ∧ q.1.pl = p := by
  unfold sp_mod at he
  obtain ⟨nm, h1, h2⟩ := eb_eq he
  have n1 := po_name h1
  have o1 := kind_nm_ok hT (Or.inl (sp_name_ok h1).1)
  rw [← (sp_name_ok h1).2] at o1
  split at h2
  · cases h2
  · rename_i e
    cases h2
    refine ⟨⟨⟨?_, ?_, ?_, ?_, by simp [xMod.nets, xMod.ports, xMod.wires]⟩, ⟨?_, ?_⟩, o1, ⟨by simp [xMod.nets, xMod.ports, xMod.wires], by simp [xMod.asg], by simp [xMod.ins]⟩, ⟨n1.2.1, ?_, ?_⟩, ?_⟩, n1.2.1, n1.2.2, ?_, fun z => e (Or.inr z), rfl⟩
    · intro a ha; simp [xMod.asg] at ha
    · intro a ha; simp [xMod.ins] at ha
    · intro a ha; simp [xMod.wires] at ha
    · intro a ha; simp [xMod.ports] at ha
    · intro a ha; simp [xMod.nets, xMod.ports, xMod.wires] at ha
    · intro a ha; simp [xMod.ins] at ha
    · intro a ha; simp [xMod.asg] at ha
    · intro a ha; simp [xMod.ins] at ha
    · intro _ a ha; simp [xMod.ports] at ha
    · by_cases z : 8 ≤ ms.length
      · exact absurd (Or.inl z) e
      · omega
theorem sp_loop_keep {T : xT} {f : xMod → Nat → Except Nat (xMod × Nat)} {α : Type} (g : xMod → α) (hf : ∀ m p q, f m p = .ok q → g q.1 = g m) : ∀ (k : Nat) (m : xMod) (p : Nat) (q : xMod × Nat), sp_loop T f k m p = .ok q → g q.1 = g m
  | 0, m, p, q, he => by
    simp only [sp_loop] at he
    cases he
    rfl
  | k + 1, m, p, q, he => by
    simp only [sp_loop] at he
    obtain ⟨a, h1, h2⟩ := eb_eq he
    have h3 := hf m p a h1
    split at h2
    · exact (sp_loop_keep g hf k a.1 _ q h2).trans h3
    · cases h2
      exact h3
theorem port_keep {T : xT} : ∀ m p q, sp_port T m p = .ok q → (fun m : xMod => (m.nm, m.pl)) q.1 = (fun m : xMod => (m.nm, m.pl)) m := by
  intro m p q h
  unfold sp_port at h
  obtain ⟨nm, h1, h2⟩ := eb_eq h
  split at h2
  · cases h2; rfl
  · cases h2
theorem WX.longHead {T : xT} (hT : TV T) {ms : List xMod} {p : Nat} {q : xMod × Nat} (he : sp_longHead T ms p = .ok q) : WX true q.1 q.2 ∧ p < q.1.pl ∧ q.1.pl < q.2 ∧ q.2 ≤ T.2 ∧ ms.length < 8 ∧ q.1.nm ∉ ms.map (fun m => m.nm) := by
  unfold sp_longHead at he
  split at he
  · rename_i e1
    have n0 := nx_gt (txt_lt e1)
    obtain ⟨a, h1, h2⟩ := eb_eq he
    obtain ⟨p1, h3, h4⟩ := eb_eq h2
    obtain ⟨r, h5, h6⟩ := eb_eq h4
    obtain ⟨p3, h7, h8⟩ := eb_eq h6
    obtain ⟨p4, h9, h10⟩ := eb_eq h8
    cases h10
    obtain ⟨a1, a2, a3, a4, a5, a6⟩ := WX.start hT (lng := true) h1
    have n1 := po_sign h3
    have hl : WX true r.1 r.2 ∧ p1 ≤ r.2 ∧ r.2 ≤ T.2 ∧ (r.1.nm, r.1.pl) = (a.1.nm, a.1.pl) := by
      split at h5
      · cases h5
        exact ⟨a1.up (by omega), Nat.le_refl _, n1.2, rfl⟩
      · have q1 := WX.loop (T := T) (lng := true) (f := sp_port T) (fun m p q hm hq => WX.port hT hm hq) 17 a.1 p1 r (a1.up (by omega)) n1.2 h5
        exact ⟨q1.1, q1.2.1, q1.2.2, sp_loop_keep (fun m : xMod => (m.nm, m.pl)) port_keep 17 a.1 p1 r h5⟩
    have n2 := po_sign h7
    have n3 := po_sign h9
    obtain ⟨k1, k2⟩ := Prod.mk.injEq _ _ _ _ ▸ hl.2.2.2
    exact ⟨hl.1.up (by simp only; omega), by simp only; omega, by simp only; omega, n3.2, a4, by simp only; rw [k1]; exact a5⟩
  · cases he
theorem WX.shortHead {T : xT} (hT : TV T) {ms : List xMod} {p : Nat} {q : xMod × Nat} (he : sp_shortHead T ms p = .ok q) : WX false q.1 q.2 ∧ p < q.1.pl ∧ q.1.pl < q.2 ∧ q.2 ≤ T.2 ∧ ms.length < 8 ∧ q.1.nm ∉ ms.map (fun m => m.nm) := by
  unfold sp_shortHead at he
  split at he
  · rename_i e1
    have n0 := nx_gt (txt_lt e1)
    obtain ⟨a, h1, h2⟩ := eb_eq he
    obtain ⟨p1, h3, h4⟩ := eb_eq h2
    cases h4
    obtain ⟨a1, a2, a3, a4, a5, a6⟩ := WX.start hT (lng := false) h1
    have n1 := po_sign h3
    exact ⟨a1.up (by simp only; omega), by simp only; omega, by simp only; omega, n1.2, a4, a5⟩
  · cases he
