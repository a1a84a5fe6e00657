/-! ===== misfits: the first is the least ===== -/
def sp_imisM (k : xMod) (byN : Bool) : Nat → List xLnk → Nat
  | _, [] => 1001
  | j, l :: t => min (sp_lmis (if byN = true then sp_find k.ports l.1 else k.ports[j]?) l) (sp_imisM k byN (j + 1) t)
theorem lmis_le (po : Option xNet) (l : xLnk) (p : Nat) (hp : p ≤ 1001) (h : l.2.1 < p ∧ ∀ r, l.2.2 = some r → r.2.1 < p) : sp_lmis po l ≤ 1001 := by
  unfold sp_lmis
  split
  · omega
  · split
    · exact Nat.le_refl _
    · rename_i r hr
      have := h.2 r hr
      split <;> omega
theorem lmis_ge {po : Option xNet} {l : xLnk} {b : Nat} (hb : b ≤ 1001) (h : b ≤ l.2.1 ∧ ∀ r, l.2.2 = some r → b ≤ r.2.1) : b ≤ sp_lmis po l := by
  unfold sp_lmis
  split
  · omega
  · split
    · exact hb
    · rename_i r hr
      have := h.2 r hr
      split <;> omega
theorem imisM_ge {k : xMod} {byN : Bool} {b : Nat} (hb : b ≤ 1001) : ∀ (ls : List xLnk) (j : Nat), (∀ l ∈ ls, b ≤ l.2.1 ∧ ∀ r, l.2.2 = some r → b ≤ r.2.1) → b ≤ sp_imisM k byN j ls
  | [], _, _ => hb
  | l :: t, j, h => by
    have h1 := imisM_ge (k := k) (byN := byN) hb t (j + 1) (fun x hx => h x (List.mem_cons_of_mem _ hx))
    have h2 := lmis_ge (po := if byN = true then sp_find k.ports l.1 else k.ports[j]?) hb (h l List.mem_cons_self)
    simp only [sp_imisM]
    omega
theorem imisM_le {k : xMod} {byN : Bool} : ∀ (ls : List xLnk) (j : Nat), sp_imisM k byN j ls ≤ 1001
  | [], _ => Nat.le_refl _
  | l :: t, j => by
    have := imisM_le (k := k) (byN := byN) t (j + 1)
    simp only [sp_imisM]
    omega
theorem lmis_cases (po : Option xNet) (l : xLnk) : sp_lmis po l = 1001 ∨ sp_lmis po l = l.2.1 ∨ ∃ r, l.2.2 = some r ∧ sp_lmis po l = r.2.1 := by
  unfold sp_lmis
  split
  · exact Or.inr (Or.inl rfl)
  · split
    · exact Or.inl rfl
    · rename_i r hr
      split
      · exact Or.inl rfl
      · exact Or.inr (Or.inr ⟨r, hr, rfl⟩)
theorem imisL_M {k : xMod} {byN : Bool} {lo p : Nat} (hp : p ≤ 1001) : ∀ (ls : List xLnk) (j : Nat), LSo lo ls p → sp_imisL k byN j ls = sp_imisM k byN j ls
  | [], _, _ => rfl
  | l :: t, j, h => by
    have h2 := List.pairwise_cons.mp h.2
    have ih := imisL_M (k := k) (byN := byN) hp t (j + 1) ⟨fun x hx => h.1 x (List.mem_cons_of_mem _ hx), h2.2⟩
    have a := h.1 l List.mem_cons_self
    have hm := imisM_le (k := k) (byN := byN) t (j + 1)
    simp only [sp_imisL, sp_imisM]
    rw [ih]
    generalize (if byN = true then sp_find k.ports l.1 else k.ports[j]?) = po
    by_cases e : sp_lmis po l = 1001
    · rw [if_pos e, e]; omega
    · rw [if_neg e]
      have hge : sp_lmis po l ≤ sp_imisM k byN (j + 1) t := by
        rcases lmis_cases po l with q | q | ⟨r, hr, q⟩
        · exact absurd q e
        · rw [q]
          refine imisM_ge (by omega) t (j + 1) (fun x hx => ?_)
          have b := h2.1 x hx
          have c := h.1 x (List.mem_cons_of_mem _ hx)
          exact ⟨by omega, fun r hr => by have := c.2.2 r hr; omega⟩
        · rw [q]
          have d := a.2.2 r hr
          refine imisM_ge (by omega) t (j + 1) (fun x hx => ?_)
          have b := (h2.1 x hx).2 r hr
          have c := h.1 x (List.mem_cons_of_mem _ hx)
          exact ⟨by omega, fun r hr => by have := c.2.2 r hr; omega⟩
      omega
/-- an instance of module k: the least place -/
def sp_imis2 (k : xMod) (i : xIns) : Nat := min (if i.2.2.2.1 = false ∧ i.2.2.2.2.length < k.ports.length then i.2.2.1 else 1001) (sp_imisM k i.2.2.2.1 0 i.2.2.2.2)
theorem imis_2 {ms : List xMod} {i : xIns} {j p : Nat} {k : xMod} (hp : p ≤ 1001) (hi : IX p i) (h1 : sp_kind ms i.1 = some j) (h2 : ms[j]? = some k) : sp_imis ms i = sp_imis2 k i := by
  unfold sp_imis sp_imis2
  simp only [h1, h2]
  have hl := imisL_M (k := k) (byN := i.2.2.2.1) hp i.2.2.2.2 0 hi.1
  have hm := imisM_le (k := k) (byN := i.2.2.2.1) i.2.2.2.2 0
  split
  · have := imisM_ge (k := k) (byN := i.2.2.2.1) (b := i.2.2.1) (by have := hi.2.2.2; omega) i.2.2.2.2 0 (fun l hl => by
      have := hi.1.1 l hl
      exact ⟨by omega, fun r hr => by have := this.2.2 r hr; omega⟩)
    omega
  · rw [hl]; omega
theorem imis_le {ms : List xMod} {i : xIns} {p : Nat} (hp : p ≤ 1001) (hi : IX p i) : sp_imis ms i ≤ 1001 := by
  unfold sp_imis
  split
  · exact Nat.le_refl _
  · split
    · exact Nat.le_refl _
    · split
      · have := hi.2.2.2; omega
      · rw [imisL_M hp _ _ hi.1]; exact imisM_le _ _
theorem foldl_min : ∀ (l : List Nat) (a : Nat), l.foldl min a = min a (l.foldl min 1001) ∨ 1001 < a
  | [], a => by simp; omega
  | x :: l, a => by
    have h1 := foldl_min l (min a x)
    have h2 := foldl_min l (min 1001 x)
    simp only [List.foldl_cons]
    omega
