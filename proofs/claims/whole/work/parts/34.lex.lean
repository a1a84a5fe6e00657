/-! ===== words: bounds ===== -/
theorem skip_le (T : xT) : ∀ (r : Nat) (com : Bool), r ≤ T.2 → T.2 - r ≤ lx_skip T r com ∧ lx_skip T r com ≤ T.2
  | 0, _, _ => by simp [lx_skip]
  | r + 1, com, h => by
    have h1 := skip_le T r false (by omega)
    have h2 := skip_le T r true (by omega)
    have h3 := skip_le T r com (by omega)
    simp only [lx_skip]
    split
    · omega
    · split
      · omega
      · split
        · omega
        · omega
theorem row_le (T : xT) (dig : Bool) : ∀ (r : Nat), r ≤ T.2 → T.2 - r ≤ lx_row T dig r ∧ lx_row T dig r ≤ T.2
  | 0, _ => by simp [lx_row]
  | r + 1, h => by
    have h1 := row_le T dig r (by omega)
    simp only [lx_row]
    split
    · omega
    · omega
theorem end_le {T : xT} {p : Nat} (h : p < T.2) : p < lx_end T p ∧ lx_end T p ≤ T.2 := by
  have h1 := row_le T true (T.2 - (p + 1)) (by omega)
  have h2 := row_le T false (T.2 - (p + 1)) (by omega)
  unfold lx_end
  split
  · omega
  · split <;> omega
theorem nx_le (T : xT) (p : Nat) : lx_nx T p ≤ T.2 := by
  unfold lx_nx
  split
  · exact (skip_le T _ _ (by omega)).2
  · omega
theorem nx_gt {T : xT} {p : Nat} (h : p < T.2) : p < lx_nx T p := by
  have h1 := end_le h
  have h2 := skip_le T (T.2 - lx_end T p) false (by omega)
  unfold lx_nx
  rw [if_pos h]
  omega
theorem kind_5 {T : xT} {p : Nat} : lx_kind T p = 5 ↔ T.2 ≤ p := by
  unfold lx_kind
  split
  · simp [*]
  · split
    · split <;> simp [*]
    · split
      · split
        · simp [*]
        · split <;> simp [*]
      · simp [*]
theorem kind_lt {T : xT} {p : Nat} (h : lx_kind T p ≠ 5) : p < T.2 := by
  by_cases q : T.2 ≤ p
  · exact absurd (kind_5.mpr q) h
  · omega
theorem kind_b (T : xT) (p : Nat) : lx_kind T p ≤ 5 := by
  unfold lx_kind
  repeat' split
  all_goals omega
/-- the characters of a tape -/
def TV (T : xT) : Prop := T.2 ≤ 1000 ∧ ∀ i, i < T.2 → T.1 i = 10 ∨ 32 ≤ T.1 i ∧ T.1 i ≤ 126
theorem TV.c {T : xT} (h : TV T) {i : Nat} (hi : i < T.2) : 0 < T.1 i ∧ T.1 i < 128 := by
  rcases h.2 i hi with q | q <;> omega
theorem nm_ch {T : xT} (h : TV T) {p : Nat} (hp : p < T.2) : ∀ c ∈ lx_nm T p, 0 < c ∧ c < 128 := by
  intro c hc
  obtain ⟨i, hi, rfl⟩ := List.mem_map.mp hc
  have := List.mem_range.mp hi
  have := end_le hp
  exact h.c (by omega)
theorem nm_len (T : xT) (p : Nat) : (lx_nm T p).length = lx_end T p - p := by simp [lx_nm]
/-- a word that is a name, or a keyword -/
theorem kind_nm {T : xT} {p : Nat} (h : lx_kind T p = 0 ∨ lx_kind T p = 1) : p < T.2 ∧ lx_D (T.1 p) = false ∧ lx_L (T.1 p) = true ∧ lx_end T p - p ≤ 8 := by
  unfold lx_kind at h
  split at h
  · omega
  · split at h
    · split at h <;> omega
    · split at h
      · split at h
        · omega
        · rename_i h1 h2 h3 h4
          exact ⟨by omega, by simpa using h2, h3, by omega⟩
      · omega
theorem kind_nm_ok {T : xT} (hT : TV T) {p : Nat} (h : lx_kind T p = 0 ∨ lx_kind T p = 1) : nm_ok (lx_nm T p) := by
  have q := kind_nm h
  exact ⟨by rw [nm_len]; exact q.2.2.2, nm_ch hT q.1⟩
theorem kind_num {T : xT} {p : Nat} (h : lx_kind T p = 2) : p < T.2 ∧ lx_D (T.1 p) = true ∧ lx_end T p - p ≤ 2 := by
  unfold lx_kind at h
  split at h
  · omega
  · split at h
    · split at h
      · omega
      · rename_i h1 h2 h3
        exact ⟨by omega, h2, by omega⟩
    · split at h
      · split at h
        · omega
        · split at h <;> omega
      · omega
theorem kind_sign {T : xT} {p : Nat} (h : lx_kind T p = 3) : p < T.2 ∧ lx_D (T.1 p) = false ∧ lx_L (T.1 p) = false ∧ lx_end T p = p + 1 := by
  have hp := kind_lt (T := T) (p := p) (by omega)
  unfold lx_kind at h
  split at h
  · omega
  · split at h
    · split at h <;> omega
    · rename_i h1 h2
      split at h
      · split at h
        · omega
        · split at h <;> omega
      · rename_i h3
        refine ⟨hp, by simpa using h2, by simpa using h3, ?_⟩
        unfold lx_end
        rw [if_neg h2, if_neg h3]
theorem lx_D_iff {c : Nat} : lx_D c = true ↔ 48 ≤ c ∧ c ≤ 57 := by simp [lx_D]
/-- all characters of a row, but the first -/
theorem row_all (T : xT) (dig : Bool) : ∀ (r i : Nat), r ≤ T.2 → T.2 - r ≤ i → i < lx_row T dig r → lx_D (T.1 i) = true ∨ (dig = false ∧ lx_L (T.1 i) = true)
  | 0, i, _, h1, h2 => by simp only [lx_row] at h2; omega
  | r + 1, i, h, h1, h2 => by
    simp only [lx_row] at h2
    split at h2
    · rename_i h3
      by_cases e : i = T.2 - (r + 1)
      · subst e; exact h3
      · exact row_all T dig r i (by omega) (by omega) h2
    · omega
/-- behind a row stands no character of it -/
theorem row_end (T : xT) (dig : Bool) : ∀ (r : Nat), r ≤ T.2 → lx_row T dig r < T.2 → ¬ (lx_D (T.1 (lx_row T dig r)) = true ∨ (dig = false ∧ lx_L (T.1 (lx_row T dig r)) = true))
  | 0, _, h2 => by simp only [lx_row] at h2; omega
  | r + 1, h, h2 => by
    simp only [lx_row] at h2 ⊢
    split
    · rename_i h3
      rw [if_pos h3] at h2
      exact row_end T dig r (by omega) h2
    · rename_i h3
      exact h3
theorem num_le {T : xT} {p : Nat} (h : lx_kind T p = 2) : lx_num T p ≤ 99 := by
  obtain ⟨h1, h2, h3⟩ := kind_num h
  have h4 := end_le h1
  have d := lx_D_iff.mp h2
  unfold lx_num
  split
  · omega
  · rename_i h5
    have e : lx_end T p = lx_row T true (T.2 - (p + 1)) := by unfold lx_end; rw [if_pos h2]
    have h6 := row_all T true (T.2 - (p + 1)) (p + 1) (by omega) (by omega) (by omega)
    simp only [Bool.true_eq_false, false_and, or_false] at h6
    have d2 := lx_D_iff.mp h6
    omega
def lx_pos (T : xT) : Nat → Nat
  | 0 => lx_skip T T.2 false
  | k + 1 => lx_nx T (lx_pos T k)
theorem pos_le (T : xT) (k : Nat) : lx_pos T k ≤ T.2 := by
  cases k with
  | zero => exact (skip_le T _ _ (by omega)).2
  | succ k => exact nx_le T _
theorem pos_ge (T : xT) : ∀ k, lx_pos T k < T.2 → k ≤ lx_pos T k
  | 0, _ => by omega
  | k + 1, h => by
    have h1 := pos_le T k
    simp only [lx_pos] at h ⊢
    by_cases q : lx_pos T k < T.2
    · have := pos_ge T k q
      have := nx_gt q
      omega
    · unfold lx_nx at h
      rw [if_neg q] at h
      omega
/-- what the class holds for a word -/
def lx_val (T : xT) (p : Nat) : Int64 := if T.2 ≤ p then lN 0 else if lx_D (T.1 p) = true then lN (lx_num T p) else if lx_L (T.1 p) = true then pk (lx_nm T p) else lN (T.1 p)
theorem val_nm {T : xT} {p : Nat} (h : lx_kind T p = 0 ∨ lx_kind T p = 1) : lx_val T p = pk (lx_nm T p) := by
  have q := kind_nm h
  unfold lx_val
  rw [if_neg (by omega), if_neg (by simp [q.2.1]), if_pos q.2.2.1]
theorem val_num {T : xT} {p : Nat} (h : lx_kind T p = 2) : lx_val T p = lN (lx_num T p) := by
  have q := kind_num h
  unfold lx_val
  rw [if_neg (by omega), if_pos q.2.1]
theorem val_sign {T : xT} {p : Nat} (h : lx_kind T p = 3) : lx_val T p = lN (T.1 p) := by
  have q := kind_sign h
  unfold lx_val
  rw [if_neg (by omega), if_neg (by simp [q.2.1]), if_neg (by simp [q.2.2.1])]
theorem sp_is_iff {T : xT} {c p : Nat} : sp_is T c p = true ↔ lx_kind T p = 3 ∧ T.1 p = c := by simp [sp_is]
