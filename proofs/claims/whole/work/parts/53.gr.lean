/-! ===== rings and chains of a relation E below n ===== -/
def gr_cnt (S : Nat → Bool) : Nat → Nat
  | 0 => 0
  | n + 1 => gr_cnt S n + if S n = true then 1 else 0
theorem cnt_le {S S' : Nat → Bool} : ∀ n : Nat, (∀ k, k < n → S' k = true → S k = true) → gr_cnt S' n ≤ gr_cnt S n
  | 0, _ => Nat.le_refl _
  | n + 1, h => by
    have h1 := cnt_le n (fun k hk => h k (by omega))
    have h2 := h n (by omega)
    simp only [gr_cnt]
    split <;> split <;> simp_all <;> omega
theorem cnt_lt {S S' : Nat → Bool} : ∀ n : Nat, (∀ k, k < n → S' k = true → S k = true) → ∀ j, j < n → S j = true → S' j = false → gr_cnt S' n < gr_cnt S n
  | 0, _, j, hj, _, _ => by omega
  | n + 1, h, j, hj, h1, h2 => by
    simp only [gr_cnt]
    by_cases e : j = n
    · subst e
      have := cnt_le j (fun k hk => h k (by omega))
      simp [h1, h2]; omega
    · have h3 := cnt_lt n (fun k hk => h k (by omega)) j (by omega) h1 h2
      have h4 := h n (by omega)
      split <;> split <;> simp_all <;> omega
theorem cnt_n (S : Nat → Bool) : ∀ n : Nat, gr_cnt S n ≤ n
  | 0 => Nat.le_refl _
  | n + 1 => by
    have := cnt_n S n
    simp only [gr_cnt]
    split <;> omega
/-- j is reached from k within t steps, at least one -/
def gr_lv (E : Nat → Nat → Bool) (n k : Nat) : Nat → Nat → Bool
  | 0, _ => false
  | t + 1, j => gr_lv E n k t j || (List.range n).any fun i => (decide (i = k) || gr_lv E n k t i) && E i j
theorem lv_succ {E : Nat → Nat → Bool} {n k t j : Nat} : gr_lv E n k (t + 1) j = true ↔ gr_lv E n k t j = true ∨ ∃ i, i < n ∧ (i = k ∨ gr_lv E n k t i = true) ∧ E i j = true := by
  simp only [gr_lv, Bool.or_eq_true, List.any_eq_true, List.mem_range, Bool.and_eq_true, decide_eq_true_eq]
theorem lv_mono {E : Nat → Nat → Bool} {n k j t : Nat} (h : gr_lv E n k t j = true) : ∀ s, gr_lv E n k (t + s) j = true
  | 0 => h
  | s + 1 => lv_succ.mpr (Or.inl (lv_mono h s))
theorem lv_le {E : Nat → Nat → Bool} {n k j t s : Nat} (h : gr_lv E n k t j = true) (hs : t ≤ s) : gr_lv E n k s j = true := by
  have := lv_mono h (s - t)
  rwa [show t + (s - t) = s by omega] at this
def gr_R (E : Nat → Nat → Bool) (n k j : Nat) : Prop := ∃ t, gr_lv E n k t j = true
theorem gr_R.one {E : Nat → Nat → Bool} {n k j : Nat} (hk : k < n) (h : E k j = true) : gr_R E n k j := ⟨1, lv_succ.mpr (Or.inr ⟨k, hk, Or.inl rfl, h⟩)⟩
theorem gr_R.trans {E : Nat → Nat → Bool} {n k i j : Nat} (hi : i < n) (h1 : gr_R E n k i) (h2 : gr_R E n i j) : gr_R E n k j := by
  obtain ⟨s, hs⟩ := h2
  induction s generalizing j with
  | zero => simp [gr_lv] at hs
  | succ s ih =>
    rcases lv_succ.mp hs with q | ⟨u, hu, q1, q2⟩
    · exact ih q
    · have h3 : gr_R E n k u := by
        rcases q1 with e | e
        · rw [e]; exact h1
        · exact ih e
      obtain ⟨t, ht⟩ := h3
      exact ⟨t + 1, lv_succ.mpr (Or.inr ⟨u, hu, Or.inr ht, q2⟩)⟩
theorem lv_stab {E : Nat → Nat → Bool} {n k t : Nat} (h : ∀ j, j < n → gr_lv E n k (t + 1) j = gr_lv E n k t j) : ∀ s j, j < n → gr_lv E n k (t + s) j = gr_lv E n k t j
  | 0, j, _ => rfl
  | s + 1, j, hj => by
    have ih := lv_stab h s
    rw [← h j hj]
    show gr_lv E n k (t + s + 1) j = _
    rw [Bool.eq_iff_iff, lv_succ, lv_succ]
    constructor
    · rintro (q | ⟨i, hi, q1, q2⟩)
      · exact Or.inl (by rw [← ih j hj]; exact q)
      · exact Or.inr ⟨i, hi, q1.imp id (fun z => by rw [← ih i hi]; exact z), q2⟩
    · rintro (q | ⟨i, hi, q1, q2⟩)
      · exact Or.inl (by rw [ih j hj]; exact q)
      · exact Or.inr ⟨i, hi, q1.imp id (fun z => by rw [ih i hi]; exact z), q2⟩
theorem lv_n {E : Nat → Nat → Bool} {n k j : Nat} (hj : j < n) (h : gr_R E n k j) : gr_lv E n k n j = true := by
  have ex : ∃ t, t ≤ n ∧ ∀ j, j < n → gr_lv E n k (t + 1) j = gr_lv E n k t j := by
    apply Classical.byContradiction
    intro hno
    have key : ∀ t, t ≤ n + 1 → gr_cnt (fun i => !gr_lv E n k t i) n + t ≤ n := by
      intro t
      induction t with
      | zero => intro _; have := cnt_n (fun i => !gr_lv E n k 0 i) n; omega
      | succ t ih =>
        intro ht
        have h1 := ih (by omega)
        have h2 : ∃ j, j < n ∧ gr_lv E n k (t + 1) j ≠ gr_lv E n k t j := by
          apply Classical.byContradiction
          intro h3
          refine hno ⟨t, by omega, fun j hj => ?_⟩
          apply Classical.byContradiction
          intro h4
          exact h3 ⟨j, hj, h4⟩
        obtain ⟨j, hj, h3⟩ := h2
        have h4 : gr_lv E n k t j = false := by
          cases e : gr_lv E n k t j with
          | false => rfl
          | true => exact absurd (by rw [e]; exact lv_le e (by omega)) h3
        have h5 : gr_lv E n k (t + 1) j = true := by
          cases e : gr_lv E n k (t + 1) j with
          | true => rfl
          | false => exact absurd (by rw [e, h4]) h3
        have := cnt_lt (S := fun i => !gr_lv E n k t i) (S' := fun i => !gr_lv E n k (t + 1) i) n (fun i hi q => by
          cases e : gr_lv E n k t i with
          | false => rfl
          | true => simp [lv_le e (Nat.le_succ t)] at q) j hj (by simp [h4]) (by simp [h5])
        omega
    have := key (n + 1) (Nat.le_refl _)
    omega
  obtain ⟨t, ht, hs⟩ := ex
  obtain ⟨s, h⟩ := h
  by_cases e : s ≤ n
  · exact lv_le h e
  · have := lv_stab hs (s - t) j hj
    rw [show t + (s - t) = s by omega, h] at this
    exact lv_le this.symm ht
theorem lv_8 {E : Nat → Nat → Bool} {n k j : Nat} (hj : j < n) (hn : n ≤ 8) : gr_lv E n k 8 j = true ↔ gr_R E n k j :=
  ⟨fun h => ⟨8, h⟩, fun h => lv_le (lv_n hj h) hn⟩
/-- the class's way -/
def gr_W (E : Nat → Nat → Bool) : Nat → Nat → Nat → Bool
  | 0, k, j => E k j
  | t + 1, k, j => gr_W E t k j || (gr_W E t k t && gr_W E t t j)
theorem W_succ {E : Nat → Nat → Bool} {t k j : Nat} : gr_W E (t + 1) k j = true ↔ gr_W E t k j = true ∨ (gr_W E t k t = true ∧ gr_W E t t j = true) := by
  simp only [gr_W, Bool.or_eq_true, Bool.and_eq_true]
theorem W_sound {E : Nat → Nat → Bool} {n : Nat} : ∀ (t k j : Nat), t ≤ n → k < n → gr_W E t k j = true → gr_R E n k j
  | 0, k, j, _, hk, h => gr_R.one hk h
  | t + 1, k, j, ht, hk, h => by
    rcases W_succ.mp h with q | ⟨q1, q2⟩
    · exact W_sound t k j (by omega) hk q
    · exact (W_sound t k t (by omega) hk q1).trans (by omega) (W_sound t t j (by omega) (by omega) q2)
theorem W_tr {E : Nat → Nat → Bool} : ∀ (t i k j : Nat), i < t → gr_W E t k i = true → gr_W E t i j = true → gr_W E t k j = true
  | 0, i, k, j, h, _, _ => by omega
  | t + 1, i, k, j, h, h1, h2 => by
    rw [W_succ] at h1 h2 ⊢
    by_cases e : i = t
    · subst e
      have a : gr_W E i k i = true := by rcases h1 with q | q; exact q; exact q.1
      have b : gr_W E i i j = true := by rcases h2 with q | q; exact q; exact q.2
      exact Or.inr ⟨a, b⟩
    · have hi : i < t := by omega
      rcases h1 with q | ⟨q1, q2⟩ <;> rcases h2 with r | ⟨r1, r2⟩
      · exact Or.inl (W_tr t i k j hi q r)
      · exact Or.inr ⟨W_tr t i k t hi q r1, r2⟩
      · exact Or.inr ⟨q1, W_tr t i t j hi q2 r⟩
      · exact Or.inr ⟨q1, r2⟩
theorem W_0 {E : Nat → Nat → Bool} {k j : Nat} (h : E k j = true) : ∀ t, gr_W E t k j = true
  | 0 => h
  | t + 1 => W_succ.mpr (Or.inl (W_0 h t))
theorem W_iff {E : Nat → Nat → Bool} {n k j : Nat} (hk : k < n) : gr_W E n k j = true ↔ gr_R E n k j := by
  constructor
  · exact W_sound n k j (Nat.le_refl _) hk
  · rintro ⟨t, h⟩
    induction t generalizing j with
    | zero => simp [gr_lv] at h
    | succ t ih =>
      rcases lv_succ.mp h with q | ⟨i, hi, q1, q2⟩
      · exact ih q
      · rcases q1 with e | e
        · rw [e] at q2; exact W_0 q2 n
        · exact W_tr n i k j hi (ih e) (W_0 q2 n)
/-- a chain of r steps begins at k -/
def gr_C (E : Nat → Nat → Bool) (n : Nat) : Nat → Nat → Bool
  | 0, _ => true
  | r + 1, k => (List.range n).any fun j => E k j && gr_C E n r j
theorem C_succ {E : Nat → Nat → Bool} {n r k : Nat} : gr_C E n (r + 1) k = true ↔ ∃ j, j < n ∧ E k j = true ∧ gr_C E n r j = true := by
  simp only [gr_C, List.any_eq_true, List.mem_range, Bool.and_eq_true]
theorem C_mono {E : Nat → Nat → Bool} {n : Nat} : ∀ (r k : Nat), gr_C E n (r + 1) k = true → gr_C E n r k = true
  | 0, _, _ => rfl
  | r + 1, k, h => by
    obtain ⟨j, hj, h1, h2⟩ := C_succ.mp h
    exact C_succ.mpr ⟨j, hj, h1, C_mono r j h2⟩
/-- without rings some element of a list reaches no other of it -/
theorem gr_max {E : Nat → Nat → Bool} {n : Nat} (ha : ∀ k, k < n → ¬ gr_R E n k k) : ∀ L : List Nat, (∀ a ∈ L, a < n) → L ≠ [] → ∃ a ∈ L, ∀ b ∈ L, ¬ gr_R E n a b
  | [], _, h => absurd rfl h
  | a :: L, hL, _ => by
    by_cases e : L = []
    · subst e
      exact ⟨a, List.mem_cons_self, fun b hb => by rw [List.mem_singleton.mp hb]; exact ha a (hL a List.mem_cons_self)⟩
    · obtain ⟨m, hm, h1⟩ := gr_max ha L (fun b hb => hL b (List.mem_cons_of_mem _ hb)) e
      by_cases q : gr_R E n m a
      · refine ⟨a, List.mem_cons_self, fun b hb z => ?_⟩
        rcases List.mem_cons.mp hb with w | w
        · rw [w] at z; exact ha a (hL a List.mem_cons_self) z
        · exact h1 b w (q.trans (hL a List.mem_cons_self) z)
      · refine ⟨m, List.mem_cons_of_mem _ hm, fun b hb z => ?_⟩
        rcases List.mem_cons.mp hb with w | w
        · rw [w] at z; exact q z
        · exact h1 b w z
theorem C_n {E : Nat → Nat → Bool} {n : Nat} (ha : ∀ k, k < n → ¬ gr_R E n k k) : ∀ k, k < n → gr_C E n n k = false := by
  have key : ∀ r, (∃ k, k < n ∧ gr_C E n r k = true) → gr_cnt (gr_C E n r) n + r ≤ n := by
    intro r
    induction r with
    | zero => intro _; have := cnt_n (gr_C E n 0) n; omega
    | succ r ih =>
      rintro ⟨k, hk, h⟩
      have h1 := ih ⟨k, hk, C_mono r k h⟩
      obtain ⟨a, h2, h3⟩ := gr_max ha ((List.range n).filter (gr_C E n r)) (fun b hb => by
        have := List.mem_filter.mp hb
        exact List.mem_range.mp this.1) (fun z => by
        have : k ∈ (List.range n).filter (gr_C E n r) := List.mem_filter.mpr ⟨List.mem_range.mpr hk, C_mono r k h⟩
        rw [z] at this
        simp at this)
      have h4 := List.mem_filter.mp h2
      have h5 := List.mem_range.mp h4.1
      have h6 : gr_C E n (r + 1) a = false := by
        cases e : gr_C E n (r + 1) a with
        | false => rfl
        | true =>
          obtain ⟨j, hj, q1, q2⟩ := C_succ.mp e
          exact absurd (gr_R.one h5 q1) (h3 j (List.mem_filter.mpr ⟨List.mem_range.mpr hj, q2⟩))
      have := cnt_lt (S := gr_C E n r) (S' := gr_C E n (r + 1)) n (fun i _ q => C_mono r i q) a h5 h4.2 h6
      omega
  intro k hk
  cases e : gr_C E n n k with
  | false => rfl
  | true =>
    have h1 := key n ⟨k, hk, e⟩
    have h2 := cnt_lt (S := gr_C E n n) (S' := fun _ => false) n (fun _ _ q => by simp at q) k hk e rfl
    omega
/-- v is the most of b j + 1 over the j behind k, 0 if there is none -/
def gr_M (E : Nat → Nat → Bool) (n : Nat) (b : Nat → Nat) (k v : Nat) : Prop := (∀ j, j < n → E k j = true → b j + 1 ≤ v) ∧ (v = 0 ∨ ∃ j, j < n ∧ E k j = true ∧ v = b j + 1)
theorem gr_M.uniq {E : Nat → Nat → Bool} {n : Nat} {b b' : Nat → Nat} {k v v' : Nat} (h : gr_M E n b k v) (h' : gr_M E n b' k v') (hb : ∀ j, j < n → E k j = true → b j = b' j) : v = v' := by
  obtain ⟨h1, h2⟩ := h
  obtain ⟨h3, h4⟩ := h'
  have a : v ≤ v' := by
    rcases h2 with q | ⟨j, hj, q1, q2⟩
    · omega
    · have := h3 j hj q1; have := hb j hj q1; omega
  have b : v' ≤ v := by
    rcases h4 with q | ⟨j, hj, q1, q2⟩
    · omega
    · have := h1 j hj q1; have := hb j hj q1; omega
  omega
theorem gr_M.mono {E : Nat → Nat → Bool} {n : Nat} {b b' : Nat → Nat} {k v v' : Nat} (h : gr_M E n b k v) (h' : gr_M E n b' k v') (hb : ∀ j, j < n → E k j = true → b j ≤ b' j) : v ≤ v' := by
  rcases h.2 with q | ⟨j, hj, q1, q2⟩
  · omega
  · have := h'.1 j hj q1; have := hb j hj q1; omega
theorem gr_M.ex (E : Nat → Nat → Bool) (b : Nat → Nat) (k : Nat) : ∀ n, ∃ v, gr_M E n b k v
  | 0 => ⟨0, fun j hj => by omega, Or.inl rfl⟩
  | n + 1 => by
    obtain ⟨v, h1, h2⟩ := gr_M.ex E b k n
    by_cases e : E k n = true
    · refine ⟨max v (b n + 1), fun j hj q => ?_, ?_⟩
      · by_cases z : j = n
        · subst z; omega
        · have := h1 j (by omega) q; omega
      · by_cases z : v ≤ b n + 1
        · exact Or.inr ⟨n, by omega, e, by omega⟩
        · rcases h2 with q | ⟨j, hj, q1, q2⟩
          · omega
          · exact Or.inr ⟨j, by omega, q1, by omega⟩
    · refine ⟨v, fun j hj q => ?_, ?_⟩
      · by_cases z : j = n
        · subst z; exact absurd q e
        · exact h1 j (by omega) q
      · rcases h2 with q | ⟨j, hj, q1, q2⟩
        · exact Or.inl q
        · exact Or.inr ⟨j, by omega, q1, q2⟩
noncomputable def gr_H (E : Nat → Nat → Bool) (n : Nat) : Nat → Nat → Nat
  | 0, _ => 0
  | r + 1, k => Classical.choose (gr_M.ex E (gr_H E n r) k n)
theorem H_M (E : Nat → Nat → Bool) (n r k : Nat) : gr_M E n (gr_H E n r) k (gr_H E n (r + 1) k) := Classical.choose_spec (gr_M.ex E (gr_H E n r) k n)
theorem H_st {E : Nat → Nat → Bool} {n : Nat} : ∀ (r k : Nat), gr_C E n r k = false → gr_H E n r k = gr_H E n (r + 1) k
  | 0, k, h => by simp [gr_C] at h
  | r + 1, k, h => by
    refine (H_M E n r k).uniq (H_M E n (r + 1) k) (fun j hj q => H_st r j ?_)
    cases e : gr_C E n r j with
    | false => rfl
    | true => rw [C_succ.mpr ⟨j, hj, q, e⟩] at h; cases h
theorem H_lt {E : Nat → Nat → Bool} {n : Nat} : ∀ (r s k : Nat), gr_C E n r k = false → gr_H E n s k < r
  | 0, s, k, h => by simp [gr_C] at h
  | r + 1, 0, k, h => by simp [gr_H]
  | r + 1, s + 1, k, h => by
    rcases (H_M E n s k).2 with q | ⟨j, hj, q1, q2⟩
    · omega
    · have := H_lt r s j (by
        cases e : gr_C E n r j with
        | false => rfl
        | true => rw [C_succ.mpr ⟨j, hj, q1, e⟩] at h; cases h)
      omega
/-- how long chains are -/
noncomputable def gr_D (E : Nat → Nat → Bool) (n k : Nat) : Nat := gr_H E n n k
theorem D_M {E : Nat → Nat → Bool} {n : Nat} (ha : ∀ k, k < n → ¬ gr_R E n k k) {k : Nat} (hk : k < n) : gr_M E n (gr_D E n) k (gr_D E n k) := by
  have := H_M E n n k
  rw [← H_st n k (C_n ha k hk)] at this
  exact this
theorem D_lt {E : Nat → Nat → Bool} {n : Nat} (ha : ∀ k, k < n → ¬ gr_R E n k k) {k : Nat} (hk : k < n) : gr_D E n k < n := H_lt n n k (C_n ha k hk)
theorem D_dec {E : Nat → Nat → Bool} {n : Nat} (ha : ∀ k, k < n → ¬ gr_R E n k k) {k j : Nat} (hk : k < n) (hj : j < n) (h : E k j = true) : gr_D E n j < gr_D E n k := by
  have := (D_M ha hk).1 j hj h
  omega
