/-! ===== the pure part: numbers ===== -/
theorem lit_nI (k : Nat) : (@OfNat.ofNat Int32 k _) = nI (@OfNat.ofNat Nat k _) := rfl
theorem nI_mul (a b : Nat) : nI a * nI b = nI (a * b) := by
  unfold nI; simp
theorem nI_sub {a b : Nat} (h : b ≤ a) : nI a - nI b = nI (a - b) := by
  have e : a = (a - b) + b := by omega
  have q : nI a = nI (a - b) + nI b := by rw [nI_add]; exact congrArg nI e
  rw [q]
  simp
def nN : Int32 := -1
theorem nN_e : -nI 1 = nN := rfl
theorem nI_nN {a : Nat} (h : a < 2 ^ 31) : (nI a = nN) = False := by
  apply eq_false
  intro e
  have q := congrArg Int32.toInt e
  rw [nI_toInt h] at q
  have q2 : nN.toInt = -1 := by decide
  omega
theorem nN_nI {a : Nat} (h : a < 2 ^ 31) : (nN = nI a) = False := by
  apply eq_false
  intro e
  have := nI_nN h
  rw [← e] at this
  simp at this
def bI (b : Bool) : Int32 := if b then nI 1 else nI 0
theorem bI_n (b : Bool) : x_bool (bI b) = True := by
  cases b <;> simp [x_bool, bI, nI] <;> decide
theorem bI_0 (b : Bool) : (bI b = nI 0) = (b = false) := by
  cases b
  · simp [bI]
  · simp [bI]; decide
theorem bI_1 (b : Bool) : (bI b = nI 1) = (b = true) := by
  cases b
  · simp [bI]; decide
  · simp [bI]
theorem bI_t : nI 1 = bI true := rfl
theorem bI_f : nI 0 = bI false := rfl
theorem bool_0 : x_bool (nI 0) = True := eq_true (Or.inl rfl)
theorem bool_1 : x_bool (nI 1) = True := eq_true (Or.inr rfl)
theorem in_T {k n : Nat} (h : k < n) (h2 : k < 2 ^ 31) : x_in (nI k) n = True := by
  apply eq_true
  unfold x_in
  rw [nI_clamp h2, not_or]
  exact ⟨nI_pos h2, by omega⟩
theorem dlt_T {a b : Nat} (h : a < b) : (a < b) = True := eq_true h
theorem dlt_F {a b : Nat} (h : b ≤ a) : (a < b) = False := eq_false (by omega)
theorem dle_T {a b : Nat} (h : a ≤ b) : (a ≤ b) = True := eq_true h
theorem dle_F {a b : Nat} (h : b < a) : (a ≤ b) = False := eq_false (by omega)
theorem deq_F {a b : Nat} (h : a < b ∨ b < a) : (a = b) = False := eq_false (by omega)
theorem bI_tt : bI true = nI 1 := rfl
theorem bI_ff : bI false = nI 0 := rfl
theorem ofN_nI (n : Nat) : Int32.ofNat n = nI n := rfl
