/-! ===== a name as a long ===== -/
def uN (x : Int64) : Nat := x.toUInt64.toNat
theorem uN_lt (x : Int64) : uN x < 18446744073709551616 := x.toUInt64.toNat_lt
theorem uN_inj {x y : Int64} (h : uN x = uN y) : x = y := congrArg UInt64.toInt64 (UInt64.toNat_inj.mp h)
theorem uN_shr (x : Int64) (s : UInt64) : uN (x.toUInt64 >>> s).toInt64 = uN x / 2 ^ (s.toNat % 64) := by
  show (x.toUInt64 >>> s).toNat = _
  rw [UInt64.toNat_shiftRight, Nat.shiftRight_eq_div_pow]
  rfl
theorem uN_sk (x : Int64) {k : Nat} (hk : k < 64) : uN (x.toUInt64 >>> ((nI k).toInt64.toUInt64 &&& Int64.toUInt64 63)).toInt64 = uN x / 2 ^ k := by
  have h : ((nI k).toInt64.toUInt64 &&& Int64.toUInt64 63).toNat % 64 = k := by
    rw [nI_l (by omega), UInt64.toNat_and]
    have e : (lN k).toUInt64.toNat = k % 2 ^ 64 := rfl
    have e2 : (Int64.toUInt64 63).toNat = 2 ^ 6 - 1 := by decide
    rw [e, e2, Nat.and_two_pow_sub_one_eq_mod]
    omega
  rw [uN_shr, h]
theorem uN_lN {n : Nat} (h : n < 2 ^ 64) : uN (lN n) = n := by
  have e : uN (lN n) = n % 2 ^ 64 := rfl
  rw [e]
  exact Nat.mod_eq_of_lt h
theorem uN_or (x y : Int64) : uN (x ||| y) = uN x ||| uN y := UInt64.toNat_or _ _
theorem uN_amt : ∀ s : Fin 64, (((nI s.1).toInt64 &&& 63).toBitVec.smod 64).toNat = s.1 := by decide +kernel
theorem uN_shl (x : Int64) {s : Nat} (hs : s < 64) : uN (x <<< ((nI s).toInt64 &&& 63)) = (uN x * 2 ^ s) % 18446744073709551616 := by
  show (x.toBitVec <<< (((nI s).toInt64 &&& 63).toBitVec.smod 64).toNat).toNat = _
  rw [uN_amt ⟨s, hs⟩, BitVec.toNat_shiftLeft, Nat.shiftLeft_eq]
  rfl
theorem uN_chr {c : Nat} (h : c < 2 ^ 31) : uN (nI c).toInt64 = c := by
  rw [nI_l h]
  exact uN_lN (by omega)
def pkn : Nat → List Nat → Nat
  | 0, _ => 0
  | _ + 1, [] => 0
  | k + 1, c :: l => c * 256 ^ k + pkn k l
def pk (l : List Nat) : Int64 := lN (pkn 8 l)
theorem pkn_nil (k : Nat) : pkn k [] = 0 := by cases k <;> rfl
theorem pkn_lt : ∀ (k : Nat) (l : List Nat), (∀ c ∈ l, c < 256) → pkn k l < 256 ^ k
  | 0, _, _ => by simp [pkn]
  | k + 1, [], _ => by simp [pkn]; exact Nat.pow_pos (by omega)
  | k + 1, c :: l, h => by
    have h1 := pkn_lt k l (fun x hx => h x (List.mem_cons_of_mem _ hx))
    have h2 := h c List.mem_cons_self
    have h3 : (c + 1) * 256 ^ k ≤ 256 * 256 ^ k := Nat.mul_le_mul_right _ (by omega)
    rw [Nat.add_mul] at h3
    simp only [pkn, Nat.pow_succ]
    omega
theorem pkn_at : ∀ (k i : Nat) (l : List Nat), (∀ c ∈ l, c < 256) → i < k → pkn k l / 256 ^ (k - 1 - i) % 256 = l.getD i 0
  | 0, _, _, _, hi => by omega
  | k + 1, i, [], _, _ => by simp [pkn]
  | k + 1, 0, c :: l, h, _ => by
    have h1 := pkn_lt k l (fun x hx => h x (List.mem_cons_of_mem _ hx))
    have h2 := h c List.mem_cons_self
    have e : k + 1 - 1 - 0 = k := by omega
    rw [e]
    simp only [pkn, List.getD_cons_zero]
    rw [Nat.add_comm, Nat.add_mul_div_right _ _ (Nat.pow_pos (by omega)), Nat.div_eq_of_lt h1]
    omega
  | k + 1, i + 1, c :: l, h, hi => by
    have ih := pkn_at k i l (fun x hx => h x (List.mem_cons_of_mem _ hx)) (by omega)
    have e : k + 1 - 1 - (i + 1) = k - 1 - i := by omega
    rw [e]
    simp only [pkn, List.getD_cons_succ]
    have e2 : c * 256 ^ k = (c * 256 ^ i * 256) * 256 ^ (k - 1 - i) := by
      rw [Nat.mul_assoc, Nat.mul_assoc, ← Nat.pow_succ', ← Nat.pow_add]
      congr 2
      omega
    rw [e2, Nat.add_comm, Nat.add_mul_div_right _ _ (Nat.pow_pos (by omega)), Nat.add_mul_mod_self_right, ih]
theorem pkn_snoc : ∀ (k : Nat) (l : List Nat) (c : Nat), l.length < k → pkn k (l ++ [c]) = pkn k l + c * 256 ^ (k - 1 - l.length) ∧ 256 ^ (k - l.length) ∣ pkn k l
  | 0, _, _, h => by omega
  | k + 1, [], c, _ => by simp [pkn, pkn_nil]
  | k + 1, d :: l, c, h => by
    obtain ⟨h1, h2⟩ := pkn_snoc k l c (by simpa using h)
    constructor
    · simp only [List.cons_append, pkn, h1, List.length_cons]
      have e : k + 1 - 1 - (l.length + 1) = k - 1 - l.length := by omega
      rw [e]; omega
    · simp only [pkn, List.length_cons]
      have e : k + 1 - (l.length + 1) = k - l.length := by omega
      rw [e]
      refine Nat.dvd_add (Nat.dvd_trans ?_ (Nat.dvd_mul_left _ _)) h2
      exact Nat.pow_dvd_pow _ (by omega)
/-- one character more -/
theorem pk_snoc {l : List Nat} {c : Nat} (hl : l.length < 8) (h : ∀ x ∈ l, x < 128) (hc : c < 128) : pk l ||| ((nI c).toInt64 <<< ((nI (56 - 8 * l.length)).toInt64 &&& 63)) = pk (l ++ [c]) := by
  have hb : ∀ x ∈ l ++ [c], x < 256 := by
    intro x hx
    rcases List.mem_append.mp hx with q | q
    · have := h x q; omega
    · cases List.mem_singleton.mp q; omega
  obtain ⟨e1, e2⟩ := pkn_snoc 8 l c hl
  have l1 := pkn_lt 8 (l ++ [c]) hb
  have l2 := pkn_lt 8 l (fun x hx => by have := h x hx; omega)
  have p8 : (256 : Nat) ^ 8 = 18446744073709551616 := by decide
  have es : 2 ^ (56 - 8 * l.length) = 256 ^ (8 - 1 - l.length) := by
    have : (256 : Nat) = 2 ^ 8 := by decide
    rw [this, ← Nat.pow_mul]
    congr 1
    omega
  apply uN_inj
  unfold pk
  rw [uN_or, uN_lN (by omega), uN_lN (by omega), uN_shl _ (by omega), uN_chr (by omega), es, e1]
  have hlt : c * 256 ^ (8 - 1 - l.length) < 256 ^ (8 - l.length) := by
    have e3 : 8 - l.length = (8 - 1 - l.length) + 1 := by omega
    rw [e3, Nat.pow_succ, Nat.mul_comm]
    exact Nat.mul_lt_mul_of_pos_left (by omega) (Nat.pow_pos (by omega))
  have hle : 256 ^ (8 - l.length) ≤ 256 ^ 8 := Nat.pow_le_pow_right (by omega) (by omega)
  rw [Nat.mod_eq_of_lt (by omega)]
  obtain ⟨d, hd⟩ := e2
  have e4 : 256 ^ (8 - l.length) = 2 ^ (8 * (8 - l.length)) := by
    have : (256 : Nat) = 2 ^ 8 := by decide
    rw [this, ← Nat.pow_mul]
  rw [hd]
  rw [e4] at hlt ⊢
  exact (Nat.two_pow_add_eq_or_of_lt hlt _).symm
/-- letters of a name: 1 to 127 -/
def nm_ok (l : List Nat) : Prop := l.length ≤ 8 ∧ ∀ c ∈ l, 0 < c ∧ c < 128
theorem x_and255 (x : Int64) : (Int64.toInt32 x) &&& 255 = nI (uN x % 256) := by
  have e : ((Int64.toInt32 x) &&& 255).toBitVec.toNat = uN x % 256 := by
    have e1 : ((Int64.toInt32 x) &&& 255).toBitVec = (x.toBitVec.setWidth 32) &&& 255#32 := by
      rw [Int32.toBitVec_and, Int64.toBitVec_toInt32]
      first | rfl | (rw [BitVec.signExtend_eq_setWidth_of_le _ (by decide)]; rfl)
    rw [e1, BitVec.toNat_and, BitVec.toNat_setWidth]
    have e2 : (255#32).toNat = 2 ^ 8 - 1 := by decide
    rw [e2, Nat.and_two_pow_sub_one_eq_mod]
    have e3 : x.toBitVec.toNat = uN x := rfl
    rw [e3]
    omega
  apply Int32.toBitVec_inj.mp
  apply BitVec.eq_of_toNat_eq
  rw [e]
  have e4 : (nI (uN x % 256)).toBitVec.toNat = (uN x % 256) % 2 ^ 32 := rfl
  rw [e4]
  omega
theorem pk_letter {l : List Nat} (h : ∀ c ∈ l, c < 128) {i : Nat} (hi : i < 8) : (Int64.toInt32 (UInt64.toInt64 (Int64.toUInt64 (pk l) >>> (Int64.toUInt64 (Int32.toInt64 (nI (56 - 8 * i))) &&& Int64.toUInt64 63)))) &&& nI 255 = nI (l.getD i 0) := by
  have hb : ∀ c ∈ l, c < 256 := fun c hc => by have := h c hc; omega
  have q := x_and255 (UInt64.toInt64 (Int64.toUInt64 (pk l) >>> (Int64.toUInt64 (Int32.toInt64 (nI (56 - 8 * i))) &&& Int64.toUInt64 63)))
  have l2 := pkn_lt 8 l hb
  have p8 : (256 : Nat) ^ 8 = 18446744073709551616 := by decide
  have es : 2 ^ (56 - 8 * i) = 256 ^ (8 - 1 - i) := by
    have : (256 : Nat) = 2 ^ 8 := by decide
    rw [this, ← Nat.pow_mul]
    congr 1
    omega
  rw [uN_sk _ (by omega)] at q
  have e5 : uN (pk l) = pkn 8 l := uN_lN (by omega)
  rw [e5, es, pkn_at 8 i l hb hi] at q
  exact q
theorem pk_inj {l m : List Nat} (hl : nm_ok l) (hm : nm_ok m) (h : pk l = pk m) : l = m := by
  have hb : ∀ c ∈ l, c < 256 := fun c hc => by have := hl.2 c hc; omega
  have hc : ∀ c ∈ m, c < 256 := fun c hc => by have := hm.2 c hc; omega
  have l1 := pkn_lt 8 l hb
  have l2 := pkn_lt 8 m hc
  have p8 : (256 : Nat) ^ 8 = 18446744073709551616 := by decide
  have e : pkn 8 l = pkn 8 m := by
    have := congrArg uN h
    unfold pk at this
    rwa [uN_lN (by omega), uN_lN (by omega)] at this
  have g : ∀ i, l.getD i 0 = m.getD i 0 := by
    intro i
    by_cases hi : i < 8
    · rw [← pkn_at 8 i l hb hi, ← pkn_at 8 i m hc hi, e]
    · have h1 := hl.1
      have h2 := hm.1
      rw [List.getD_eq_getElem?_getD, List.getD_eq_getElem?_getD, List.getElem?_eq_none (by omega), List.getElem?_eq_none (by omega)]
  apply List.ext_getElem?
  intro i
  have gi := g i
  simp only [List.getD_eq_getElem?_getD] at gi
  cases h1 : l[i]? with
  | none =>
    cases h2 : m[i]? with
    | none => rfl
    | some b =>
      have := hm.2 b (List.mem_of_getElem? h2)
      simp [h1, h2] at gi
      omega
  | some a =>
    cases h2 : m[i]? with
    | none =>
      have := hl.2 a (List.mem_of_getElem? h1)
      simp [h1, h2] at gi
      omega
    | some b => simp [h1, h2] at gi; rw [gi]
theorem pk_iff {l m : List Nat} (hl : nm_ok l) (hm : nm_ok m) : pk l = pk m ↔ l = m := ⟨pk_inj hl hm, fun h => by rw [h]⟩
theorem lg_cmp0 (x y : Int64) : (lg_cmp x y = nI 0) = (x = y) := by
  unfold lg_cmp
  by_cases h : x = y
  · subst h
    simp [lit_nI]
  · by_cases h2 : x > y
    · simp [h, h2]; decide
    · simp [h, h2]; decide
