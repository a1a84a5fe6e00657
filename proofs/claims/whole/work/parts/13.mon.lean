/-! ===== the words that functions over the state are made of ===== -/
/-- what a run of such a function fixes: fuel for loops, how many cells and slots there may be, the first address that may be written, the String constants' addresses -/
abbrev xP : Type := Nat × Nat × Nat × Nat × (Nat → Nat)
def xP.N (P : xP) : Nat := P.1
def xP.lim (P : xP) : Nat := P.2.1
def xP.slim (P : xP) : Nat := P.2.2.1
def xP.base (P : xP) : Nat := P.2.2.2.1
def xP.ad (P : xP) : Nat → Nat := P.2.2.2.2
/-- none: it goes wrong here; else the answer, or the class that is thrown, and the state -/
abbrev xO (α : Type) : Type := Option ((α ⊕ String) × xS)
def x_let {α β : Type} (a : α) (k : α → β) : β := k a
def x_chk {α : Type} (c : Prop) [Decidable c] (k : xO α) : xO α := if c then k else none
def x_some {α : Type} (a : Option Nat) (k : Nat → xO α) : xO α := match a with
  | none => none
  | some a => k a
def x_bind {α β : Type} (o : xO α) (k : α → xS → xO β) (kx : String → xS → xO β) : xO β := match o with
  | none => none
  | some (.inl v, σ) => k v σ
  | some (.inr E, σ) => kx E σ
abbrev x_in (i : Int32) (n : Nat) : Prop := ¬ (i < 0 ∨ n ≤ i.toNatClampNeg)
abbrev x_bool (v : Int32) : Prop := v = 0 ∨ v = 1
abbrev x_char (v : Int32) : Prop := v = (v.toUInt32 % 65536).toInt32
def x_kb (σ : xS) (x : Option Nat) (k : Nat) : Bool := match x with
  | none => true
  | some a => decide (σ.K a = k)
abbrev x_kind (σ : xS) (x : Option Nat) (k : Nat) : Prop := x_kb σ x k = true
theorem x_kind_e {σ : xS} {x : Option Nat} {k : Nat} (h : x_kind σ x k) : ∀ v, x = some v → σ.K v = k := by
  intro v hv
  subst hv
  exact of_decide_eq_true h
theorem x_let_e {α β : Type} {a : α} {k : α → Option β} {o : Option β} (h : x_let a k = o) : ∃ v, v = a ∧ k v = o := ⟨a, rfl, h⟩
theorem x_chk_e {α : Type} {c : Prop} [Decidable c] {k : xO α} {o : (α ⊕ String) × xS} (h : x_chk c k = some o) : c ∧ k = some o := by
  unfold x_chk at h
  by_cases hc : c
  · rw [if_pos hc] at h; exact ⟨hc, h⟩
  · rw [if_neg hc] at h; cases h
theorem x_some_e {α : Type} {a : Option Nat} {k : Nat → xO α} {o : (α ⊕ String) × xS} (h : x_some a k = some o) : ∃ v, a = some v ∧ k v = some o := by
  cases a with
  | none => cases h
  | some v => exact ⟨v, rfl, h⟩
theorem x_bind_e {α β : Type} {o : xO α} {k : α → xS → xO β} {kx : String → xS → xO β} {z : (β ⊕ String) × xS} (h : x_bind o k kx = some z) : (∃ v σ, o = some (.inl v, σ) ∧ k v σ = some z) ∨ ∃ E σ, o = some (.inr E, σ) ∧ kx E σ = some z := by
  cases o with
  | none => cases h
  | some q =>
    obtain ⟨q, σ⟩ := q
    cases q with
    | inl v => exact Or.inl ⟨v, σ, rfl, h⟩
    | inr E => exact Or.inr ⟨E, σ, rfl, h⟩
theorem x_boolN {v : Int32} (h : x_bool v) : narrow .boolean (.int v) = .int v := by
  rcases h with rfl | rfl <;> rfl
theorem x_boolF {v : Int32} (h : x_bool v) : fits .boolean (.int v) = true := by
  rcases h with rfl | rfl <;> rfl
theorem x_charN {v : Int32} (h : x_char v) : narrow .char (.int v) = .int v := by
  have h2 := pk_nc v
  unfold x_char at h
  rw [← h] at h2
  exact h2
theorem x_refN {C : FieldType} (x : Option Nat) : narrow C (va_rf x) = va_rf x := by cases x <;> cases C <;> rfl
theorem x_refF {C : String} (x : Option Nat) : fits (.object C) (va_rf x) = true := by cases x <;> rfl
theorem x_refFA {C : FieldType} (x : Option Nat) : fits (.array C) (va_rf x) = true := by cases x <;> rfl
theorem x_sw {x : Int32} (n : Nat) (h : ∀ k : Nat, k ≤ n → ¬ x = Int32.ofNat k) (hn : n < 2 ^ 31 := by decide) : x.toInt < 0 ∨ (n : Int) < x.toInt := by
  by_cases h0 : x.toInt < 0
  · exact Or.inl h0
  · by_cases h1 : (n : Int) < x.toInt
    · exact Or.inr h1
    · exfalso
      refine h x.toInt.toNat (by omega) ?_
      apply Int32.toInt_inj.mp
      have q := nI_toInt (n := x.toInt.toNat) (by omega)
      unfold nI at q
      rw [q]
      omega
theorem x_via {A B : Prop} (f : A → B) (a : A) : B := f a
def xrI (r : Int32 ⊕ String) : xR := match r with
  | .inl v => .inl (some (.int v))
  | .inr E => .inr E
def xrJ (r : Int64 ⊕ String) : xR := match r with
  | .inl v => .inl (some (.long v))
  | .inr E => .inr E
def xrR (r : Option Nat ⊕ String) : xR := match r with
  | .inl v => .inl (some (va_rf v))
  | .inr E => .inr E
def xrV (r : Unit ⊕ String) : xR := match r with
  | .inl _ => .inl none
  | .inr E => .inr E
/-- what the JDK's own statics hold at the law's start -/
def x_STAT (G : xG) : Prop := va_Z "java/lang/String" "COMPACT_STRINGS" "Z" (.int 1) G.A G.s0 G.s0.heap ∧ va_Zq "jdk/internal/util/Preconditions" "SIOOBE_FORMATTER" "Ljava/util/function/BiFunction;" G.A G.s0 G.s0.heap
/-- the two of a run fit -/
def x_PG (P : xP) (G : xG) : Prop := x_STAT G ∧ P.lim = G.lim ∧ P.slim = G.slim ∧ P.base = G.base ∧ ∀ q ∈ x_strs, vk_R q.1 q.2.1 q.2.2.1 (P.ad q.2.2.2) G.s0
section XSTR
variable {l : Launch} {G : xG} {M M' : xM} {P : xP} {pc index b : Nat} {lv : List (Nat × Value)} {st rest As : List Value} {σ σ' : xS} {r : xR}
theorem ev_ldcS {q : String × Nat × String × Nat} (hP : x_PG P G) (hq : q ∈ x_strs) (ho : q.1 = M.y.cls) (hd : decode M.code pc = .ok (.ldc q.2.1, 2)) (h : Ev l G M (pc + 2) lv (va_rf (some (P.ad q.2.2.2)) :: st) σ r σ') : Ev l G M pc lv st σ r σ' := by
  intro p e R s m args below meth c H locs ls C0 hl hH hS
  obtain ⟨hx, hb, -, -, hown, -, -, -, hW, -, -, hO, -⟩ := id C0
  have hR := hP.2.2.2.2 q hq
  rw [ho] at hR
  exact va_ldcS hx hb hown (vk_R.warm hW hR) hd (h p e R s m args below meth c H locs ls C0 hl hH hS)
theorem x_linkStr (hK : σ.K b = 13) (hl : Cond.methodLink M.y.cls index M'.y ∈ wG) (hi : Cond.instanceMethod M'.y ∈ wG) (hs : Cond.selects "java/lang/String" M'.y M'.y ∈ wG) (hw : M'.word ∈ lw_tbl) (hg : goodWord M'.word = true) (hy : M'.y.cls ≠ "java/lang/invoke/MethodHandle" ∧ M'.y.cls ≠ "java/lang/invoke/VarHandle")
    (hn : (parseMethodDescriptor M'.y.desc).map (fun d => d.parameters.length) = some As.length) (hst : st = As.reverse ++ va_rf (some b) :: rest) (hd : decode M.code pc = .ok (.invokevirtual index, 3)) : xLink l M G M'.y pc st rest (va_rf (some b) :: As) σ := by
  intro p e R s m args below meth c H locs ls cells slots T0 C0 hH hT X
  obtain ⟨hx, hb, hml, hrt, hown, hlk, -, htb, hW, -, -, hO, -⟩ := id C0
  have hts := x_hts (args := args) hO hW
  obtain ⟨v9, b9, hO9, -⟩ := hH.2.2.2.2.2.1 b hK
  obtain ⟨cellB, hcB, hoB, hclB, hA9⟩ := va_O.moved hW.alike (hO9.kept (H1 := H) (fun q _ hA => hH.2.2.2.1 q (Nat.not_le.mp hA)))
  obtain ⟨mk, methM, hnamed, hmethM, hstM, habM⟩ := Cond.instanceMethod_spec (hts _ hi)
  obtain ⟨methM', cM, hmethM', -, -, -, -, -, -, hsigM⟩ := x_word hnamed (x_wG (args := args) hO hW hw hg)
  cases hmethM.symm.trans hmethM'
  obtain ⟨c2, r2, m2, q1, q2, q3, q4, kP, hkP, hkPi⟩ := Cond.selects_spec (hts _ hs)
  cases hclB.symm.trans q1
  cases (State.methodFound?_of_named hnamed hy).symm.trans q2
  cases hnamed.symm.trans q3
  have hselP : selectMethod e.platform s.vm cellB.cls mk = .method mk := by rw [Launch.admits_selectMethod X.admits]; exact q4
  have hlen : As.length = methM.sig.parameters.length := by rw [hsigM] at hn; exact (Option.some.inj hn).symm
  obtain ⟨vm₁, X₁, hstep₁⟩ := X.invokevirtual hx hown (hts _ hl) hnamed hmethM hstM hkP hkPi hy (a := b) (cell := cellB) (by rw [hT]; exact hcB)
    (fun z h => by rw [h] at hoB; cases hoB) hselP hmethM habM hkP hkPi (g := F0 m pc ls st) rfl (argsL := As) (rest := rest) hlen hst (by rw [hb]; exact hd)
  exact ⟨mk, vm₁, hnamed, X₁, hstep₁⟩
end XSTR
section XCALL
variable {l : Launch} {G : xG} {M M' : xM} {pc : Nat} {lv : List (Nat × Value)} {st rest av : List Value} {σ σ' σ1 : xS} {r r1 : xR}
def xCall (l : Launch) (G : xG) (M : xM) (pc : Nat) (st rest : List Value) (σ : xS) (r1 : xR) (σ1 : xS) : Prop :=
  ∀ (lv : List (Nat × Value)) (r : xR) (σ' : xS), (∀ v, r1 = .inl v → Ev l G M (pc + 3) lv (v.toList ++ rest) σ1 r σ') → (∀ E, r1 = .inr E → EvX l G M pc lv rest σ1 E r σ') → Ev l G M pc lv st σ r σ'
theorem x_call {ig : Instr} (hL : xLink l M G M'.y pc st rest av σ) (hM : EvM l G M' av σ r1 σ1) (hw : M'.word ∈ lw_tbl) (hg : goodWord M'.word = true) (hi : Cond.initialized M'.y.cls ∈ wG) (hd : decode M.code pc = .ok (ig, 3)) (hfr : M'.fr + 1 ≤ M.fr) (hlo : 8 + (M'.maxL + 11) + M'.lo ≤ M.lo) (hst : (rest.map fun v => v.category).sum ≤ 8) : xCall l G M pc st rest σ r1 σ1 :=
  fun _ _ _ h hX => ev_call hL hM hw hg hi hd hfr hlo hst h hX
theorem x_callR {v : Option Value} (hC : xCall l G M pc st rest σ (.inl v) σ1) (h : Ev l G M (pc + 3) lv (v.toList ++ rest) σ1 r σ') : Ev l G M pc lv st σ r σ' :=
  hC lv r σ' (fun v' e => by cases e; exact h) (fun E e => by cases e)
theorem x_callX {E : String} (hC : xCall l G M pc st rest σ (.inr E) σ1) (h : EvX l G M pc lv rest σ1 E r σ') : Ev l G M pc lv st σ r σ' :=
  hC lv r σ' (fun v' e => by cases e) (fun E' e => by cases e; exact h)
end XCALL
theorem x_lenI {av : List Value} {n : Nat} (h : (av.map fun v => v.category).sum ≤ n) : (lg_sl av).length ≤ n := by
  refine Nat.le_trans (Nat.le_of_eq ?_) h
  induction av with
  | nil => rfl
  | cons v t ih =>
    have hc := lv_cat v
    have e : lg_sl (v :: t) = (if v.category = 2 then [.val v, .second] else [.val v]) ++ lg_sl t := rfl
    rw [e, List.length_append, ih (Nat.le_trans (by simp) h), List.map_cons, List.sum_cons]
    rcases hc with hc | hc <;> simp [hc]
theorem x_catI (v : Int32) : (Value.int v).category = 1 := rfl
theorem x_catJ (v : Int64) : (Value.long v).category = 2 := rfl
