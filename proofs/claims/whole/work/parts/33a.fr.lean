/-! ===== frames ===== -/
/-- nothing at a has changed -/
def Sm (σ σ' : xS) (a : Nat) : Prop := σ'.K a = σ.K a ∧ σ'.L a = σ.L a ∧ (∀ f, σ'.I f a = σ.I f a) ∧ (∀ f, σ'.J f a = σ.J f a) ∧ (∀ f, σ'.R f a = σ.R f a) ∧ (∀ i, σ'.AI a i = σ.AI a i) ∧ (∀ i, σ'.AJ a i = σ.AJ a i) ∧ (∀ i, σ'.AR a i = σ.AR a i)
theorem Sm.refl (σ : xS) (a : Nat) : Sm σ σ a := ⟨rfl, rfl, fun _ => rfl, fun _ => rfl, fun _ => rfl, fun _ => rfl, fun _ => rfl, fun _ => rfl⟩
theorem Sm.trans {σ σ' σ'' : xS} {a : Nat} (h : Sm σ σ' a) (h2 : Sm σ' σ'' a) : Sm σ σ'' a :=
  ⟨h2.1.trans h.1, h2.2.1.trans h.2.1, fun f => (h2.2.2.1 f).trans (h.2.2.1 f), fun f => (h2.2.2.2.1 f).trans (h.2.2.2.1 f), fun f => (h2.2.2.2.2.1 f).trans (h.2.2.2.2.1 f), fun f => (h2.2.2.2.2.2.1 f).trans (h.2.2.2.2.2.1 f), fun f => (h2.2.2.2.2.2.2.1 f).trans (h.2.2.2.2.2.2.1 f), fun f => (h2.2.2.2.2.2.2.2 f).trans (h.2.2.2.2.2.2.2 f)⟩
/-- cells and slots that were taken -/
def Us (σ σ' : xS) (c : Nat) : Prop := σ.sz ≤ σ'.sz ∧ σ'.sz ≤ σ.sz + c ∧ σ'.su ≤ σ.su + 20 * c
/-- there is room for n cells -/
def Rm (P : xP) (σ : xS) (n : Nat) : Prop := σ.sz + n ≤ P.lim ∧ σ.su + 20 * n ≤ P.slim
theorem Us.refl (σ : xS) : Us σ σ 0 := ⟨Nat.le_refl _, Nat.le_refl _, Nat.le_refl _⟩
theorem Us.trans {σ σ' σ'' : xS} {c d e : Nat} (h : Us σ σ' c) (h2 : Us σ' σ'' d) (he : c + d ≤ e := by omega) : Us σ σ'' e := by
  obtain ⟨a1, a2, a3⟩ := h; obtain ⟨b1, b2, b3⟩ := h2
  exact ⟨by omega, by omega, by omega⟩
theorem Rm.us {P : xP} {σ σ' : xS} {n c d : Nat} (h : Rm P σ n) (h2 : Us σ σ' c) (hd : d + c ≤ n := by omega) : Rm P σ' d := by
  obtain ⟨a1, a2⟩ := h; obtain ⟨b1, b2, b3⟩ := h2
  exact ⟨by omega, by omega⟩
theorem Rm.mono {P : xP} {σ : xS} {n d : Nat} (h : Rm P σ n) (hd : d ≤ n := by omega) : Rm P σ d := by
  obtain ⟨a1, a2⟩ := h
  exact ⟨by omega, by omega⟩
theorem Rm.chk {P : xP} {σ : xS} {n : Nat} (h : Rm P σ n) (k s : Nat) (hk : k ≤ n) (hs : s ≤ 20 * n) : (σ.sz + k ≤ P.lim ∧ σ.su + s ≤ P.slim) = True := by
  obtain ⟨a1, a2⟩ := h
  exact eq_true ⟨by omega, by omega⟩
/-- below h nothing has changed but the cursor on the words; c cells were taken -/
def Fr (P : xP) (h c : Nat) (σ σ' : xS) : Prop := (∀ a, a < h → a ≠ P.base + 1 → Sm σ σ' a) ∧
  (σ'.K (P.base + 1) = σ.K (P.base + 1) ∧ (∀ f, f ≠ 906 → σ'.I f (P.base + 1) = σ.I f (P.base + 1)) ∧ (∀ f, σ'.R f (P.base + 1) = σ.R f (P.base + 1))) ∧ Us σ σ' c
theorem Fr.refl (P : xP) (h : Nat) (σ : xS) : Fr P h 0 σ σ := ⟨fun a _ _ => Sm.refl σ a, ⟨rfl, fun _ _ => rfl, fun _ => rfl⟩, Us.refl σ⟩
theorem Fr.trans {P : xP} {h h' c d e : Nat} {σ σ' σ'' : xS} (f : Fr P h c σ σ') (g : Fr P h' d σ' σ'') (hh : h ≤ h' := by omega) (he : c + d ≤ e := by omega) : Fr P h e σ σ'' :=
  ⟨fun a ha hb => (f.1 a ha hb).trans (g.1 a (by omega) hb), ⟨g.2.1.1.trans f.2.1.1, fun k hk => (g.2.1.2.1 k hk).trans (f.2.1.2.1 k hk), fun k => (g.2.1.2.2 k).trans (f.2.1.2.2 k)⟩, f.2.2.trans g.2.2 he⟩
theorem Fr.mono {P : xP} {h h' c e : Nat} {σ σ' : xS} (f : Fr P h c σ σ') (hh : h' ≤ h := by omega) (he : c ≤ e := by omega) : Fr P h' e σ σ' := by
  refine ⟨fun a ha hb => f.1 a (by omega) hb, f.2.1, ?_⟩
  obtain ⟨a1, a2, a3⟩ := f.2.2
  exact ⟨by omega, by omega, by omega⟩
theorem Fr.set906 (P : xP) (h : Nat) (σ : xS) (v : Int32) : Fr P h 0 σ (σ.setI 906 (P.base + 1) v) := by
  refine ⟨fun a _ hb => ⟨rfl, rfl, fun f => ?_, fun _ => rfl, fun _ => rfl, fun _ => rfl, fun _ => rfl, fun _ => rfl⟩, ⟨rfl, fun f hf => ?_, fun _ => rfl⟩, Us.refl _⟩
  · exact x_up2_a hb
  · exact x_up2_k hf
theorem Fr.skip (P : xP) {h : Nat} {σ : xS} (hh : h ≤ σ.sz) (hb : P.base + 1 < σ.sz) {n : Nat} (hn : n ≤ 20) : Fr P h 1 σ (σ.skip n) := by
  refine ⟨fun a ha _ => ⟨?_, rfl, fun f => rfl, fun _ => rfl, fun _ => rfl, fun _ => rfl, fun _ => rfl, fun _ => rfl⟩, ⟨?_, fun f hf => rfl, fun _ => rfl⟩, ⟨?_, ?_, ?_⟩⟩
  · rw [K_skip]; simp only [va_up]; exact if_neg (by omega)
  · rw [K_skip]; simp only [va_up]; exact if_neg (by omega)
  · rw [sz_skip]; omega
  · rw [sz_skip]; omega
  · rw [su_skip]; omega
theorem Fr.newO (P : xP) {h : Nat} {σ : xS} (hh : h ≤ σ.sz) (hb : P.base + 1 < σ.sz) {k n : Nat} (hn : n ≤ 20) : Fr P h 1 σ (σ.newO k n) := by
  refine ⟨fun a ha _ => ⟨?_, rfl, fun f => ?_, fun f => ?_, fun f => ?_, fun _ => rfl, fun _ => rfl, fun _ => rfl⟩, ⟨?_, fun f hf => ?_, fun f => ?_⟩, ⟨?_, ?_, ?_⟩⟩
  · rw [K_newO]; simp only [va_up]; exact if_neg (by omega)
  · rw [I_newO]; exact if_neg (by omega)
  · rw [J_newO]; exact if_neg (by omega)
  · rw [R_newO]; exact if_neg (by omega)
  · rw [K_newO]; simp only [va_up]; exact if_neg (by omega)
  · rw [I_newO]; exact if_neg (by omega)
  · rw [R_newO]; exact if_neg (by omega)
  · rw [sz_newO]; omega
  · rw [sz_newO]; omega
  · rw [su_newO]; omega
theorem Fr.newA (P : xP) {h : Nat} {σ : xS} (hh : h ≤ σ.sz) (hb : P.base + 1 < σ.sz) {k n : Nat} (hn : n ≤ 20) : Fr P h 1 σ (σ.newA k n) := by
  refine ⟨fun a ha _ => ⟨?_, ?_, fun f => rfl, fun f => rfl, fun f => rfl, fun i => ?_, fun i => ?_, fun i => ?_⟩, ⟨?_, fun f hf => rfl, fun f => rfl⟩, ⟨?_, ?_, ?_⟩⟩
  · rw [K_newA]; simp only [va_up]; exact if_neg (by omega)
  · rw [L_newA]; simp only [va_up]; exact if_neg (by omega)
  · rw [AI_newA]; exact if_neg (by omega)
  · rw [AJ_newA]; exact if_neg (by omega)
  · rw [AR_newA]; exact if_neg (by omega)
  · rw [K_newA]; simp only [va_up]; exact if_neg (by omega)
  · rw [sz_newA]; omega
  · rw [sz_newA]; omega
  · rw [su_newA]; omega
theorem Fr.setI {P : xP} {h a : Nat} (σ : xS) (ha : h ≤ a) (hb : P.base + 1 < a) (k : Nat) (v : Int32) : Fr P h 0 σ (σ.setI k a v) := by
  refine ⟨fun b hb' _ => ⟨rfl, rfl, fun f => ?_, fun _ => rfl, fun _ => rfl, fun _ => rfl, fun _ => rfl, fun _ => rfl⟩, ⟨rfl, fun f hf => ?_, fun _ => rfl⟩, Us.refl _⟩
  · exact x_up2_a (by omega)
  · exact x_up2_a (by omega)
theorem Fr.setJ {P : xP} {h a : Nat} (σ : xS) (ha : h ≤ a) (hb : P.base + 1 < a) (k : Nat) (v : Int64) : Fr P h 0 σ (σ.setJ k a v) := by
  refine ⟨fun b hb' _ => ⟨rfl, rfl, fun _ => rfl, fun f => ?_, fun _ => rfl, fun _ => rfl, fun _ => rfl, fun _ => rfl⟩, ⟨rfl, fun f hf => rfl, fun _ => rfl⟩, Us.refl _⟩
  · exact x_up2_a (by omega)
theorem Fr.setR {P : xP} {h a : Nat} (σ : xS) (ha : h ≤ a) (hb : P.base + 1 < a) (k : Nat) (v : Option Nat) : Fr P h 0 σ (σ.setR k a v) := by
  refine ⟨fun b hb' _ => ⟨rfl, rfl, fun _ => rfl, fun _ => rfl, fun f => ?_, fun _ => rfl, fun _ => rfl, fun _ => rfl⟩, ⟨rfl, fun f hf => rfl, fun f => ?_⟩, Us.refl _⟩
  · exact x_up2_a (by omega)
  · exact x_up2_a (by omega)
theorem Fr.setAR {P : xP} {h a : Nat} (σ : xS) (ha : h ≤ a) (hb : P.base + 1 < a) (k : Nat) (v : Option Nat) : Fr P h 0 σ (σ.setAR a k v) := by
  refine ⟨fun b hb' _ => ⟨rfl, rfl, fun _ => rfl, fun _ => rfl, fun f => rfl, fun _ => rfl, fun _ => rfl, fun i => ?_⟩, ⟨rfl, fun f hf => rfl, fun f => rfl⟩, Us.refl _⟩
  · exact x_up2_k (by omega)
theorem CS.sm {P : xP} {σ σ' : xS} (h : CS P σ) (f : ∀ a, a < P.base → Sm σ σ' a) : CS P σ' := by
  refine ⟨h.1, fun q hq => ?_⟩
  obtain ⟨h1, h2, h3, h4⟩ := h.2 q hq
  have g := f _ h4
  exact ⟨g.1.trans h1, g.2.1.trans h2, fun j hj => (g.2.2.2.2.2.1 j).trans (h3 j hj), h4⟩
theorem CI.fr {P : xP} {h c : Nat} {σ σ' : xS} (hh : P.base + 9 ≤ h) (f : Fr P h c σ σ') (C : CI P σ) : CI P σ' := by
  have k : ∀ j, j < 9 → σ'.K (P.base + j) = σ.K (P.base + j) := by
    intro j hj
    by_cases e : j = 1
    · subst e; exact f.2.1.1
    · exact (f.1 _ (by omega) (by omega)).1
  have l : ∀ j, j < 9 → j ≠ 1 → σ'.L (P.base + j) = σ.L (P.base + j) := fun j hj e => (f.1 _ (by omega) (by omega)).2.1
  have r : ∀ g j, j < 9 → σ'.R g (P.base + j) = σ.R g (P.base + j) := by
    intro g j hj
    by_cases e : j = 1
    · subst e; exact f.2.1.2.2 g
    · exact (f.1 _ (by omega) (by omega)).2.2.2.2.1 g
  have k0 := k 0 (by omega)
  have r0 := fun g => r g 0 (by omega)
  simp only [Nat.add_zero] at k0 r0
  unfold CI
  rw [k0, r0, r0, r0, r0, k 1 (by omega), r _ 1 (by omega), r _ 1 (by omega), r _ 1 (by omega), r _ 1 (by omega), k 2 (by omega), l 2 (by omega) (by omega), k 3 (by omega), l 3 (by omega) (by omega), k 4 (by omega), l 4 (by omega) (by omega), k 5 (by omega), l 5 (by omega) (by omega), k 6 (by omega), r _ 6 (by omega), k 7 (by omega), r _ 7 (by omega), k 8 (by omega)]
  refine ⟨ci_0 C, ci_1 C, ci_2 C, ci_3 C, ci_4 C, ci_5 C, ci_6 C, ci_7 C, ci_8 C, ci_9 C, ci_10 C, ci_11 C, ci_12 C, ci_13 C, ci_14 C, ci_15 C, ci_16 C, ci_17 C, ci_18 C, ci_19 C, ci_20 C, ci_21 C, ci_22 C, (ci_s C).sm fun a ha => f.1 a (by omega) (by omega)⟩
