/-! ===== the law: what a call of one side leaves to the other ===== -/
theorem RI.sm {P : xP} {σ σ' : xS} (r : RI P σ) (s : ∀ a, P.base + 11 ≤ a → a < P.base + 43 → Sm σ σ' a) (k43 : σ'.K (P.base + 43) = 42) (l43 : σ'.L (P.base + 43) = 1) : RI P σ' := by
  have k : ∀ j, 11 ≤ j → j < 43 → σ'.K (P.base + j) = σ.K (P.base + j) := fun j h1 h2 => (s _ (by omega) (by omega)).1
  have l : ∀ j, 11 ≤ j → j < 43 → σ'.L (P.base + j) = σ.L (P.base + j) := fun j h1 h2 => (s _ (by omega) (by omega)).2.1
  have h : ∀ j, 11 ≤ j → j < 43 → ∀ f, σ'.R f (P.base + j) = σ.R f (P.base + j) := fun j h1 h2 => (s _ (by omega) (by omega)).2.2.2.2.1
  exact ⟨(k 11 (by omega) (by omega)).trans (ri_0 r), (h 11 (by omega) (by omega) 1101).trans (ri_1 r), (k 12 (by omega) (by omega)).trans (ri_2 r), (l 12 (by omega) (by omega)).trans (ri_3 r), (h 11 (by omega) (by omega) 1104).trans (ri_4 r), (k 13 (by omega) (by omega)).trans (ri_5 r), (l 13 (by omega) (by omega)).trans (ri_6 r), (h 11 (by omega) (by omega) 1105).trans (ri_7 r), (k 14 (by omega) (by omega)).trans (ri_8 r), (l 14 (by omega) (by omega)).trans (ri_9 r), (h 11 (by omega) (by omega) 1106).trans (ri_10 r), (k 15 (by omega) (by omega)).trans (ri_11 r), (l 15 (by omega) (by omega)).trans (ri_12 r), (h 11 (by omega) (by omega) 1107).trans (ri_13 r), (k 16 (by omega) (by omega)).trans (ri_14 r), (l 16 (by omega) (by omega)).trans (ri_15 r), (h 11 (by omega) (by omega) 1108).trans (ri_16 r), (k 17 (by omega) (by omega)).trans (ri_17 r), (l 17 (by omega) (by omega)).trans (ri_18 r), (h 11 (by omega) (by omega) 1109).trans (ri_19 r), (k 18 (by omega) (by omega)).trans (ri_20 r), (l 18 (by omega) (by omega)).trans (ri_21 r), (h 11 (by omega) (by omega) 1110).trans (ri_22 r), (k 19 (by omega) (by omega)).trans (ri_23 r), (l 19 (by omega) (by omega)).trans (ri_24 r), (h 11 (by omega) (by omega) 1111).trans (ri_25 r), (k 20 (by omega) (by omega)).trans (ri_26 r), (l 20 (by omega) (by omega)).trans (ri_27 r), (h 11 (by omega) (by omega) 1112).trans (ri_28 r), (k 21 (by omega) (by omega)).trans (ri_29 r), (l 21 (by omega) (by omega)).trans (ri_30 r), (h 11 (by omega) (by omega) 1113).trans (ri_31 r), (k 22 (by omega) (by omega)).trans (ri_32 r), (l 22 (by omega) (by omega)).trans (ri_33 r), (h 11 (by omega) (by omega) 1114).trans (ri_34 r), (k 23 (by omega) (by omega)).trans (ri_35 r), (l 23 (by omega) (by omega)).trans (ri_36 r), (h 11 (by omega) (by omega) 1115).trans (ri_37 r), (k 24 (by omega) (by omega)).trans (ri_38 r), (l 24 (by omega) (by omega)).trans (ri_39 r), (h 11 (by omega) (by omega) 1116).trans (ri_40 r), (k 25 (by omega) (by omega)).trans (ri_41 r), (l 25 (by omega) (by omega)).trans (ri_42 r), (h 11 (by omega) (by omega) 1117).trans (ri_43 r), (k 26 (by omega) (by omega)).trans (ri_44 r), (l 26 (by omega) (by omega)).trans (ri_45 r), (h 11 (by omega) (by omega) 1118).trans (ri_46 r), (k 27 (by omega) (by omega)).trans (ri_47 r), (l 27 (by omega) (by omega)).trans (ri_48 r), (h 11 (by omega) (by omega) 1119).trans (ri_49 r), (k 28 (by omega) (by omega)).trans (ri_50 r), (l 28 (by omega) (by omega)).trans (ri_51 r), (h 11 (by omega) (by omega) 1120).trans (ri_52 r), (k 29 (by omega) (by omega)).trans (ri_53 r), (l 29 (by omega) (by omega)).trans (ri_54 r), (h 11 (by omega) (by omega) 1121).trans (ri_55 r), (k 30 (by omega) (by omega)).trans (ri_56 r), (l 30 (by omega) (by omega)).trans (ri_57 r), (h 11 (by omega) (by omega) 1122).trans (ri_58 r), (k 31 (by omega) (by omega)).trans (ri_59 r), (l 31 (by omega) (by omega)).trans (ri_60 r), (h 11 (by omega) (by omega) 1123).trans (ri_61 r), (k 32 (by omega) (by omega)).trans (ri_62 r), (l 32 (by omega) (by omega)).trans (ri_63 r), (h 11 (by omega) (by omega) 1124).trans (ri_64 r), (k 33 (by omega) (by omega)).trans (ri_65 r), (l 33 (by omega) (by omega)).trans (ri_66 r), (h 11 (by omega) (by omega) 1125).trans (ri_67 r), (k 34 (by omega) (by omega)).trans (ri_68 r), (l 34 (by omega) (by omega)).trans (ri_69 r), (h 11 (by omega) (by omega) 1126).trans (ri_70 r), (k 35 (by omega) (by omega)).trans (ri_71 r), (l 35 (by omega) (by omega)).trans (ri_72 r), (h 11 (by omega) (by omega) 1127).trans (ri_73 r), (k 36 (by omega) (by omega)).trans (ri_74 r), (l 36 (by omega) (by omega)).trans (ri_75 r), (h 11 (by omega) (by omega) 1128).trans (ri_76 r), (k 37 (by omega) (by omega)).trans (ri_77 r), (l 37 (by omega) (by omega)).trans (ri_78 r), (h 11 (by omega) (by omega) 1129).trans (ri_79 r), (k 38 (by omega) (by omega)).trans (ri_80 r), (l 38 (by omega) (by omega)).trans (ri_81 r), (h 11 (by omega) (by omega) 1130).trans (ri_82 r), (k 39 (by omega) (by omega)).trans (ri_83 r), (l 39 (by omega) (by omega)).trans (ri_84 r), (h 11 (by omega) (by omega) 1131).trans (ri_85 r), (k 40 (by omega) (by omega)).trans (ri_86 r), (l 40 (by omega) (by omega)).trans (ri_87 r), (h 11 (by omega) (by omega) 1132).trans (ri_88 r), (k 41 (by omega) (by omega)).trans (ri_89 r), (l 41 (by omega) (by omega)).trans (ri_90 r), (h 11 (by omega) (by omega) 1133).trans (ri_91 r), (k 42 (by omega) (by omega)).trans (ri_92 r), (l 42 (by omega) (by omega)).trans (ri_93 r), k43, l43⟩
theorem RS.sm {P : xP} {T : xT} {ms : List xMod} {σ σ' : xS} (h : RS P T ms σ) (s : ∀ a, P.base + 11 ≤ a → a < P.base + 43 → Sm σ σ' a) (k43 : σ'.K (P.base + 43) = 42) (l43 : σ'.L (P.base + 43) = 1) : RS P T ms σ' := by
  obtain ⟨r0, hN, ⟨t1, t2, t3⟩, hv, T', lng, n, q1, q2⟩ := h
  have i11 := (s (P.base + 11) (by omega) (by omega)).2.2.1
  refine ⟨r0.sm s k43 l43, hN, ⟨t1, (i11 1102).trans t2, fun i hi => ((s (P.base + 12) (by omega) (by omega)).2.2.2.2.2.1 i).trans (t3 i hi)⟩, hv, T', lng, n, (i11 1103).trans q1, q2.oh ⟨fun _ => r0.sm s k43 l43, fun k i hk => (s (P.base + k) (by unfold iH at hk; omega) (by unfold iH at hk; omega)).2.2.2.2.2.1 i⟩⟩
theorem CI.sm {P : xP} {σ σ' : xS} (C : CI P σ) (s : ∀ a, a < P.base + 11 → Sm σ σ' a) : CI P σ' := by
  have k : ∀ a, a < P.base + 11 → σ'.K a = σ.K a := fun a h => (s a h).1
  have l : ∀ a, a < P.base + 11 → σ'.L a = σ.L a := fun a h => (s a h).2.1
  have h : ∀ a, a < P.base + 11 → ∀ f, σ'.R f a = σ.R f a := fun a h => (s a h).2.2.2.2.1
  have cs := ci_s C
  refine ⟨(k _ (by omega)).trans (ci_0 C), (h _ (by omega) 1000).trans (ci_1 C), (h _ (by omega) 1001).trans (ci_2 C), (h _ (by omega) 1002).trans (ci_3 C), (h _ (by omega) 1003).trans (ci_4 C), (k _ (by omega)).trans (ci_5 C), (h _ (by omega) 900).trans (ci_6 C), (h _ (by omega) 902).trans (ci_7 C), (h _ (by omega) 903).trans (ci_8 C), (h _ (by omega) 904).trans (ci_9 C), (k _ (by omega)).trans (ci_10 C), (l _ (by omega)).trans (ci_11 C), (k _ (by omega)).trans (ci_12 C), (l _ (by omega)).trans (ci_13 C), (k _ (by omega)).trans (ci_14 C), (l _ (by omega)).trans (ci_15 C), (k _ (by omega)).trans (ci_16 C), (l _ (by omega)).trans (ci_17 C), (k _ (by omega)).trans (ci_18 C), (h _ (by omega) 300).trans (ci_19 C), (k _ (by omega)).trans (ci_20 C), (h _ (by omega) 300).trans (ci_21 C), (k _ (by omega)).trans (ci_22 C), cs.1, fun q hq => ?_⟩
  obtain ⟨c1, c2, c3, c4⟩ := cs.2 q hq
  exact ⟨(k _ (by omega)).trans c1, (l _ (by omega)).trans c2, fun j hj => ((s _ (by omega)).2.2.2.2.2.1 j).trans (c3 j hj), c4⟩
theorem CL.sm {P : xP} {T : xT} {ms : List xMod} {σ σ' : xS} (h : CL P T ms σ) (s : ∀ a, (a < P.base + 11 ∨ P.base + 44 ≤ a) → Sm σ σ' a) (hz : σ.sz ≤ σ'.sz) : CL P T ms σ' := by
  obtain ⟨c1, c2, c3, c4, D, A, H, G, top, g1, g2, g3, g4⟩ := h
  have C := c1.sm (fun a ha => s a (Or.inl ha))
  refine ⟨C, c2, ⟨((s _ (Or.inl (by omega))).2.2.1 901).trans c3.1, fun i hi => ((s _ (Or.inl (by omega))).2.2.2.2.2.1 i).trans (c3.2 i hi)⟩, by omega, D, A, H, G, top, ((s _ (Or.inl (by omega))).2.2.2.2.1 1004).trans g1, by omega, g3, g4.sm C (fun b h1 h2 => s b (by omega))⟩
theorem FE.sm {P : xP} {σ σ' : xS} (f : FE P σ σ') (a : Nat) (h : a < P.base + 11 ∨ P.base + 43 ≤ a) : Sm σ σ' a := by
  obtain ⟨⟨f1, f2, f3, f4, f5, f6, f7, f8⟩, f9, f10⟩ := f
  exact ⟨by rw [f1], by rw [f2], fun f => f9 f a (by omega), fun f => by rw [f3], fun f => by rw [f4], fun i => f10 a i (by omega), fun i => by rw [f5], fun i => by rw [f6]⟩
theorem sub5 {len j : Nat} (h : len < 2 ^ 30) (h2 : j < 2 ^ 30) : (Int32.ofNat len - nI 5 < nI j) = (len < j + 5) := by
  apply propext
  have e1 : (Int32.ofNat len).toInt = len := nI_toInt (by omega)
  have e2 : (nI 5).toInt = 5 := by decide
  have e3 : (nI j).toInt = j := nI_toInt (by omega)
  rw [Int32.lt_iff_toInt_lt, Int32.toInt_sub, e1, e2, e3, Int.bmod_eq_of_le (by omega) (by omega)]
  omega
theorem chk_of {α : Type} {c : Prop} [Decidable c] (h : c) (k : xO α) : x_chk c k = k := if_pos h
theorem lg_same (x : Int64) : lg_cmp x x = nI 0 := by
  rw [lg_cmp0]
/-- what the law needs at any time: its script, its two sides, its place for an answer -/
def LwS (P : xP) (b len : Nat) (sc : Nat → Int32) (σ : xS) : Prop := b < P.base ∧ σ.K b = 14 ∧ σ.L b = len ∧ (∀ i, i < len → σ.AI b i = sc i) ∧ σ.K P.base = 11 ∧ σ.K (P.base + 11) = 12 ∧ σ.K (P.base + 43) = 42 ∧ σ.L (P.base + 43) = 1
theorem LwS.sm {P : xP} {b len : Nat} {sc : Nat → Int32} {σ σ' : xS} (h : LwS P b len sc σ) (hb : Sm σ σ' b) (h0 : σ'.K P.base = 11) (h1 : σ'.K (P.base + 11) = 12) (h2 : Sm σ σ' (P.base + 43)) : LwS P b len sc σ' := by
  obtain ⟨a1, a2, a3, a4, a5, a6, a7, a8⟩ := h
  exact ⟨a1, hb.1.trans a2, hb.2.1.trans a3, fun i hi => (hb.2.2.2.2.2.1 i).trans (a4 i hi), h0, h1, h2.1.trans a7, h2.2.1.trans a8⟩
/-- both sides hold the same: the tape T, the design ms -/
def LwB (P : xP) (b len : Nat) (sc : Nat → Int32) (T : xT) (ms : List xMod) (σ : xS) : Prop := LwS P b len sc σ ∧ CL P T ms σ ∧ RS P T ms σ
theorem LwB.mis {P : xP} {b len : Nat} {sc : Nat → Int32} {T : xT} {ms : List xMod} {σ : xS} (h : LwB P b len sc T ms σ) : sp_mis ms = 1001 := by
  obtain ⟨-, -, -, -, -, hv, T', lng, n, q1, q2⟩ := h
  exact q2.2.1
theorem FC.ls {P : xP} {b len c : Nat} {sc : Nat → Int32} {T : xT} {ms : List xMod} {σ σ' : xS} (h : LwS P b len sc σ) (f : FC P c σ σ') (hc : CL P T ms σ') : LwS P b len sc σ' := h.sm (f.1 b (Or.inl h.1)) (ci_0 hc.1) ((f.1 _ (Or.inr (by omega))).1.trans h.2.2.2.2.2.1) (f.1 _ (Or.inr (by omega)))
theorem FE.ls {P : xP} {b len : Nat} {sc : Nat → Int32} {σ σ' : xS} (h : LwS P b len sc σ) (f : FE P σ σ') : LwS P b len sc σ' := h.sm (f.sm b (by have := h.1; omega)) (by rw [f.1.1]; exact h.2.2.2.2.1) (by rw [f.1.1]; exact h.2.2.2.2.2.1) (f.sm _ (by omega))
/-- the class has been asked -/
theorem LwB.cls {P : xP} {b len c : Nat} {sc : Nat → Int32} {T T' : xT} {ms ms' : List xMod} {σ σ' : xS} (h : LwB P b len sc T ms σ) (f : FC P c σ σ') (hc : CL P T' ms' σ') : LwS P b len sc σ' ∧ RS P T ms σ' := ⟨FC.ls h.1 f hc, h.2.2.sm (fun a h1 h2 => f.1 a (Or.inr ⟨h1, by omega⟩)) ((f.1 _ (Or.inr (by omega))).1.trans (ri_94 h.2.2.1)) ((f.1 _ (Or.inr (by omega))).2.1.trans (ri_95 h.2.2.1))⟩
theorem CL.fe {P : xP} {T : xT} {ms : List xMod} {σ σ' : xS} (h : CL P T ms σ) (f : FE P σ σ') : CL P T ms σ' := h.sm (fun a ha => f.sm a (by omega)) (by rw [f.1.2.2.2.2.2.2.1]; exact Nat.le_refl _)
/-- the answer is put away -/
theorem aj_sm {P : xP} {σ : xS} {v : Int64} (a : Nat) (h : a ≠ P.base + 43) : Sm σ (σ.setAJ (P.base + 43) 0 v) a := ⟨rfl, rfl, fun _ => rfl, fun _ => rfl, fun _ => rfl, fun _ => rfl, fun i => up2_ne (fun z => h z.1), fun _ => rfl⟩
theorem LwS.aj {P : xP} {b len : Nat} {sc : Nat → Int32} {σ : xS} {v : Int64} (h : LwS P b len sc σ) : LwS P b len sc (σ.setAJ (P.base + 43) 0 v) := h
theorem CL.aj {P : xP} {T : xT} {ms : List xMod} {σ : xS} {v : Int64} (h : CL P T ms σ) : CL P T ms (σ.setAJ (P.base + 43) 0 v) := h.sm (fun a ha => aj_sm a (by omega)) (Nat.le_refl _)
theorem RS.aj {P : xP} {T : xT} {ms : List xMod} {σ : xS} {v : Int64} (h : RS P T ms σ) : RS P T ms (σ.setAJ (P.base + 43) 0 v) := h.sm (fun a _ _ => aj_sm a (by omega)) (ri_94 h.1) (ri_95 h.1)
/-- what a question to the class gives the law -/
def LwC (P : xP) (b len : Nat) (sc : Nat → Int32) (T : xT) (ms : List xMod) (σ : xS) (o : xO Int32) (r : Option Int32) : Prop := ∃ σ1, LwB P b len sc T ms σ1 ∧ Us σ σ1 1 ∧ match r with
  | none => o = some (.inl (nI 1), σ1)
  | some v => o = some (.inl (nI 0), σ1) ∧ σ1.AJ (P.base + 43) 0 = Int32.toInt64 v
/-- what a question to the reference gives the law -/
def LwR (P : xP) (b len : Nat) (sc : Nat → Int32) (T : xT) (ms : List xMod) (σ : xS) (o : xO Int32) (r : Option Int32) : Prop := ∃ w σ2, LwB P b len sc T ms σ2 ∧ Us σ σ2 0 ∧ σ2.AJ = σ.AJ ∧ o = some (.inl w, σ2) ∧ match r with
  | none => σ2.I 1100 (P.base + 11) = nI 1
  | some v => σ2.I 1100 (P.base + 11) = nI 0 ∧ w = v
theorem RAns.lr {P : xP} {b len : Nat} {sc : Nat → Int32} {T : xT} {ms : List xMod} {σ : xS} {o : xO Int32} {r : Option Int32} (h : LwB P b len sc T ms σ) (ha : RAns P σ o r) : LwR P b len sc T ms σ o r := by
  have up : ∀ c, LwB P b len sc T ms (tS P σ c) ∧ Us σ (tS P σ c) 0 := fun c => ⟨⟨FE.ls h.1 FE.setI, h.2.1.fe FE.setI, h.2.2.setI (by omega) (by omega)⟩, Us.refl σ⟩
  cases r with
  | none => exact ⟨_, _, (up 1).1, (up 1).2, rfl, ha, tS_I⟩
  | some v => exact ⟨_, _, (up 0).1, (up 0).2, rfl, ha, tS_I, rfl⟩

theorem lw_module {P : xP} {b len : Nat} {sc : Nat → Int32} {T T' : xT} {ms ms' : List xMod} {σ σ' : xS} {v : Int32} (p q : Int32) (h : LwB P b len sc T ms σ) (h' : LwS P b len sc σ') (e : dm_X11_module P P.base p q σ = some (.inl v, σ')) : dm_L_module P (some P.base) p q (some (P.base + 43)) σ = some (.inl (nI 0), σ'.setAJ (P.base + 43) 0 (Int32.toInt64 v)) := by
  have k0 := h.1.2.2.2.2.1
  obtain ⟨-, -, -, -, -, -, k1, k2⟩ := h'
  unfold dm_L_module
  simp (disch := first | assumption | omega) [ck_T, sm_s, bd_l, bd_r, lt_e, eq_self, and_self, if_true, true_and, and_true, lit_nI, nI_add, nI_mul, nI_sub, nI_clamp, nI_eq, nI_ltI, nI_leI, nN_e, nI_nN, nN_nI, bI_0, bI_1, bI_n, bool_0, bool_1, in_T, lg_cmp0, ofN_nI, k0, e, k1, k2, x_in, dlt_T, dle_T]
theorem lw_moduleN {P : xP} {b len : Nat} {sc : Nat → Int32} {T : xT} {ms : List xMod} {σ σ' : xS} (p q : Int32) (h : LwB P b len sc T ms σ) (e : dm_X11_module P P.base p q σ = some (.inr IOE, σ')) : dm_L_module P (some P.base) p q (some (P.base + 43)) σ = some (.inl (nI 1), σ') := by
  have k0 := h.1.2.2.2.2.1
  unfold dm_L_module
  simp (disch := first | assumption | omega) [ck_T, sm_s, bd_l, bd_r, lt_e, eq_self, and_self, if_true, true_and, and_true, lit_nI, nI_add, nI_mul, nI_sub, nI_clamp, nI_eq, nI_ltI, nI_leI, nN_e, nI_nN, nN_nI, bI_0, bI_1, bI_n, bool_0, bool_1, in_T, lg_cmp0, ofN_nI, k0, e, IOE]
theorem lc_module {P : xP} {b len : Nat} {sc : Nat → Int32} {T : xT} {ms : List xMod} {σ : xS} {o : Option Int32} (p q : Int32) (h : LwB P b len sc T ms σ) (ha : CAns P T ms σ (dm_X11_module P P.base p q σ) o) : LwC P b len sc T ms σ (dm_L_module P (some P.base) p q (some (P.base + 43)) σ) o := by
  obtain ⟨σ', c1, c2, c3⟩ := ha
  obtain ⟨s1, s2⟩ := h.cls c2 c1
  cases o with
  | none => exact ⟨σ', ⟨s1, c1, s2⟩, c2.2, lw_moduleN p q h c3⟩
  | some v => exact ⟨σ'.setAJ (P.base + 43) 0 (Int32.toInt64 v), ⟨s1.aj, c1.aj, s2.aj⟩, c2.2, lw_module (T' := T) (ms' := ms) p q h s1 c3, by simp [q_K_setI, q_I_setI, q_J_setI, q_R_setI, q_L_setI, q_AI_setI, q_AJ_setI, q_AR_setI, q_sz_setI, q_su_setI, q_K_setJ, q_I_setJ, q_J_setJ, q_R_setJ, q_L_setJ, q_AI_setJ, q_AJ_setJ, q_AR_setJ, q_sz_setJ, q_su_setJ, q_K_setR, q_I_setR, q_J_setR, q_R_setR, q_L_setR, q_AI_setR, q_AJ_setR, q_AR_setR, q_sz_setR, q_su_setR, q_K_setAI, q_I_setAI, q_J_setAI, q_R_setAI, q_L_setAI, q_AI_setAI, q_AJ_setAI, q_AR_setAI, q_sz_setAI, q_su_setAI, q_K_setAJ, q_I_setAJ, q_J_setAJ, q_R_setAJ, q_L_setAJ, q_AI_setAJ, q_AJ_setAJ, q_AR_setAJ, q_sz_setAJ, q_su_setAJ, q_K_setAR, q_I_setAR, q_J_setAR, q_R_setAR, q_L_setAR, q_AI_setAR, q_AJ_setAR, q_AR_setAR, q_sz_setAR, q_su_setAR, q_K_newO, q_I_newO, q_J_newO, q_R_newO, q_L_newO, q_AI_newO, q_AJ_newO, q_AR_newO, q_sz_newO, q_su_newO, q_K_newA, q_I_newA, q_J_newA, q_R_newA, q_L_newA, q_AI_newA, q_AJ_newA, q_AR_newA, q_sz_newA, q_su_newA, q_K_skip, q_I_skip, q_J_skip, q_R_skip, q_L_skip, q_AI_skip, q_AJ_skip, q_AR_skip, q_sz_skip, q_su_skip, q_up2, q_up]⟩
theorem lw_net {P : xP} {b len : Nat} {sc : Nat → Int32} {T T' : xT} {ms ms' : List xMod} {σ σ' : xS} {v : Int32} (p q r : Int32) (h : LwB P b len sc T ms σ) (h' : LwS P b len sc σ') (e : dm_X11_net P P.base p q r σ = some (.inl v, σ')) : dm_L_net P (some P.base) p q r (some (P.base + 43)) σ = some (.inl (nI 0), σ'.setAJ (P.base + 43) 0 (Int32.toInt64 v)) := by
  have k0 := h.1.2.2.2.2.1
  obtain ⟨-, -, -, -, -, -, k1, k2⟩ := h'
  unfold dm_L_net
  simp (disch := first | assumption | omega) [ck_T, sm_s, bd_l, bd_r, lt_e, eq_self, and_self, if_true, true_and, and_true, lit_nI, nI_add, nI_mul, nI_sub, nI_clamp, nI_eq, nI_ltI, nI_leI, nN_e, nI_nN, nN_nI, bI_0, bI_1, bI_n, bool_0, bool_1, in_T, lg_cmp0, ofN_nI, k0, e, k1, k2, x_in, dlt_T, dle_T]
theorem lw_netN {P : xP} {b len : Nat} {sc : Nat → Int32} {T : xT} {ms : List xMod} {σ σ' : xS} (p q r : Int32) (h : LwB P b len sc T ms σ) (e : dm_X11_net P P.base p q r σ = some (.inr IOE, σ')) : dm_L_net P (some P.base) p q r (some (P.base + 43)) σ = some (.inl (nI 1), σ') := by
  have k0 := h.1.2.2.2.2.1
  unfold dm_L_net
  simp (disch := first | assumption | omega) [ck_T, sm_s, bd_l, bd_r, lt_e, eq_self, and_self, if_true, true_and, and_true, lit_nI, nI_add, nI_mul, nI_sub, nI_clamp, nI_eq, nI_ltI, nI_leI, nN_e, nI_nN, nN_nI, bI_0, bI_1, bI_n, bool_0, bool_1, in_T, lg_cmp0, ofN_nI, k0, e, IOE]
theorem lc_net {P : xP} {b len : Nat} {sc : Nat → Int32} {T : xT} {ms : List xMod} {σ : xS} {o : Option Int32} (p q r : Int32) (h : LwB P b len sc T ms σ) (ha : CAns P T ms σ (dm_X11_net P P.base p q r σ) o) : LwC P b len sc T ms σ (dm_L_net P (some P.base) p q r (some (P.base + 43)) σ) o := by
  obtain ⟨σ', c1, c2, c3⟩ := ha
  obtain ⟨s1, s2⟩ := h.cls c2 c1
  cases o with
  | none => exact ⟨σ', ⟨s1, c1, s2⟩, c2.2, lw_netN p q r h c3⟩
  | some v => exact ⟨σ'.setAJ (P.base + 43) 0 (Int32.toInt64 v), ⟨s1.aj, c1.aj, s2.aj⟩, c2.2, lw_net (T' := T) (ms' := ms) p q r h s1 c3, by simp [q_K_setI, q_I_setI, q_J_setI, q_R_setI, q_L_setI, q_AI_setI, q_AJ_setI, q_AR_setI, q_sz_setI, q_su_setI, q_K_setJ, q_I_setJ, q_J_setJ, q_R_setJ, q_L_setJ, q_AI_setJ, q_AJ_setJ, q_AR_setJ, q_sz_setJ, q_su_setJ, q_K_setR, q_I_setR, q_J_setR, q_R_setR, q_L_setR, q_AI_setR, q_AJ_setR, q_AR_setR, q_sz_setR, q_su_setR, q_K_setAI, q_I_setAI, q_J_setAI, q_R_setAI, q_L_setAI, q_AI_setAI, q_AJ_setAI, q_AR_setAI, q_sz_setAI, q_su_setAI, q_K_setAJ, q_I_setAJ, q_J_setAJ, q_R_setAJ, q_L_setAJ, q_AI_setAJ, q_AJ_setAJ, q_AR_setAJ, q_sz_setAJ, q_su_setAJ, q_K_setAR, q_I_setAR, q_J_setAR, q_R_setAR, q_L_setAR, q_AI_setAR, q_AJ_setAR, q_AR_setAR, q_sz_setAR, q_su_setAR, q_K_newO, q_I_newO, q_J_newO, q_R_newO, q_L_newO, q_AI_newO, q_AJ_newO, q_AR_newO, q_sz_newO, q_su_newO, q_K_newA, q_I_newA, q_J_newA, q_R_newA, q_L_newA, q_AI_newA, q_AJ_newA, q_AR_newA, q_sz_newA, q_su_newA, q_K_skip, q_I_skip, q_J_skip, q_R_skip, q_L_skip, q_AI_skip, q_AJ_skip, q_AR_skip, q_sz_skip, q_su_skip, q_up2, q_up]⟩
theorem lw_instance {P : xP} {b len : Nat} {sc : Nat → Int32} {T T' : xT} {ms ms' : List xMod} {σ σ' : xS} {v : Int32} (p q r : Int32) (h : LwB P b len sc T ms σ) (h' : LwS P b len sc σ') (e : dm_X11_instance P P.base p q r σ = some (.inl v, σ')) : dm_L_instance P (some P.base) p q r (some (P.base + 43)) σ = some (.inl (nI 0), σ'.setAJ (P.base + 43) 0 (Int32.toInt64 v)) := by
  have k0 := h.1.2.2.2.2.1
  obtain ⟨-, -, -, -, -, -, k1, k2⟩ := h'
  unfold dm_L_instance
  simp (disch := first | assumption | omega) [ck_T, sm_s, bd_l, bd_r, lt_e, eq_self, and_self, if_true, true_and, and_true, lit_nI, nI_add, nI_mul, nI_sub, nI_clamp, nI_eq, nI_ltI, nI_leI, nN_e, nI_nN, nN_nI, bI_0, bI_1, bI_n, bool_0, bool_1, in_T, lg_cmp0, ofN_nI, k0, e, k1, k2, x_in, dlt_T, dle_T]
theorem lw_instanceN {P : xP} {b len : Nat} {sc : Nat → Int32} {T : xT} {ms : List xMod} {σ σ' : xS} (p q r : Int32) (h : LwB P b len sc T ms σ) (e : dm_X11_instance P P.base p q r σ = some (.inr IOE, σ')) : dm_L_instance P (some P.base) p q r (some (P.base + 43)) σ = some (.inl (nI 1), σ') := by
  have k0 := h.1.2.2.2.2.1
  unfold dm_L_instance
  simp (disch := first | assumption | omega) [ck_T, sm_s, bd_l, bd_r, lt_e, eq_self, and_self, if_true, true_and, and_true, lit_nI, nI_add, nI_mul, nI_sub, nI_clamp, nI_eq, nI_ltI, nI_leI, nN_e, nI_nN, nN_nI, bI_0, bI_1, bI_n, bool_0, bool_1, in_T, lg_cmp0, ofN_nI, k0, e, IOE]
theorem lc_instance {P : xP} {b len : Nat} {sc : Nat → Int32} {T : xT} {ms : List xMod} {σ : xS} {o : Option Int32} (p q r : Int32) (h : LwB P b len sc T ms σ) (ha : CAns P T ms σ (dm_X11_instance P P.base p q r σ) o) : LwC P b len sc T ms σ (dm_L_instance P (some P.base) p q r (some (P.base + 43)) σ) o := by
  obtain ⟨σ', c1, c2, c3⟩ := ha
  obtain ⟨s1, s2⟩ := h.cls c2 c1
  cases o with
  | none => exact ⟨σ', ⟨s1, c1, s2⟩, c2.2, lw_instanceN p q r h c3⟩
  | some v => exact ⟨σ'.setAJ (P.base + 43) 0 (Int32.toInt64 v), ⟨s1.aj, c1.aj, s2.aj⟩, c2.2, lw_instance (T' := T) (ms' := ms) p q r h s1 c3, by simp [q_K_setI, q_I_setI, q_J_setI, q_R_setI, q_L_setI, q_AI_setI, q_AJ_setI, q_AR_setI, q_sz_setI, q_su_setI, q_K_setJ, q_I_setJ, q_J_setJ, q_R_setJ, q_L_setJ, q_AI_setJ, q_AJ_setJ, q_AR_setJ, q_sz_setJ, q_su_setJ, q_K_setR, q_I_setR, q_J_setR, q_R_setR, q_L_setR, q_AI_setR, q_AJ_setR, q_AR_setR, q_sz_setR, q_su_setR, q_K_setAI, q_I_setAI, q_J_setAI, q_R_setAI, q_L_setAI, q_AI_setAI, q_AJ_setAI, q_AR_setAI, q_sz_setAI, q_su_setAI, q_K_setAJ, q_I_setAJ, q_J_setAJ, q_R_setAJ, q_L_setAJ, q_AI_setAJ, q_AJ_setAJ, q_AR_setAJ, q_sz_setAJ, q_su_setAJ, q_K_setAR, q_I_setAR, q_J_setAR, q_R_setAR, q_L_setAR, q_AI_setAR, q_AJ_setAR, q_AR_setAR, q_sz_setAR, q_su_setAR, q_K_newO, q_I_newO, q_J_newO, q_R_newO, q_L_newO, q_AI_newO, q_AJ_newO, q_AR_newO, q_sz_newO, q_su_newO, q_K_newA, q_I_newA, q_J_newA, q_R_newA, q_L_newA, q_AI_newA, q_AJ_newA, q_AR_newA, q_sz_newA, q_su_newA, q_K_skip, q_I_skip, q_J_skip, q_R_skip, q_L_skip, q_AI_skip, q_AJ_skip, q_AR_skip, q_sz_skip, q_su_skip, q_up2, q_up]⟩
theorem lw_joined {P : xP} {b len : Nat} {sc : Nat → Int32} {T T' : xT} {ms ms' : List xMod} {σ σ' : xS} {v : Int32} (p q r s : Int32) (h : LwB P b len sc T ms σ) (h' : LwS P b len sc σ') (e : dm_X11_joined P P.base p q r s σ = some (.inl v, σ')) : dm_L_joined P (some P.base) p q r s (some (P.base + 43)) σ = some (.inl (nI 0), σ'.setAJ (P.base + 43) 0 (Int32.toInt64 v)) := by
  have k0 := h.1.2.2.2.2.1
  obtain ⟨-, -, -, -, -, -, k1, k2⟩ := h'
  unfold dm_L_joined
  simp (disch := first | assumption | omega) [ck_T, sm_s, bd_l, bd_r, lt_e, eq_self, and_self, if_true, true_and, and_true, lit_nI, nI_add, nI_mul, nI_sub, nI_clamp, nI_eq, nI_ltI, nI_leI, nN_e, nI_nN, nN_nI, bI_0, bI_1, bI_n, bool_0, bool_1, in_T, lg_cmp0, ofN_nI, k0, e, k1, k2, x_in, dlt_T, dle_T]
theorem lw_joinedN {P : xP} {b len : Nat} {sc : Nat → Int32} {T : xT} {ms : List xMod} {σ σ' : xS} (p q r s : Int32) (h : LwB P b len sc T ms σ) (e : dm_X11_joined P P.base p q r s σ = some (.inr IOE, σ')) : dm_L_joined P (some P.base) p q r s (some (P.base + 43)) σ = some (.inl (nI 1), σ') := by
  have k0 := h.1.2.2.2.2.1
  unfold dm_L_joined
  simp (disch := first | assumption | omega) [ck_T, sm_s, bd_l, bd_r, lt_e, eq_self, and_self, if_true, true_and, and_true, lit_nI, nI_add, nI_mul, nI_sub, nI_clamp, nI_eq, nI_ltI, nI_leI, nN_e, nI_nN, nN_nI, bI_0, bI_1, bI_n, bool_0, bool_1, in_T, lg_cmp0, ofN_nI, k0, e, IOE]
theorem lc_joined {P : xP} {b len : Nat} {sc : Nat → Int32} {T : xT} {ms : List xMod} {σ : xS} {o : Option Int32} (p q r s : Int32) (h : LwB P b len sc T ms σ) (ha : CAns P T ms σ (dm_X11_joined P P.base p q r s σ) o) : LwC P b len sc T ms σ (dm_L_joined P (some P.base) p q r s (some (P.base + 43)) σ) o := by
  obtain ⟨σ', c1, c2, c3⟩ := ha
  obtain ⟨s1, s2⟩ := h.cls c2 c1
  cases o with
  | none => exact ⟨σ', ⟨s1, c1, s2⟩, c2.2, lw_joinedN p q r s h c3⟩
  | some v => exact ⟨σ'.setAJ (P.base + 43) 0 (Int32.toInt64 v), ⟨s1.aj, c1.aj, s2.aj⟩, c2.2, lw_joined (T' := T) (ms' := ms) p q r s h s1 c3, by simp [q_K_setI, q_I_setI, q_J_setI, q_R_setI, q_L_setI, q_AI_setI, q_AJ_setI, q_AR_setI, q_sz_setI, q_su_setI, q_K_setJ, q_I_setJ, q_J_setJ, q_R_setJ, q_L_setJ, q_AI_setJ, q_AJ_setJ, q_AR_setJ, q_sz_setJ, q_su_setJ, q_K_setR, q_I_setR, q_J_setR, q_R_setR, q_L_setR, q_AI_setR, q_AJ_setR, q_AR_setR, q_sz_setR, q_su_setR, q_K_setAI, q_I_setAI, q_J_setAI, q_R_setAI, q_L_setAI, q_AI_setAI, q_AJ_setAI, q_AR_setAI, q_sz_setAI, q_su_setAI, q_K_setAJ, q_I_setAJ, q_J_setAJ, q_R_setAJ, q_L_setAJ, q_AI_setAJ, q_AJ_setAJ, q_AR_setAJ, q_sz_setAJ, q_su_setAJ, q_K_setAR, q_I_setAR, q_J_setAR, q_R_setAR, q_L_setAR, q_AI_setAR, q_AJ_setAR, q_AR_setAR, q_sz_setAR, q_su_setAR, q_K_newO, q_I_newO, q_J_newO, q_R_newO, q_L_newO, q_AI_newO, q_AJ_newO, q_AR_newO, q_sz_newO, q_su_newO, q_K_newA, q_I_newA, q_J_newA, q_R_newA, q_L_newA, q_AI_newA, q_AJ_newA, q_AR_newA, q_sz_newA, q_su_newA, q_K_skip, q_I_skip, q_J_skip, q_R_skip, q_L_skip, q_AI_skip, q_AJ_skip, q_AR_skip, q_sz_skip, q_su_skip, q_up2, q_up]⟩
theorem lw_assign {P : xP} {b len : Nat} {sc : Nat → Int32} {T T' : xT} {ms ms' : List xMod} {σ σ' : xS} {v : Int32} (p q r s : Int32) (h : LwB P b len sc T ms σ) (h' : LwS P b len sc σ') (e : dm_X11_assign P P.base p q r s σ = some (.inl v, σ')) : dm_L_assign P (some P.base) p q r s (some (P.base + 43)) σ = some (.inl (nI 0), σ'.setAJ (P.base + 43) 0 (Int32.toInt64 v)) := by
  have k0 := h.1.2.2.2.2.1
  obtain ⟨-, -, -, -, -, -, k1, k2⟩ := h'
  unfold dm_L_assign
  simp (disch := first | assumption | omega) [ck_T, sm_s, bd_l, bd_r, lt_e, eq_self, and_self, if_true, true_and, and_true, lit_nI, nI_add, nI_mul, nI_sub, nI_clamp, nI_eq, nI_ltI, nI_leI, nN_e, nI_nN, nN_nI, bI_0, bI_1, bI_n, bool_0, bool_1, in_T, lg_cmp0, ofN_nI, k0, e, k1, k2, x_in, dlt_T, dle_T]
theorem lw_assignN {P : xP} {b len : Nat} {sc : Nat → Int32} {T : xT} {ms : List xMod} {σ σ' : xS} (p q r s : Int32) (h : LwB P b len sc T ms σ) (e : dm_X11_assign P P.base p q r s σ = some (.inr IOE, σ')) : dm_L_assign P (some P.base) p q r s (some (P.base + 43)) σ = some (.inl (nI 1), σ') := by
  have k0 := h.1.2.2.2.2.1
  unfold dm_L_assign
  simp (disch := first | assumption | omega) [ck_T, sm_s, bd_l, bd_r, lt_e, eq_self, and_self, if_true, true_and, and_true, lit_nI, nI_add, nI_mul, nI_sub, nI_clamp, nI_eq, nI_ltI, nI_leI, nN_e, nI_nN, nN_nI, bI_0, bI_1, bI_n, bool_0, bool_1, in_T, lg_cmp0, ofN_nI, k0, e, IOE]
theorem lc_assign {P : xP} {b len : Nat} {sc : Nat → Int32} {T : xT} {ms : List xMod} {σ : xS} {o : Option Int32} (p q r s : Int32) (h : LwB P b len sc T ms σ) (ha : CAns P T ms σ (dm_X11_assign P P.base p q r s σ) o) : LwC P b len sc T ms σ (dm_L_assign P (some P.base) p q r s (some (P.base + 43)) σ) o := by
  obtain ⟨σ', c1, c2, c3⟩ := ha
  obtain ⟨s1, s2⟩ := h.cls c2 c1
  cases o with
  | none => exact ⟨σ', ⟨s1, c1, s2⟩, c2.2, lw_assignN p q r s h c3⟩
  | some v => exact ⟨σ'.setAJ (P.base + 43) 0 (Int32.toInt64 v), ⟨s1.aj, c1.aj, s2.aj⟩, c2.2, lw_assign (T' := T) (ms' := ms) p q r s h s1 c3, by simp [q_K_setI, q_I_setI, q_J_setI, q_R_setI, q_L_setI, q_AI_setI, q_AJ_setI, q_AR_setI, q_sz_setI, q_su_setI, q_K_setJ, q_I_setJ, q_J_setJ, q_R_setJ, q_L_setJ, q_AI_setJ, q_AJ_setJ, q_AR_setJ, q_sz_setJ, q_su_setJ, q_K_setR, q_I_setR, q_J_setR, q_R_setR, q_L_setR, q_AI_setR, q_AJ_setR, q_AR_setR, q_sz_setR, q_su_setR, q_K_setAI, q_I_setAI, q_J_setAI, q_R_setAI, q_L_setAI, q_AI_setAI, q_AJ_setAI, q_AR_setAI, q_sz_setAI, q_su_setAI, q_K_setAJ, q_I_setAJ, q_J_setAJ, q_R_setAJ, q_L_setAJ, q_AI_setAJ, q_AJ_setAJ, q_AR_setAJ, q_sz_setAJ, q_su_setAJ, q_K_setAR, q_I_setAR, q_J_setAR, q_R_setAR, q_L_setAR, q_AI_setAR, q_AJ_setAR, q_AR_setAR, q_sz_setAR, q_su_setAR, q_K_newO, q_I_newO, q_J_newO, q_R_newO, q_L_newO, q_AI_newO, q_AJ_newO, q_AR_newO, q_sz_newO, q_su_newO, q_K_newA, q_I_newA, q_J_newA, q_R_newA, q_L_newA, q_AI_newA, q_AJ_newA, q_AR_newA, q_sz_newA, q_su_newA, q_K_skip, q_I_skip, q_J_skip, q_R_skip, q_L_skip, q_AI_skip, q_AJ_skip, q_AR_skip, q_sz_skip, q_su_skip, q_up2, q_up]⟩
theorem lw_letter {P : xP} {b len : Nat} {sc : Nat → Int32} {T T' : xT} {ms ms' : List xMod} {σ σ' : xS} {v : Int32} (p q r s : Int32) (h : LwB P b len sc T ms σ) (h' : LwS P b len sc σ') (e : dm_X11_letter P P.base p q r s σ = some (.inl v, σ')) : dm_L_letter P (some P.base) p q r s (some (P.base + 43)) σ = some (.inl (nI 0), σ'.setAJ (P.base + 43) 0 (Int32.toInt64 v)) := by
  have k0 := h.1.2.2.2.2.1
  obtain ⟨-, -, -, -, -, -, k1, k2⟩ := h'
  unfold dm_L_letter
  simp (disch := first | assumption | omega) [ck_T, sm_s, bd_l, bd_r, lt_e, eq_self, and_self, if_true, true_and, and_true, lit_nI, nI_add, nI_mul, nI_sub, nI_clamp, nI_eq, nI_ltI, nI_leI, nN_e, nI_nN, nN_nI, bI_0, bI_1, bI_n, bool_0, bool_1, in_T, lg_cmp0, ofN_nI, k0, e, k1, k2, x_in, dlt_T, dle_T]
theorem lw_letterN {P : xP} {b len : Nat} {sc : Nat → Int32} {T : xT} {ms : List xMod} {σ σ' : xS} (p q r s : Int32) (h : LwB P b len sc T ms σ) (e : dm_X11_letter P P.base p q r s σ = some (.inr IOE, σ')) : dm_L_letter P (some P.base) p q r s (some (P.base + 43)) σ = some (.inl (nI 1), σ') := by
  have k0 := h.1.2.2.2.2.1
  unfold dm_L_letter
  simp (disch := first | assumption | omega) [ck_T, sm_s, bd_l, bd_r, lt_e, eq_self, and_self, if_true, true_and, and_true, lit_nI, nI_add, nI_mul, nI_sub, nI_clamp, nI_eq, nI_ltI, nI_leI, nN_e, nI_nN, nN_nI, bI_0, bI_1, bI_n, bool_0, bool_1, in_T, lg_cmp0, ofN_nI, k0, e, IOE]
theorem lc_letter {P : xP} {b len : Nat} {sc : Nat → Int32} {T : xT} {ms : List xMod} {σ : xS} {o : Option Int32} (p q r s : Int32) (h : LwB P b len sc T ms σ) (ha : CAns P T ms σ (dm_X11_letter P P.base p q r s σ) o) : LwC P b len sc T ms σ (dm_L_letter P (some P.base) p q r s (some (P.base + 43)) σ) o := by
  obtain ⟨σ', c1, c2, c3⟩ := ha
  obtain ⟨s1, s2⟩ := h.cls c2 c1
  cases o with
  | none => exact ⟨σ', ⟨s1, c1, s2⟩, c2.2, lw_letterN p q r s h c3⟩
  | some v => exact ⟨σ'.setAJ (P.base + 43) 0 (Int32.toInt64 v), ⟨s1.aj, c1.aj, s2.aj⟩, c2.2, lw_letter (T' := T) (ms' := ms) p q r s h s1 c3, by simp [q_K_setI, q_I_setI, q_J_setI, q_R_setI, q_L_setI, q_AI_setI, q_AJ_setI, q_AR_setI, q_sz_setI, q_su_setI, q_K_setJ, q_I_setJ, q_J_setJ, q_R_setJ, q_L_setJ, q_AI_setJ, q_AJ_setJ, q_AR_setJ, q_sz_setJ, q_su_setJ, q_K_setR, q_I_setR, q_J_setR, q_R_setR, q_L_setR, q_AI_setR, q_AJ_setR, q_AR_setR, q_sz_setR, q_su_setR, q_K_setAI, q_I_setAI, q_J_setAI, q_R_setAI, q_L_setAI, q_AI_setAI, q_AJ_setAI, q_AR_setAI, q_sz_setAI, q_su_setAI, q_K_setAJ, q_I_setAJ, q_J_setAJ, q_R_setAJ, q_L_setAJ, q_AI_setAJ, q_AJ_setAJ, q_AR_setAJ, q_sz_setAJ, q_su_setAJ, q_K_setAR, q_I_setAR, q_J_setAR, q_R_setAR, q_L_setAR, q_AI_setAR, q_AJ_setAR, q_AR_setAR, q_sz_setAR, q_su_setAR, q_K_newO, q_I_newO, q_J_newO, q_R_newO, q_L_newO, q_AI_newO, q_AJ_newO, q_AR_newO, q_sz_newO, q_su_newO, q_K_newA, q_I_newA, q_J_newA, q_R_newA, q_L_newA, q_AI_newA, q_AJ_newA, q_AR_newA, q_sz_newA, q_su_newA, q_K_skip, q_I_skip, q_J_skip, q_R_skip, q_L_skip, q_AI_skip, q_AJ_skip, q_AR_skip, q_sz_skip, q_su_skip, q_up2, q_up]⟩
theorem lw_write {P : xP} {b len : Nat} {sc : Nat → Int32} {T T' : xT} {ms ms' : List xMod} {σ σ' : xS} {v : Int32} (p q : Int32) (h : LwB P b len sc T ms σ) (h' : LwS P b len sc σ') (e : dm_X11_write P P.base p q σ = some (.inl v, σ')) : dm_L_write P (some P.base) p q (some (P.base + 43)) σ = some (.inl (nI 0), σ'.setAJ (P.base + 43) 0 (Int32.toInt64 v)) := by
  have k0 := h.1.2.2.2.2.1
  obtain ⟨-, -, -, -, -, -, k1, k2⟩ := h'
  unfold dm_L_write
  simp (disch := first | assumption | omega) [ck_T, sm_s, bd_l, bd_r, lt_e, eq_self, and_self, if_true, true_and, and_true, lit_nI, nI_add, nI_mul, nI_sub, nI_clamp, nI_eq, nI_ltI, nI_leI, nN_e, nI_nN, nN_nI, bI_0, bI_1, bI_n, bool_0, bool_1, in_T, lg_cmp0, ofN_nI, k0, e, k1, k2, x_in, dlt_T, dle_T]
theorem lw_writeN {P : xP} {b len : Nat} {sc : Nat → Int32} {T : xT} {ms : List xMod} {σ σ' : xS} (p q : Int32) (h : LwB P b len sc T ms σ) (e : dm_X11_write P P.base p q σ = some (.inr IOE, σ')) : dm_L_write P (some P.base) p q (some (P.base + 43)) σ = some (.inl (nI 1), σ') := by
  have k0 := h.1.2.2.2.2.1
  unfold dm_L_write
  simp (disch := first | assumption | omega) [ck_T, sm_s, bd_l, bd_r, lt_e, eq_self, and_self, if_true, true_and, and_true, lit_nI, nI_add, nI_mul, nI_sub, nI_clamp, nI_eq, nI_ltI, nI_leI, nN_e, nI_nN, nN_nI, bI_0, bI_1, bI_n, bool_0, bool_1, in_T, lg_cmp0, ofN_nI, k0, e, IOE]
theorem lc_write {P : xP} {b len : Nat} {sc : Nat → Int32} {T : xT} {ms : List xMod} {σ : xS} {o : Option Int32} (p q : Int32) (h : LwB P b len sc T ms σ) (ha : CAns P T ms σ (dm_X11_write P P.base p q σ) o) : LwC P b len sc T ms σ (dm_L_write P (some P.base) p q (some (P.base + 43)) σ) o := by
  obtain ⟨σ', c1, c2, c3⟩ := ha
  obtain ⟨s1, s2⟩ := h.cls c2 c1
  cases o with
  | none => exact ⟨σ', ⟨s1, c1, s2⟩, c2.2, lw_writeN p q h c3⟩
  | some v => exact ⟨σ'.setAJ (P.base + 43) 0 (Int32.toInt64 v), ⟨s1.aj, c1.aj, s2.aj⟩, c2.2, lw_write (T' := T) (ms' := ms) p q h s1 c3, by simp [q_K_setI, q_I_setI, q_J_setI, q_R_setI, q_L_setI, q_AI_setI, q_AJ_setI, q_AR_setI, q_sz_setI, q_su_setI, q_K_setJ, q_I_setJ, q_J_setJ, q_R_setJ, q_L_setJ, q_AI_setJ, q_AJ_setJ, q_AR_setJ, q_sz_setJ, q_su_setJ, q_K_setR, q_I_setR, q_J_setR, q_R_setR, q_L_setR, q_AI_setR, q_AJ_setR, q_AR_setR, q_sz_setR, q_su_setR, q_K_setAI, q_I_setAI, q_J_setAI, q_R_setAI, q_L_setAI, q_AI_setAI, q_AJ_setAI, q_AR_setAI, q_sz_setAI, q_su_setAI, q_K_setAJ, q_I_setAJ, q_J_setAJ, q_R_setAJ, q_L_setAJ, q_AI_setAJ, q_AJ_setAJ, q_AR_setAJ, q_sz_setAJ, q_su_setAJ, q_K_setAR, q_I_setAR, q_J_setAR, q_R_setAR, q_L_setAR, q_AI_setAR, q_AJ_setAR, q_AR_setAR, q_sz_setAR, q_su_setAR, q_K_newO, q_I_newO, q_J_newO, q_R_newO, q_L_newO, q_AI_newO, q_AJ_newO, q_AR_newO, q_sz_newO, q_su_newO, q_K_newA, q_I_newA, q_J_newA, q_R_newA, q_L_newA, q_AI_newA, q_AJ_newA, q_AR_newA, q_sz_newA, q_su_newA, q_K_skip, q_I_skip, q_J_skip, q_R_skip, q_L_skip, q_AI_skip, q_AJ_skip, q_AR_skip, q_sz_skip, q_su_skip, q_up2, q_up]⟩
theorem lw_count {P : xP} {b len : Nat} {sc : Nat → Int32} {T T' : xT} {ms ms' : List xMod} {σ σ' : xS} {v : Int32} (p : Int32) (h : LwB P b len sc T ms σ) (h' : LwS P b len sc σ') (e : dm_X11_count P P.base p σ = some (.inl v, σ')) : dm_L_count P (some P.base) p (some (P.base + 43)) σ = some (.inl (nI 0), σ'.setAJ (P.base + 43) 0 (Int32.toInt64 v)) := by
  have k0 := h.1.2.2.2.2.1
  obtain ⟨-, -, -, -, -, -, k1, k2⟩ := h'
  unfold dm_L_count
  simp (disch := first | assumption | omega) [ck_T, sm_s, bd_l, bd_r, lt_e, eq_self, and_self, if_true, true_and, and_true, lit_nI, nI_add, nI_mul, nI_sub, nI_clamp, nI_eq, nI_ltI, nI_leI, nN_e, nI_nN, nN_nI, bI_0, bI_1, bI_n, bool_0, bool_1, in_T, lg_cmp0, ofN_nI, k0, e, k1, k2, x_in, dlt_T, dle_T]
theorem lw_countN {P : xP} {b len : Nat} {sc : Nat → Int32} {T : xT} {ms : List xMod} {σ σ' : xS} (p : Int32) (h : LwB P b len sc T ms σ) (e : dm_X11_count P P.base p σ = some (.inr IOE, σ')) : dm_L_count P (some P.base) p (some (P.base + 43)) σ = some (.inl (nI 1), σ') := by
  have k0 := h.1.2.2.2.2.1
  unfold dm_L_count
  simp (disch := first | assumption | omega) [ck_T, sm_s, bd_l, bd_r, lt_e, eq_self, and_self, if_true, true_and, and_true, lit_nI, nI_add, nI_mul, nI_sub, nI_clamp, nI_eq, nI_ltI, nI_leI, nN_e, nI_nN, nN_nI, bI_0, bI_1, bI_n, bool_0, bool_1, in_T, lg_cmp0, ofN_nI, k0, e, IOE]
theorem lc_count {P : xP} {b len : Nat} {sc : Nat → Int32} {T : xT} {ms : List xMod} {σ : xS} {o : Option Int32} (p : Int32) (h : LwB P b len sc T ms σ) (ha : CAns P T ms σ (dm_X11_count P P.base p σ) o) : LwC P b len sc T ms σ (dm_L_count P (some P.base) p (some (P.base + 43)) σ) o := by
  obtain ⟨σ', c1, c2, c3⟩ := ha
  obtain ⟨s1, s2⟩ := h.cls c2 c1
  cases o with
  | none => exact ⟨σ', ⟨s1, c1, s2⟩, c2.2, lw_countN p h c3⟩
  | some v => exact ⟨σ'.setAJ (P.base + 43) 0 (Int32.toInt64 v), ⟨s1.aj, c1.aj, s2.aj⟩, c2.2, lw_count (T' := T) (ms' := ms) p h s1 c3, by simp [q_K_setI, q_I_setI, q_J_setI, q_R_setI, q_L_setI, q_AI_setI, q_AJ_setI, q_AR_setI, q_sz_setI, q_su_setI, q_K_setJ, q_I_setJ, q_J_setJ, q_R_setJ, q_L_setJ, q_AI_setJ, q_AJ_setJ, q_AR_setJ, q_sz_setJ, q_su_setJ, q_K_setR, q_I_setR, q_J_setR, q_R_setR, q_L_setR, q_AI_setR, q_AJ_setR, q_AR_setR, q_sz_setR, q_su_setR, q_K_setAI, q_I_setAI, q_J_setAI, q_R_setAI, q_L_setAI, q_AI_setAI, q_AJ_setAI, q_AR_setAI, q_sz_setAI, q_su_setAI, q_K_setAJ, q_I_setAJ, q_J_setAJ, q_R_setAJ, q_L_setAJ, q_AI_setAJ, q_AJ_setAJ, q_AR_setAJ, q_sz_setAJ, q_su_setAJ, q_K_setAR, q_I_setAR, q_J_setAR, q_R_setAR, q_L_setAR, q_AI_setAR, q_AJ_setAR, q_AR_setAR, q_sz_setAR, q_su_setAR, q_K_newO, q_I_newO, q_J_newO, q_R_newO, q_L_newO, q_AI_newO, q_AJ_newO, q_AR_newO, q_sz_newO, q_su_newO, q_K_newA, q_I_newA, q_J_newA, q_R_newA, q_L_newA, q_AI_newA, q_AJ_newA, q_AR_newA, q_sz_newA, q_su_newA, q_K_skip, q_I_skip, q_J_skip, q_R_skip, q_L_skip, q_AI_skip, q_AJ_skip, q_AR_skip, q_sz_skip, q_su_skip, q_up2, q_up]⟩
theorem lw_read {P : xP} {b len : Nat} {sc : Nat → Int32} {T T' : xT} {ms ms' : List xMod} {σ σ' : xS} {v : Int32} (p : Int32) (h : LwB P b len sc T ms σ) (h' : LwS P b len sc σ') (e : dm_X11_read P P.base p σ = some (.inl v, σ')) : dm_L_read P (some P.base) p (some (P.base + 43)) σ = some (.inl (nI 0), σ'.setAJ (P.base + 43) 0 (Int32.toInt64 v)) := by
  have k0 := h.1.2.2.2.2.1
  obtain ⟨-, -, -, -, -, -, k1, k2⟩ := h'
  unfold dm_L_read
  simp (disch := first | assumption | omega) [ck_T, sm_s, bd_l, bd_r, lt_e, eq_self, and_self, if_true, true_and, and_true, lit_nI, nI_add, nI_mul, nI_sub, nI_clamp, nI_eq, nI_ltI, nI_leI, nN_e, nI_nN, nN_nI, bI_0, bI_1, bI_n, bool_0, bool_1, in_T, lg_cmp0, ofN_nI, k0, e, k1, k2, x_in, dlt_T, dle_T]
theorem lw_readN {P : xP} {b len : Nat} {sc : Nat → Int32} {T : xT} {ms : List xMod} {σ σ' : xS} (p : Int32) (h : LwB P b len sc T ms σ) (e : dm_X11_read P P.base p σ = some (.inr IOE, σ')) : dm_L_read P (some P.base) p (some (P.base + 43)) σ = some (.inl (nI 1), σ') := by
  have k0 := h.1.2.2.2.2.1
  unfold dm_L_read
  simp (disch := first | assumption | omega) [ck_T, sm_s, bd_l, bd_r, lt_e, eq_self, and_self, if_true, true_and, and_true, lit_nI, nI_add, nI_mul, nI_sub, nI_clamp, nI_eq, nI_ltI, nI_leI, nN_e, nI_nN, nN_nI, bI_0, bI_1, bI_n, bool_0, bool_1, in_T, lg_cmp0, ofN_nI, k0, e, IOE]
theorem st_module {P : xP} {b len j F k : Nat} {sc : Nat → Int32} {σ σ1 σ2 : xS} {w : Int32} (hj : j + 5 ≤ len) (hl : len < 100000) (S : LwS P b len sc σ) (hop : sc j &&& nI 15 = nI 3) (h1 : dm_L_module P (some P.base) (sc (j + 1)) (sc (j + 2)) (some (P.base + 43)) σ = some (.inl (nI k), σ1)) (S1 : LwS P b len sc σ1) (h2 : dm_X12_module P (P.base + 11) (sc (j + 1)) (sc (j + 2)) σ1 = some (.inl w, σ2)) (S2 : LwS P b len sc σ2) (ht : σ2.I 1100 (P.base + 11) = nI k) (hk : k ≤ 1) (ho : k = 0 → σ2.AJ (P.base + 43) 0 = Int32.toInt64 w) : dm_L_law_L23 P (F + 1) (some b) (some P.base) (some (P.base + 11)) (some (P.base + 43)) (nI j) σ = dm_L_law_L23 P F (some b) (some P.base) (some (P.base + 11)) (some (P.base + 43)) (nI (j + 5)) σ2 := by
  obtain ⟨a1, a2, a3, a4, a5, a6, a7, a8⟩ := S
  obtain ⟨-, c2, c3, c4, c5, c6, c7, c8⟩ := S1
  obtain ⟨-, d2, d3, d4, d5, d6, d7, d8⟩ := S2
  have g : ¬ Int32.ofNat len - nI 5 < nI j := by rw [sub5 (by omega) (by omega)]; omega
  have z0 := a4 j (by omega)
  have g' : ¬ Int32.ofNat (σ.L b) - 5 < nI j := by rw [a3]; exact g
  have i0 : x_in (nI j) (σ.L b) := by rw [a3]; simp (disch := first | assumption | omega) [lit_nI, nI_add, nI_mul, nI_sub, nI_clamp, nI_eq, nI_ltI, nI_leI, nN_e, nI_nN, nN_nI, bI_0, bI_1, bI_n, bool_0, bool_1, in_T, lg_cmp0, ofN_nI, x_in, dlt_T, dle_T]
  have hv : σ.AI b (Int32.toNatClampNeg (nI j)) &&& 15 = nI 3 := by rw [nI_clamp (by omega), z0]; exact hop
  conv => lhs; unfold dm_L_law_L23
  rw [sm_s, chk_of a2, if_neg g', chk_of ⟨a2, i0⟩, lt_e, hv, if_neg (show ¬ nI 3 = 0 by decide), if_neg (show ¬ nI 3 = 1 by decide), if_neg (show ¬ nI 3 = 2 by decide), if_pos (show nI 3 = 3 by decide)]
  unfold dm_L_law_p267 dm_L_law_p830 dm_X12_thrown
  have l0 : lg_cmp (Int32.toInt64 w) (Int32.toInt64 w) = nI 0 := lg_same _
  have z1 := a4 (j + 1) (by omega)
  have y1 := c4 (j + 1) (by omega)
  have z2 := a4 (j + 2) (by omega)
  have y2 := c4 (j + 2) (by omega)
  obtain rfl | rfl : k = 0 ∨ k = 1 := by omega
  · have ho := ho rfl
    simp (disch := first | assumption | omega) [ck_T, sm_s, bd_l, bd_r, lt_e, eq_self, and_self, if_true, true_and, and_true, lit_nI, nI_add, nI_mul, nI_sub, nI_clamp, nI_eq, nI_ltI, nI_leI, nN_e, nI_nN, nN_nI, bI_0, bI_1, bI_n, bool_0, bool_1, in_T, lg_cmp0, ofN_nI, a2, a3, g, z0, hop, z1, z2, h1, c2, c3, c6, y1, y2, h2, d6, ht, d7, d8, ho, l0, x_in, dlt_T, dle_T]
  · simp (disch := first | assumption | omega) [ck_T, sm_s, bd_l, bd_r, lt_e, eq_self, and_self, if_true, true_and, and_true, lit_nI, nI_add, nI_mul, nI_sub, nI_clamp, nI_eq, nI_ltI, nI_leI, nN_e, nI_nN, nN_nI, bI_0, bI_1, bI_n, bool_0, bool_1, in_T, lg_cmp0, ofN_nI, a2, a3, g, z0, hop, z1, z2, h1, c2, c3, c6, y1, y2, h2, d6, ht, x_in, dlt_T, dle_T]
theorem st_net {P : xP} {b len j F k : Nat} {sc : Nat → Int32} {σ σ1 σ2 : xS} {w : Int32} (hj : j + 5 ≤ len) (hl : len < 100000) (S : LwS P b len sc σ) (hop : sc j &&& nI 15 = nI 4) (h1 : dm_L_net P (some P.base) (sc (j + 1)) (sc (j + 2)) (sc (j + 3)) (some (P.base + 43)) σ = some (.inl (nI k), σ1)) (S1 : LwS P b len sc σ1) (h2 : dm_X12_net P (P.base + 11) (sc (j + 1)) (sc (j + 2)) (sc (j + 3)) σ1 = some (.inl w, σ2)) (S2 : LwS P b len sc σ2) (ht : σ2.I 1100 (P.base + 11) = nI k) (hk : k ≤ 1) (ho : k = 0 → σ2.AJ (P.base + 43) 0 = Int32.toInt64 w) : dm_L_law_L23 P (F + 1) (some b) (some P.base) (some (P.base + 11)) (some (P.base + 43)) (nI j) σ = dm_L_law_L23 P F (some b) (some P.base) (some (P.base + 11)) (some (P.base + 43)) (nI (j + 5)) σ2 := by
  obtain ⟨a1, a2, a3, a4, a5, a6, a7, a8⟩ := S
  obtain ⟨-, c2, c3, c4, c5, c6, c7, c8⟩ := S1
  obtain ⟨-, d2, d3, d4, d5, d6, d7, d8⟩ := S2
  have g : ¬ Int32.ofNat len - nI 5 < nI j := by rw [sub5 (by omega) (by omega)]; omega
  have z0 := a4 j (by omega)
  have g' : ¬ Int32.ofNat (σ.L b) - 5 < nI j := by rw [a3]; exact g
  have i0 : x_in (nI j) (σ.L b) := by rw [a3]; simp (disch := first | assumption | omega) [lit_nI, nI_add, nI_mul, nI_sub, nI_clamp, nI_eq, nI_ltI, nI_leI, nN_e, nI_nN, nN_nI, bI_0, bI_1, bI_n, bool_0, bool_1, in_T, lg_cmp0, ofN_nI, x_in, dlt_T, dle_T]
  have hv : σ.AI b (Int32.toNatClampNeg (nI j)) &&& 15 = nI 4 := by rw [nI_clamp (by omega), z0]; exact hop
  conv => lhs; unfold dm_L_law_L23
  rw [sm_s, chk_of a2, if_neg g', chk_of ⟨a2, i0⟩, lt_e, hv, if_neg (show ¬ nI 4 = 0 by decide), if_neg (show ¬ nI 4 = 1 by decide), if_neg (show ¬ nI 4 = 2 by decide), if_neg (show ¬ nI 4 = 3 by decide), if_pos (show nI 4 = 4 by decide)]
  unfold dm_L_law_p347 dm_L_law_p830 dm_X12_thrown
  have l0 : lg_cmp (Int32.toInt64 w) (Int32.toInt64 w) = nI 0 := lg_same _
  have z1 := a4 (j + 1) (by omega)
  have y1 := c4 (j + 1) (by omega)
  have z2 := a4 (j + 2) (by omega)
  have y2 := c4 (j + 2) (by omega)
  have z3 := a4 (j + 3) (by omega)
  have y3 := c4 (j + 3) (by omega)
  obtain rfl | rfl : k = 0 ∨ k = 1 := by omega
  · have ho := ho rfl
    simp (disch := first | assumption | omega) [ck_T, sm_s, bd_l, bd_r, lt_e, eq_self, and_self, if_true, true_and, and_true, lit_nI, nI_add, nI_mul, nI_sub, nI_clamp, nI_eq, nI_ltI, nI_leI, nN_e, nI_nN, nN_nI, bI_0, bI_1, bI_n, bool_0, bool_1, in_T, lg_cmp0, ofN_nI, a2, a3, g, z0, hop, z1, z2, z3, h1, c2, c3, c6, y1, y2, y3, h2, d6, ht, d7, d8, ho, l0, x_in, dlt_T, dle_T]
  · simp (disch := first | assumption | omega) [ck_T, sm_s, bd_l, bd_r, lt_e, eq_self, and_self, if_true, true_and, and_true, lit_nI, nI_add, nI_mul, nI_sub, nI_clamp, nI_eq, nI_ltI, nI_leI, nN_e, nI_nN, nN_nI, bI_0, bI_1, bI_n, bool_0, bool_1, in_T, lg_cmp0, ofN_nI, a2, a3, g, z0, hop, z1, z2, z3, h1, c2, c3, c6, y1, y2, y3, h2, d6, ht, x_in, dlt_T, dle_T]
theorem st_instance {P : xP} {b len j F k : Nat} {sc : Nat → Int32} {σ σ1 σ2 : xS} {w : Int32} (hj : j + 5 ≤ len) (hl : len < 100000) (S : LwS P b len sc σ) (hop : sc j &&& nI 15 = nI 5) (h1 : dm_L_instance P (some P.base) (sc (j + 1)) (sc (j + 2)) (sc (j + 3)) (some (P.base + 43)) σ = some (.inl (nI k), σ1)) (S1 : LwS P b len sc σ1) (h2 : dm_X12_instance P (P.base + 11) (sc (j + 1)) (sc (j + 2)) (sc (j + 3)) σ1 = some (.inl w, σ2)) (S2 : LwS P b len sc σ2) (ht : σ2.I 1100 (P.base + 11) = nI k) (hk : k ≤ 1) (ho : k = 0 → σ2.AJ (P.base + 43) 0 = Int32.toInt64 w) : dm_L_law_L23 P (F + 1) (some b) (some P.base) (some (P.base + 11)) (some (P.base + 43)) (nI j) σ = dm_L_law_L23 P F (some b) (some P.base) (some (P.base + 11)) (some (P.base + 43)) (nI (j + 5)) σ2 := by
  obtain ⟨a1, a2, a3, a4, a5, a6, a7, a8⟩ := S
  obtain ⟨-, c2, c3, c4, c5, c6, c7, c8⟩ := S1
  obtain ⟨-, d2, d3, d4, d5, d6, d7, d8⟩ := S2
  have g : ¬ Int32.ofNat len - nI 5 < nI j := by rw [sub5 (by omega) (by omega)]; omega
  have z0 := a4 j (by omega)
  have g' : ¬ Int32.ofNat (σ.L b) - 5 < nI j := by rw [a3]; exact g
  have i0 : x_in (nI j) (σ.L b) := by rw [a3]; simp (disch := first | assumption | omega) [lit_nI, nI_add, nI_mul, nI_sub, nI_clamp, nI_eq, nI_ltI, nI_leI, nN_e, nI_nN, nN_nI, bI_0, bI_1, bI_n, bool_0, bool_1, in_T, lg_cmp0, ofN_nI, x_in, dlt_T, dle_T]
  have hv : σ.AI b (Int32.toNatClampNeg (nI j)) &&& 15 = nI 5 := by rw [nI_clamp (by omega), z0]; exact hop
  conv => lhs; unfold dm_L_law_L23
  rw [sm_s, chk_of a2, if_neg g', chk_of ⟨a2, i0⟩, lt_e, hv, if_neg (show ¬ nI 5 = 0 by decide), if_neg (show ¬ nI 5 = 1 by decide), if_neg (show ¬ nI 5 = 2 by decide), if_neg (show ¬ nI 5 = 3 by decide), if_neg (show ¬ nI 5 = 4 by decide), if_pos (show nI 5 = 5 by decide)]
  unfold dm_L_law_p427 dm_L_law_p830 dm_X12_thrown
  have l0 : lg_cmp (Int32.toInt64 w) (Int32.toInt64 w) = nI 0 := lg_same _
  have z1 := a4 (j + 1) (by omega)
  have y1 := c4 (j + 1) (by omega)
  have z2 := a4 (j + 2) (by omega)
  have y2 := c4 (j + 2) (by omega)
  have z3 := a4 (j + 3) (by omega)
  have y3 := c4 (j + 3) (by omega)
  obtain rfl | rfl : k = 0 ∨ k = 1 := by omega
  · have ho := ho rfl
    simp (disch := first | assumption | omega) [ck_T, sm_s, bd_l, bd_r, lt_e, eq_self, and_self, if_true, true_and, and_true, lit_nI, nI_add, nI_mul, nI_sub, nI_clamp, nI_eq, nI_ltI, nI_leI, nN_e, nI_nN, nN_nI, bI_0, bI_1, bI_n, bool_0, bool_1, in_T, lg_cmp0, ofN_nI, a2, a3, g, z0, hop, z1, z2, z3, h1, c2, c3, c6, y1, y2, y3, h2, d6, ht, d7, d8, ho, l0, x_in, dlt_T, dle_T]
  · simp (disch := first | assumption | omega) [ck_T, sm_s, bd_l, bd_r, lt_e, eq_self, and_self, if_true, true_and, and_true, lit_nI, nI_add, nI_mul, nI_sub, nI_clamp, nI_eq, nI_ltI, nI_leI, nN_e, nI_nN, nN_nI, bI_0, bI_1, bI_n, bool_0, bool_1, in_T, lg_cmp0, ofN_nI, a2, a3, g, z0, hop, z1, z2, z3, h1, c2, c3, c6, y1, y2, y3, h2, d6, ht, x_in, dlt_T, dle_T]
theorem st_joined {P : xP} {b len j F k : Nat} {sc : Nat → Int32} {σ σ1 σ2 : xS} {w : Int32} (hj : j + 5 ≤ len) (hl : len < 100000) (S : LwS P b len sc σ) (hop : sc j &&& nI 15 = nI 6) (h1 : dm_L_joined P (some P.base) (sc (j + 1)) (sc (j + 2)) (sc (j + 3)) (sc (j + 4)) (some (P.base + 43)) σ = some (.inl (nI k), σ1)) (S1 : LwS P b len sc σ1) (h2 : dm_X12_joined P (P.base + 11) (sc (j + 1)) (sc (j + 2)) (sc (j + 3)) (sc (j + 4)) σ1 = some (.inl w, σ2)) (S2 : LwS P b len sc σ2) (ht : σ2.I 1100 (P.base + 11) = nI k) (hk : k ≤ 1) (ho : k = 0 → σ2.AJ (P.base + 43) 0 = Int32.toInt64 w) : dm_L_law_L23 P (F + 1) (some b) (some P.base) (some (P.base + 11)) (some (P.base + 43)) (nI j) σ = dm_L_law_L23 P F (some b) (some P.base) (some (P.base + 11)) (some (P.base + 43)) (nI (j + 5)) σ2 := by
  obtain ⟨a1, a2, a3, a4, a5, a6, a7, a8⟩ := S
  obtain ⟨-, c2, c3, c4, c5, c6, c7, c8⟩ := S1
  obtain ⟨-, d2, d3, d4, d5, d6, d7, d8⟩ := S2
  have g : ¬ Int32.ofNat len - nI 5 < nI j := by rw [sub5 (by omega) (by omega)]; omega
  have z0 := a4 j (by omega)
  have g' : ¬ Int32.ofNat (σ.L b) - 5 < nI j := by rw [a3]; exact g
  have i0 : x_in (nI j) (σ.L b) := by rw [a3]; simp (disch := first | assumption | omega) [lit_nI, nI_add, nI_mul, nI_sub, nI_clamp, nI_eq, nI_ltI, nI_leI, nN_e, nI_nN, nN_nI, bI_0, bI_1, bI_n, bool_0, bool_1, in_T, lg_cmp0, ofN_nI, x_in, dlt_T, dle_T]
  have hv : σ.AI b (Int32.toNatClampNeg (nI j)) &&& 15 = nI 6 := by rw [nI_clamp (by omega), z0]; exact hop
  conv => lhs; unfold dm_L_law_L23
  rw [sm_s, chk_of a2, if_neg g', chk_of ⟨a2, i0⟩, lt_e, hv, if_neg (show ¬ nI 6 = 0 by decide), if_neg (show ¬ nI 6 = 1 by decide), if_neg (show ¬ nI 6 = 2 by decide), if_neg (show ¬ nI 6 = 3 by decide), if_neg (show ¬ nI 6 = 4 by decide), if_neg (show ¬ nI 6 = 5 by decide), if_pos (show nI 6 = 6 by decide)]
  unfold dm_L_law_p519 dm_L_law_p830 dm_X12_thrown
  have l0 : lg_cmp (Int32.toInt64 w) (Int32.toInt64 w) = nI 0 := lg_same _
  have z1 := a4 (j + 1) (by omega)
  have y1 := c4 (j + 1) (by omega)
  have z2 := a4 (j + 2) (by omega)
  have y2 := c4 (j + 2) (by omega)
  have z3 := a4 (j + 3) (by omega)
  have y3 := c4 (j + 3) (by omega)
  have z4 := a4 (j + 4) (by omega)
  have y4 := c4 (j + 4) (by omega)
  obtain rfl | rfl : k = 0 ∨ k = 1 := by omega
  · have ho := ho rfl
    simp (disch := first | assumption | omega) [ck_T, sm_s, bd_l, bd_r, lt_e, eq_self, and_self, if_true, true_and, and_true, lit_nI, nI_add, nI_mul, nI_sub, nI_clamp, nI_eq, nI_ltI, nI_leI, nN_e, nI_nN, nN_nI, bI_0, bI_1, bI_n, bool_0, bool_1, in_T, lg_cmp0, ofN_nI, a2, a3, g, z0, hop, z1, z2, z3, z4, h1, c2, c3, c6, y1, y2, y3, y4, h2, d6, ht, d7, d8, ho, l0, x_in, dlt_T, dle_T]
  · simp (disch := first | assumption | omega) [ck_T, sm_s, bd_l, bd_r, lt_e, eq_self, and_self, if_true, true_and, and_true, lit_nI, nI_add, nI_mul, nI_sub, nI_clamp, nI_eq, nI_ltI, nI_leI, nN_e, nI_nN, nN_nI, bI_0, bI_1, bI_n, bool_0, bool_1, in_T, lg_cmp0, ofN_nI, a2, a3, g, z0, hop, z1, z2, z3, z4, h1, c2, c3, c6, y1, y2, y3, y4, h2, d6, ht, x_in, dlt_T, dle_T]
theorem st_assign {P : xP} {b len j F k : Nat} {sc : Nat → Int32} {σ σ1 σ2 : xS} {w : Int32} (hj : j + 5 ≤ len) (hl : len < 100000) (S : LwS P b len sc σ) (hop : sc j &&& nI 15 = nI 7) (h1 : dm_L_assign P (some P.base) (sc (j + 1)) (sc (j + 2)) (sc (j + 3)) (sc (j + 4)) (some (P.base + 43)) σ = some (.inl (nI k), σ1)) (S1 : LwS P b len sc σ1) (h2 : dm_X12_assign P (P.base + 11) (sc (j + 1)) (sc (j + 2)) (sc (j + 3)) (sc (j + 4)) σ1 = some (.inl w, σ2)) (S2 : LwS P b len sc σ2) (ht : σ2.I 1100 (P.base + 11) = nI k) (hk : k ≤ 1) (ho : k = 0 → σ2.AJ (P.base + 43) 0 = Int32.toInt64 w) : dm_L_law_L23 P (F + 1) (some b) (some P.base) (some (P.base + 11)) (some (P.base + 43)) (nI j) σ = dm_L_law_L23 P F (some b) (some P.base) (some (P.base + 11)) (some (P.base + 43)) (nI (j + 5)) σ2 := by
  obtain ⟨a1, a2, a3, a4, a5, a6, a7, a8⟩ := S
  obtain ⟨-, c2, c3, c4, c5, c6, c7, c8⟩ := S1
  obtain ⟨-, d2, d3, d4, d5, d6, d7, d8⟩ := S2
  have g : ¬ Int32.ofNat len - nI 5 < nI j := by rw [sub5 (by omega) (by omega)]; omega
  have z0 := a4 j (by omega)
  have g' : ¬ Int32.ofNat (σ.L b) - 5 < nI j := by rw [a3]; exact g
  have i0 : x_in (nI j) (σ.L b) := by rw [a3]; simp (disch := first | assumption | omega) [lit_nI, nI_add, nI_mul, nI_sub, nI_clamp, nI_eq, nI_ltI, nI_leI, nN_e, nI_nN, nN_nI, bI_0, bI_1, bI_n, bool_0, bool_1, in_T, lg_cmp0, ofN_nI, x_in, dlt_T, dle_T]
  have hv : σ.AI b (Int32.toNatClampNeg (nI j)) &&& 15 = nI 7 := by rw [nI_clamp (by omega), z0]; exact hop
  conv => lhs; unfold dm_L_law_L23
  rw [sm_s, chk_of a2, if_neg g', chk_of ⟨a2, i0⟩, lt_e, hv, if_neg (show ¬ nI 7 = 0 by decide), if_neg (show ¬ nI 7 = 1 by decide), if_neg (show ¬ nI 7 = 2 by decide), if_neg (show ¬ nI 7 = 3 by decide), if_neg (show ¬ nI 7 = 4 by decide), if_neg (show ¬ nI 7 = 5 by decide), if_neg (show ¬ nI 7 = 6 by decide), if_pos (show nI 7 = 7 by decide)]
  unfold dm_L_law_p611 dm_L_law_p830 dm_X12_thrown
  have l0 : lg_cmp (Int32.toInt64 w) (Int32.toInt64 w) = nI 0 := lg_same _
  have z1 := a4 (j + 1) (by omega)
  have y1 := c4 (j + 1) (by omega)
  have z2 := a4 (j + 2) (by omega)
  have y2 := c4 (j + 2) (by omega)
  have z3 := a4 (j + 3) (by omega)
  have y3 := c4 (j + 3) (by omega)
  have z4 := a4 (j + 4) (by omega)
  have y4 := c4 (j + 4) (by omega)
  obtain rfl | rfl : k = 0 ∨ k = 1 := by omega
  · have ho := ho rfl
    simp (disch := first | assumption | omega) [ck_T, sm_s, bd_l, bd_r, lt_e, eq_self, and_self, if_true, true_and, and_true, lit_nI, nI_add, nI_mul, nI_sub, nI_clamp, nI_eq, nI_ltI, nI_leI, nN_e, nI_nN, nN_nI, bI_0, bI_1, bI_n, bool_0, bool_1, in_T, lg_cmp0, ofN_nI, a2, a3, g, z0, hop, z1, z2, z3, z4, h1, c2, c3, c6, y1, y2, y3, y4, h2, d6, ht, d7, d8, ho, l0, x_in, dlt_T, dle_T]
  · simp (disch := first | assumption | omega) [ck_T, sm_s, bd_l, bd_r, lt_e, eq_self, and_self, if_true, true_and, and_true, lit_nI, nI_add, nI_mul, nI_sub, nI_clamp, nI_eq, nI_ltI, nI_leI, nN_e, nI_nN, nN_nI, bI_0, bI_1, bI_n, bool_0, bool_1, in_T, lg_cmp0, ofN_nI, a2, a3, g, z0, hop, z1, z2, z3, z4, h1, c2, c3, c6, y1, y2, y3, y4, h2, d6, ht, x_in, dlt_T, dle_T]
theorem st_letter {P : xP} {b len j F k : Nat} {sc : Nat → Int32} {σ σ1 σ2 : xS} {w : Int32} (hj : j + 5 ≤ len) (hl : len < 100000) (S : LwS P b len sc σ) (hop : sc j &&& nI 15 = nI 8) (h1 : dm_L_letter P (some P.base) (sc (j + 1)) (sc (j + 2)) (sc (j + 3)) (sc (j + 4)) (some (P.base + 43)) σ = some (.inl (nI k), σ1)) (S1 : LwS P b len sc σ1) (h2 : dm_X12_letter P (P.base + 11) (sc (j + 1)) (sc (j + 2)) (sc (j + 3)) (sc (j + 4)) σ1 = some (.inl w, σ2)) (S2 : LwS P b len sc σ2) (ht : σ2.I 1100 (P.base + 11) = nI k) (hk : k ≤ 1) (ho : k = 0 → σ2.AJ (P.base + 43) 0 = Int32.toInt64 w) : dm_L_law_L23 P (F + 1) (some b) (some P.base) (some (P.base + 11)) (some (P.base + 43)) (nI j) σ = dm_L_law_L23 P F (some b) (some P.base) (some (P.base + 11)) (some (P.base + 43)) (nI (j + 5)) σ2 := by
  obtain ⟨a1, a2, a3, a4, a5, a6, a7, a8⟩ := S
  obtain ⟨-, c2, c3, c4, c5, c6, c7, c8⟩ := S1
  obtain ⟨-, d2, d3, d4, d5, d6, d7, d8⟩ := S2
  have g : ¬ Int32.ofNat len - nI 5 < nI j := by rw [sub5 (by omega) (by omega)]; omega
  have z0 := a4 j (by omega)
  have g' : ¬ Int32.ofNat (σ.L b) - 5 < nI j := by rw [a3]; exact g
  have i0 : x_in (nI j) (σ.L b) := by rw [a3]; simp (disch := first | assumption | omega) [lit_nI, nI_add, nI_mul, nI_sub, nI_clamp, nI_eq, nI_ltI, nI_leI, nN_e, nI_nN, nN_nI, bI_0, bI_1, bI_n, bool_0, bool_1, in_T, lg_cmp0, ofN_nI, x_in, dlt_T, dle_T]
  have hv : σ.AI b (Int32.toNatClampNeg (nI j)) &&& 15 = nI 8 := by rw [nI_clamp (by omega), z0]; exact hop
  conv => lhs; unfold dm_L_law_L23
  rw [sm_s, chk_of a2, if_neg g', chk_of ⟨a2, i0⟩, lt_e, hv, if_neg (show ¬ nI 8 = 0 by decide), if_neg (show ¬ nI 8 = 1 by decide), if_neg (show ¬ nI 8 = 2 by decide), if_neg (show ¬ nI 8 = 3 by decide), if_neg (show ¬ nI 8 = 4 by decide), if_neg (show ¬ nI 8 = 5 by decide), if_neg (show ¬ nI 8 = 6 by decide), if_neg (show ¬ nI 8 = 7 by decide), if_pos (show nI 8 = 8 by decide)]
  unfold dm_L_law_p703 dm_L_law_p830 dm_X12_thrown
  have l0 : lg_cmp (Int32.toInt64 w) (Int32.toInt64 w) = nI 0 := lg_same _
  have z1 := a4 (j + 1) (by omega)
  have y1 := c4 (j + 1) (by omega)
  have z2 := a4 (j + 2) (by omega)
  have y2 := c4 (j + 2) (by omega)
  have z3 := a4 (j + 3) (by omega)
  have y3 := c4 (j + 3) (by omega)
  have z4 := a4 (j + 4) (by omega)
  have y4 := c4 (j + 4) (by omega)
  obtain rfl | rfl : k = 0 ∨ k = 1 := by omega
  · have ho := ho rfl
    simp (disch := first | assumption | omega) [ck_T, sm_s, bd_l, bd_r, lt_e, eq_self, and_self, if_true, true_and, and_true, lit_nI, nI_add, nI_mul, nI_sub, nI_clamp, nI_eq, nI_ltI, nI_leI, nN_e, nI_nN, nN_nI, bI_0, bI_1, bI_n, bool_0, bool_1, in_T, lg_cmp0, ofN_nI, a2, a3, g, z0, hop, z1, z2, z3, z4, h1, c2, c3, c6, y1, y2, y3, y4, h2, d6, ht, d7, d8, ho, l0, x_in, dlt_T, dle_T]
  · simp (disch := first | assumption | omega) [ck_T, sm_s, bd_l, bd_r, lt_e, eq_self, and_self, if_true, true_and, and_true, lit_nI, nI_add, nI_mul, nI_sub, nI_clamp, nI_eq, nI_ltI, nI_leI, nN_e, nI_nN, nN_nI, bI_0, bI_1, bI_n, bool_0, bool_1, in_T, lg_cmp0, ofN_nI, a2, a3, g, z0, hop, z1, z2, z3, z4, h1, c2, c3, c6, y1, y2, y3, y4, h2, d6, ht, x_in, dlt_T, dle_T]
theorem st_write {P : xP} {b len j F k : Nat} {sc : Nat → Int32} {σ σ1 σ2 : xS} {w : Int32} (hj : j + 5 ≤ len) (hl : len < 100000) (S : LwS P b len sc σ) (hop : sc j &&& nI 15 = nI 9) (h1 : dm_L_write P (some P.base) (sc (j + 1)) (sc (j + 2)) (some (P.base + 43)) σ = some (.inl (nI k), σ1)) (S1 : LwS P b len sc σ1) (h2 : dm_X12_write P (P.base + 11) (sc (j + 1)) (sc (j + 2)) σ1 = some (.inl w, σ2)) (S2 : LwS P b len sc σ2) (ht : σ2.I 1100 (P.base + 11) = nI k) (hk : k ≤ 1) (ho : k = 0 → σ2.AJ (P.base + 43) 0 = Int32.toInt64 w) : dm_L_law_L23 P (F + 1) (some b) (some P.base) (some (P.base + 11)) (some (P.base + 43)) (nI j) σ = dm_L_law_L23 P F (some b) (some P.base) (some (P.base + 11)) (some (P.base + 43)) (nI (j + 5)) σ2 := by
  obtain ⟨a1, a2, a3, a4, a5, a6, a7, a8⟩ := S
  obtain ⟨-, c2, c3, c4, c5, c6, c7, c8⟩ := S1
  obtain ⟨-, d2, d3, d4, d5, d6, d7, d8⟩ := S2
  have g : ¬ Int32.ofNat len - nI 5 < nI j := by rw [sub5 (by omega) (by omega)]; omega
  have z0 := a4 j (by omega)
  have g' : ¬ Int32.ofNat (σ.L b) - 5 < nI j := by rw [a3]; exact g
  have i0 : x_in (nI j) (σ.L b) := by rw [a3]; simp (disch := first | assumption | omega) [lit_nI, nI_add, nI_mul, nI_sub, nI_clamp, nI_eq, nI_ltI, nI_leI, nN_e, nI_nN, nN_nI, bI_0, bI_1, bI_n, bool_0, bool_1, in_T, lg_cmp0, ofN_nI, x_in, dlt_T, dle_T]
  have hv : σ.AI b (Int32.toNatClampNeg (nI j)) &&& 15 = nI 9 := by rw [nI_clamp (by omega), z0]; exact hop
  conv => lhs; unfold dm_L_law_L23
  rw [sm_s, chk_of a2, if_neg g', chk_of ⟨a2, i0⟩, lt_e, hv, if_neg (show ¬ nI 9 = 0 by decide), if_neg (show ¬ nI 9 = 1 by decide), if_neg (show ¬ nI 9 = 2 by decide), if_neg (show ¬ nI 9 = 3 by decide), if_neg (show ¬ nI 9 = 4 by decide), if_neg (show ¬ nI 9 = 5 by decide), if_neg (show ¬ nI 9 = 6 by decide), if_neg (show ¬ nI 9 = 7 by decide), if_neg (show ¬ nI 9 = 8 by decide), if_pos (show nI 9 = 9 by decide)]
  unfold dm_L_law_p771 dm_L_law_p830 dm_X12_thrown
  have l0 : lg_cmp (Int32.toInt64 w) (Int32.toInt64 w) = nI 0 := lg_same _
  have z1 := a4 (j + 1) (by omega)
  have y1 := c4 (j + 1) (by omega)
  have z2 := a4 (j + 2) (by omega)
  have y2 := c4 (j + 2) (by omega)
  obtain rfl | rfl : k = 0 ∨ k = 1 := by omega
  · have ho := ho rfl
    simp (disch := first | assumption | omega) [ck_T, sm_s, bd_l, bd_r, lt_e, eq_self, and_self, if_true, true_and, and_true, lit_nI, nI_add, nI_mul, nI_sub, nI_clamp, nI_eq, nI_ltI, nI_leI, nN_e, nI_nN, nN_nI, bI_0, bI_1, bI_n, bool_0, bool_1, in_T, lg_cmp0, ofN_nI, a2, a3, g, z0, hop, z1, z2, h1, c2, c3, c6, y1, y2, h2, d6, ht, d7, d8, ho, l0, x_in, dlt_T, dle_T]
  · simp (disch := first | assumption | omega) [ck_T, sm_s, bd_l, bd_r, lt_e, eq_self, and_self, if_true, true_and, and_true, lit_nI, nI_add, nI_mul, nI_sub, nI_clamp, nI_eq, nI_ltI, nI_leI, nN_e, nI_nN, nN_nI, bI_0, bI_1, bI_n, bool_0, bool_1, in_T, lg_cmp0, ofN_nI, a2, a3, g, z0, hop, z1, z2, h1, c2, c3, c6, y1, y2, h2, d6, ht, x_in, dlt_T, dle_T]
theorem st_count {P : xP} {b len j F k : Nat} {sc : Nat → Int32} {σ σ1 σ2 : xS} {w : Int32} (hj : j + 5 ≤ len) (hl : len < 100000) (S : LwS P b len sc σ) (hop : sc j &&& nI 15 = nI 10) (h1 : dm_L_count P (some P.base) (sc (j + 1)) (some (P.base + 43)) σ = some (.inl (nI k), σ1)) (S1 : LwS P b len sc σ1) (h2 : dm_X12_count P (P.base + 11) (sc (j + 1)) σ1 = some (.inl w, σ2)) (S2 : LwS P b len sc σ2) (ht : σ2.I 1100 (P.base + 11) = nI k) (hk : k ≤ 1) (ho : k = 0 → σ2.AJ (P.base + 43) 0 = Int32.toInt64 w) : dm_L_law_L23 P (F + 1) (some b) (some P.base) (some (P.base + 11)) (some (P.base + 43)) (nI j) σ = dm_L_law_L23 P F (some b) (some P.base) (some (P.base + 11)) (some (P.base + 43)) (nI (j + 5)) σ2 := by
  obtain ⟨a1, a2, a3, a4, a5, a6, a7, a8⟩ := S
  obtain ⟨-, c2, c3, c4, c5, c6, c7, c8⟩ := S1
  obtain ⟨-, d2, d3, d4, d5, d6, d7, d8⟩ := S2
  have g : ¬ Int32.ofNat len - nI 5 < nI j := by rw [sub5 (by omega) (by omega)]; omega
  have z0 := a4 j (by omega)
  have g' : ¬ Int32.ofNat (σ.L b) - 5 < nI j := by rw [a3]; exact g
  have i0 : x_in (nI j) (σ.L b) := by rw [a3]; simp (disch := first | assumption | omega) [lit_nI, nI_add, nI_mul, nI_sub, nI_clamp, nI_eq, nI_ltI, nI_leI, nN_e, nI_nN, nN_nI, bI_0, bI_1, bI_n, bool_0, bool_1, in_T, lg_cmp0, ofN_nI, x_in, dlt_T, dle_T]
  have hv : σ.AI b (Int32.toNatClampNeg (nI j)) &&& 15 = nI 10 := by rw [nI_clamp (by omega), z0]; exact hop
  conv => lhs; unfold dm_L_law_L23
  rw [sm_s, chk_of a2, if_neg g', chk_of ⟨a2, i0⟩, lt_e, hv, if_neg (show ¬ nI 10 = 0 by decide), if_neg (show ¬ nI 10 = 1 by decide), if_neg (show ¬ nI 10 = 2 by decide), if_neg (show ¬ nI 10 = 3 by decide), if_neg (show ¬ nI 10 = 4 by decide), if_neg (show ¬ nI 10 = 5 by decide), if_neg (show ¬ nI 10 = 6 by decide), if_neg (show ¬ nI 10 = 7 by decide), if_neg (show ¬ nI 10 = 8 by decide), if_neg (show ¬ nI 10 = 9 by decide), if_pos (show nI 10 = 10 by decide)]
  unfold dm_L_law_p827 dm_L_law_p830 dm_X12_thrown
  have l0 : lg_cmp (Int32.toInt64 w) (Int32.toInt64 w) = nI 0 := lg_same _
  have z1 := a4 (j + 1) (by omega)
  have y1 := c4 (j + 1) (by omega)
  obtain rfl | rfl : k = 0 ∨ k = 1 := by omega
  · have ho := ho rfl
    simp (disch := first | assumption | omega) [ck_T, sm_s, bd_l, bd_r, lt_e, eq_self, and_self, if_true, true_and, and_true, lit_nI, nI_add, nI_mul, nI_sub, nI_clamp, nI_eq, nI_ltI, nI_leI, nN_e, nI_nN, nN_nI, bI_0, bI_1, bI_n, bool_0, bool_1, in_T, lg_cmp0, ofN_nI, a2, a3, g, z0, hop, z1, h1, c2, c3, c6, y1, h2, d6, ht, d7, d8, ho, l0, x_in, dlt_T, dle_T]
  · simp (disch := first | assumption | omega) [ck_T, sm_s, bd_l, bd_r, lt_e, eq_self, and_self, if_true, true_and, and_true, lit_nI, nI_add, nI_mul, nI_sub, nI_clamp, nI_eq, nI_ltI, nI_leI, nN_e, nI_nN, nN_nI, bI_0, bI_1, bI_n, bool_0, bool_1, in_T, lg_cmp0, ofN_nI, a2, a3, g, z0, hop, z1, h1, c2, c3, c6, y1, h2, d6, ht, x_in, dlt_T, dle_T]
theorem st_read {P : xP} {b len j F k : Nat} {sc : Nat → Int32} {σ σ1 σ2 : xS} {w : Int32} (hj : j + 5 ≤ len) (hl : len < 100000) (S : LwS P b len sc σ) (hop : sc j &&& nI 15 = nI 2) (h1 : dm_L_read P (some P.base) (sc (j + 1)) (some (P.base + 43)) σ = some (.inl (nI k), σ1)) (S1 : LwS P b len sc σ1) (h2 : dm_X12_read P (P.base + 11) (sc (j + 1)) σ1 = some (.inl w, σ2)) (S2 : LwS P b len sc σ2) (ht : σ2.I 1100 (P.base + 11) = nI k) (hk : k ≤ 1) (ho : k = 0 → σ2.AJ (P.base + 43) 0 = Int32.toInt64 w) : dm_L_law_L23 P (F + 1) (some b) (some P.base) (some (P.base + 11)) (some (P.base + 43)) (nI j) σ = dm_L_law_L23 P F (some b) (some P.base) (some (P.base + 11)) (some (P.base + 43)) (nI (j + 5)) σ2 := by
  obtain ⟨a1, a2, a3, a4, a5, a6, a7, a8⟩ := S
  obtain ⟨-, c2, c3, c4, c5, c6, c7, c8⟩ := S1
  obtain ⟨-, d2, d3, d4, d5, d6, d7, d8⟩ := S2
  have g : ¬ Int32.ofNat len - nI 5 < nI j := by rw [sub5 (by omega) (by omega)]; omega
  have z0 := a4 j (by omega)
  have g' : ¬ Int32.ofNat (σ.L b) - 5 < nI j := by rw [a3]; exact g
  have i0 : x_in (nI j) (σ.L b) := by rw [a3]; simp (disch := first | assumption | omega) [lit_nI, nI_add, nI_mul, nI_sub, nI_clamp, nI_eq, nI_ltI, nI_leI, nN_e, nI_nN, nN_nI, bI_0, bI_1, bI_n, bool_0, bool_1, in_T, lg_cmp0, ofN_nI, x_in, dlt_T, dle_T]
  have hv : σ.AI b (Int32.toNatClampNeg (nI j)) &&& 15 = nI 2 := by rw [nI_clamp (by omega), z0]; exact hop
  conv => lhs; unfold dm_L_law_L23
  rw [sm_s, chk_of a2, if_neg g', chk_of ⟨a2, i0⟩, lt_e, hv, if_neg (show ¬ nI 2 = 0 by decide), if_neg (show ¬ nI 2 = 1 by decide), if_pos (show nI 2 = 2 by decide)]
  unfold dm_L_law_p199 dm_L_law_p830 dm_X12_thrown
  have l0 : lg_cmp (Int32.toInt64 w) (Int32.toInt64 w) = nI 0 := lg_same _
  have z1 := a4 (j + 1) (by omega)
  have y1 := c4 (j + 1) (by omega)
  obtain rfl | rfl : k = 0 ∨ k = 1 := by omega
  · have ho := ho rfl
    simp (disch := first | assumption | omega) [ck_T, sm_s, bd_l, bd_r, lt_e, eq_self, and_self, if_true, true_and, and_true, lit_nI, nI_add, nI_mul, nI_sub, nI_clamp, nI_eq, nI_ltI, nI_leI, nN_e, nI_nN, nN_nI, bI_0, bI_1, bI_n, bool_0, bool_1, in_T, lg_cmp0, ofN_nI, a2, a3, g, z0, hop, z1, h1, c2, c3, c6, y1, h2, d6, ht, d7, d8, ho, l0, x_in, dlt_T, dle_T]
  · simp (disch := first | assumption | omega) [ck_T, sm_s, bd_l, bd_r, lt_e, eq_self, and_self, if_true, true_and, and_true, lit_nI, nI_add, nI_mul, nI_sub, nI_clamp, nI_eq, nI_ltI, nI_leI, nN_e, nI_nN, nN_nI, bI_0, bI_1, bI_n, bool_0, bool_1, in_T, lg_cmp0, ofN_nI, a2, a3, g, z0, hop, z1, h1, c2, c3, c6, y1, h2, d6, ht, x_in, dlt_T, dle_T]
theorem st_unit {P : xP} {b len j F : Nat} {sc : Nat → Int32} {σ σ1 σ2 : xS} {w : Int32} (hj : j + 5 ≤ len) (hl : len < 100000) (S : LwS P b len sc σ) (hop : sc j &&& nI 15 = nI 0) (h1 : dm_X11_unit P P.base (sc (j + 1)) σ = some (.inl w, σ1)) (S1 : LwS P b len sc σ1) (h2 : dm_X12_unit P (P.base + 11) (sc (j + 1)) σ1 = some (.inl w, σ2)) : dm_L_law_L23 P (F + 1) (some b) (some P.base) (some (P.base + 11)) (some (P.base + 43)) (nI j) σ = dm_L_law_L23 P F (some b) (some P.base) (some (P.base + 11)) (some (P.base + 43)) (nI (j + 5)) σ2 := by
  obtain ⟨a1, a2, a3, a4, a5, a6, a7, a8⟩ := S
  obtain ⟨-, c2, c3, c4, c5, c6, c7, c8⟩ := S1
  have g : ¬ Int32.ofNat len - nI 5 < nI j := by rw [sub5 (by omega) (by omega)]; omega
  have z0 := a4 j (by omega)
  have g' : ¬ Int32.ofNat (σ.L b) - 5 < nI j := by rw [a3]; exact g
  have i0 : x_in (nI j) (σ.L b) := by rw [a3]; simp (disch := first | assumption | omega) [lit_nI, nI_add, nI_mul, nI_sub, nI_clamp, nI_eq, nI_ltI, nI_leI, nN_e, nI_nN, nN_nI, bI_0, bI_1, bI_n, bool_0, bool_1, in_T, lg_cmp0, ofN_nI, x_in, dlt_T, dle_T]
  have hv : σ.AI b (Int32.toNatClampNeg (nI j)) &&& 15 = nI 0 := by rw [nI_clamp (by omega), z0]; exact hop
  conv => lhs; unfold dm_L_law_L23
  rw [sm_s, chk_of a2, if_neg g', chk_of ⟨a2, i0⟩, lt_e, hv, if_pos (show nI 0 = 0 by decide)]
  unfold dm_L_law_p830
  have z1 := a4 (j + 1) (by omega)
  have y1 := c4 (j + 1) (by omega)
  simp (disch := first | assumption | omega) [ck_T, sm_s, bd_l, bd_r, lt_e, eq_self, and_self, if_true, true_and, and_true, lit_nI, nI_add, nI_mul, nI_sub, nI_clamp, nI_eq, nI_ltI, nI_leI, nN_e, nI_nN, nN_nI, bI_0, bI_1, bI_n, bool_0, bool_1, in_T, lg_cmp0, ofN_nI, a2, a3, a5, g, z0, hop, z1, h1, c2, c3, c6, y1, h2, x_in, dlt_T, dle_T]
theorem st_units {P : xP} {b len j F : Nat} {sc : Nat → Int32} {σ σ1 σ2 : xS} {w : Int32} (hj : j + 5 ≤ len) (hl : len < 100000) (S : LwS P b len sc σ) (hop : sc j &&& nI 15 = nI 1) (h1 : dm_X11_units P P.base (sc (j + 1)) σ = some (.inl w, σ1)) (S1 : LwS P b len sc σ1) (h2 : dm_X12_units P (P.base + 11) (sc (j + 1)) σ1 = some (.inl w, σ2)) : dm_L_law_L23 P (F + 1) (some b) (some P.base) (some (P.base + 11)) (some (P.base + 43)) (nI j) σ = dm_L_law_L23 P F (some b) (some P.base) (some (P.base + 11)) (some (P.base + 43)) (nI (j + 5)) σ2 := by
  obtain ⟨a1, a2, a3, a4, a5, a6, a7, a8⟩ := S
  obtain ⟨-, c2, c3, c4, c5, c6, c7, c8⟩ := S1
  have g : ¬ Int32.ofNat len - nI 5 < nI j := by rw [sub5 (by omega) (by omega)]; omega
  have z0 := a4 j (by omega)
  have g' : ¬ Int32.ofNat (σ.L b) - 5 < nI j := by rw [a3]; exact g
  have i0 : x_in (nI j) (σ.L b) := by rw [a3]; simp (disch := first | assumption | omega) [lit_nI, nI_add, nI_mul, nI_sub, nI_clamp, nI_eq, nI_ltI, nI_leI, nN_e, nI_nN, nN_nI, bI_0, bI_1, bI_n, bool_0, bool_1, in_T, lg_cmp0, ofN_nI, x_in, dlt_T, dle_T]
  have hv : σ.AI b (Int32.toNatClampNeg (nI j)) &&& 15 = nI 1 := by rw [nI_clamp (by omega), z0]; exact hop
  conv => lhs; unfold dm_L_law_L23
  rw [sm_s, chk_of a2, if_neg g', chk_of ⟨a2, i0⟩, lt_e, hv, if_neg (show ¬ nI 1 = 0 by decide), if_pos (show nI 1 = 1 by decide)]
  unfold dm_L_law_p830
  have z1 := a4 (j + 1) (by omega)
  have y1 := c4 (j + 1) (by omega)
  simp (disch := first | assumption | omega) [ck_T, sm_s, bd_l, bd_r, lt_e, eq_self, and_self, if_true, true_and, and_true, lit_nI, nI_add, nI_mul, nI_sub, nI_clamp, nI_eq, nI_ltI, nI_leI, nN_e, nI_nN, nN_nI, bI_0, bI_1, bI_n, bool_0, bool_1, in_T, lg_cmp0, ofN_nI, a2, a3, a5, g, z0, hop, z1, h1, c2, c3, c6, y1, h2, x_in, dlt_T, dle_T]
