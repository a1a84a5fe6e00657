/-! ===== the start: the String constants, the classes, the statics as the Statement has them ===== -/
def kOf : List (String × Nat) := [("NetlistForms$Printer", 77), ("NetlistForms$Printer", 88), ("NetlistForms$Printer", 79), ("NetlistForms$Printer", 144), ("NetlistForms$Printer", 113), ("NetlistForms$ShortReader", 51), ("NetlistForms$Printer", 182), ("NetlistForms$Words", 57), ("NetlistForms$Printer", 100), ("NetlistForms$ShortReader", 62), ("NetlistForms$Printer", 187), ("NetlistForms$Words", 59), ("NetlistForms$Printer", 126), ("NetlistForms$ShortReader", 35), ("NetlistForms$Printer", 189), ("NetlistForms$Words", 51), ("NetlistForms$Printer", 131), ("NetlistForms$ShortReader", 19), ("NetlistForms$Printer", 177), ("NetlistForms$Words", 45), ("NetlistForms$Printer", 58), ("NetlistForms$ShortReader", 47), ("NetlistForms$Printer", 191), ("NetlistForms$Words", 53), ("NetlistForms$Printer", 133), ("NetlistForms$ShortReader", 57), ("NetlistForms$Printer", 195), ("NetlistForms$ShortReader", 49), ("NetlistForms$Printer", 193), ("NetlistForms$Words", 55), ("NetlistForms$Printer", 135)]
def kTm (i : Nat) : Term := .string (kOf.getD i ("", 0)).1 (kOf.getD i ("", 0)).2
def kVal (i : Nat) : Term := .field (kTm i) "java/lang/String" "value" "[B"
def kBy (i : Nat) : List Nat := (sp_strs.getD i (0, [])).2
def kEl (i j : Nat) : Cond := .eq (.elem (kVal i) (.int (Int32.ofNat j))) (.int (Int32.ofNat ((kBy i).getD j 0)))
def kWs (i : Nat) : List Cond := [.exactly (kTm i) "java/lang/String", .eq (.field (kTm i) "java/lang/String" "coder" "B") (.int 0), .arrayOf (kVal i) .byte, .eq (.length (kVal i)) (.int (Int32.ofNat (kBy i).length))] ++ (List.range (kBy i).length).map (kEl i)
theorem kW_0 : kWs 0 = ((flatC (Jvm.Cond.and given_1 narrow_1)).drop 197).take 4 := by decide +kernel
theorem kW_1 : kWs 1 = ((flatC (Jvm.Cond.and given_1 narrow_1)).drop 206).take 7 := by decide +kernel
theorem kW_2 : kWs 2 = ((flatC (Jvm.Cond.and given_1 narrow_1)).drop 201).take 5 := by decide +kernel
theorem kW_3 : kWs 3 = ((flatC (Jvm.Cond.and given_1 narrow_1)).drop 243).take 8 := by decide +kernel
theorem kW_4 : kWs 4 = ((flatC (Jvm.Cond.and given_1 narrow_1)).drop 251).take 6 := by decide +kernel
theorem kW_5 : kWs 5 = ((flatC (Jvm.Cond.and given_1 narrow_1)).drop 171).take 5 := by decide +kernel
theorem kW_6 : kWs 6 = ((flatC (Jvm.Cond.and given_1 narrow_1)).drop 300).take 6 := by decide +kernel
theorem kW_7 : kWs 7 = ((flatC (Jvm.Cond.and given_1 narrow_1)).drop 74).take 10 := by decide +kernel
theorem kW_8 : kWs 8 = ((flatC (Jvm.Cond.and given_1 narrow_1)).drop 257).take 11 := by decide +kernel
theorem kW_9 : kWs 9 = ((flatC (Jvm.Cond.and given_1 narrow_1)).drop 181).take 5 := by decide +kernel
theorem kW_10 : kWs 10 = ((flatC (Jvm.Cond.and given_1 narrow_1)).drop 312).take 7 := by decide +kernel
theorem kW_11 : kWs 11 = ((flatC (Jvm.Cond.and given_1 narrow_1)).drop 84).take 7 := by decide +kernel
theorem kW_12 : kWs 12 = ((flatC (Jvm.Cond.and given_1 narrow_1)).drop 268).take 8 := by decide +kernel
theorem kW_13 : kWs 13 = ((flatC (Jvm.Cond.and given_1 narrow_1)).drop 156).take 5 := by decide +kernel
theorem kW_14 : kWs 14 = ((flatC (Jvm.Cond.and given_1 narrow_1)).drop 282).take 6 := by decide +kernel
theorem kW_15 : kWs 15 = ((flatC (Jvm.Cond.and given_1 narrow_1)).drop 47).take 9 := by decide +kernel
theorem kW_16 : kWs 16 = ((flatC (Jvm.Cond.and given_1 narrow_1)).drop 213).take 10 := by decide +kernel
theorem kW_17 : kWs 17 = ((flatC (Jvm.Cond.and given_1 narrow_1)).drop 151).take 5 := by decide +kernel
theorem kW_18 : kWs 18 = ((flatC (Jvm.Cond.and given_1 narrow_1)).drop 276).take 6 := by decide +kernel
theorem kW_19 : kWs 19 = ((flatC (Jvm.Cond.and given_1 narrow_1)).drop 37).take 10 := by decide +kernel
theorem kW_20 : kWs 20 = ((flatC (Jvm.Cond.and given_1 narrow_1)).drop 186).take 11 := by decide +kernel
theorem kW_21 : kWs 21 = ((flatC (Jvm.Cond.and given_1 narrow_1)).drop 161).take 5 := by decide +kernel
theorem kW_22 : kWs 22 = ((flatC (Jvm.Cond.and given_1 narrow_1)).drop 288).take 6 := by decide +kernel
theorem kW_23 : kWs 23 = ((flatC (Jvm.Cond.and given_1 narrow_1)).drop 56).take 10 := by decide +kernel
theorem kW_24 : kWs 24 = ((flatC (Jvm.Cond.and given_1 narrow_1)).drop 223).take 11 := by decide +kernel
theorem kW_25 : kWs 25 = ((flatC (Jvm.Cond.and given_1 narrow_1)).drop 176).take 5 := by decide +kernel
theorem kW_26 : kWs 26 = ((flatC (Jvm.Cond.and given_1 narrow_1)).drop 306).take 6 := by decide +kernel
theorem kW_27 : kWs 27 = ((flatC (Jvm.Cond.and given_1 narrow_1)).drop 166).take 5 := by decide +kernel
theorem kW_28 : kWs 28 = ((flatC (Jvm.Cond.and given_1 narrow_1)).drop 294).take 6 := by decide +kernel
theorem kW_29 : kWs 29 = ((flatC (Jvm.Cond.and given_1 narrow_1)).drop 66).take 8 := by decide +kernel
theorem kW_30 : kWs 30 = ((flatC (Jvm.Cond.and given_1 narrow_1)).drop 234).take 9 := by decide +kernel
theorem kWs_in (i : Nat) (hi : i < 31) : ∀ w ∈ kWs i, w ∈ flatC (Jvm.Cond.and given_1 narrow_1) := by
  have k : ∀ (p n : Nat) (l L : List Cond), l = (L.drop p).take n → ∀ w ∈ l, w ∈ L := fun p n l L e w hw => List.mem_of_mem_drop (List.mem_of_mem_take (e ▸ hw))
  match i, hi with
  | 0, _ => exact k _ _ _ _ kW_0
  | 1, _ => exact k _ _ _ _ kW_1
  | 2, _ => exact k _ _ _ _ kW_2
  | 3, _ => exact k _ _ _ _ kW_3
  | 4, _ => exact k _ _ _ _ kW_4
  | 5, _ => exact k _ _ _ _ kW_5
  | 6, _ => exact k _ _ _ _ kW_6
  | 7, _ => exact k _ _ _ _ kW_7
  | 8, _ => exact k _ _ _ _ kW_8
  | 9, _ => exact k _ _ _ _ kW_9
  | 10, _ => exact k _ _ _ _ kW_10
  | 11, _ => exact k _ _ _ _ kW_11
  | 12, _ => exact k _ _ _ _ kW_12
  | 13, _ => exact k _ _ _ _ kW_13
  | 14, _ => exact k _ _ _ _ kW_14
  | 15, _ => exact k _ _ _ _ kW_15
  | 16, _ => exact k _ _ _ _ kW_16
  | 17, _ => exact k _ _ _ _ kW_17
  | 18, _ => exact k _ _ _ _ kW_18
  | 19, _ => exact k _ _ _ _ kW_19
  | 20, _ => exact k _ _ _ _ kW_20
  | 21, _ => exact k _ _ _ _ kW_21
  | 22, _ => exact k _ _ _ _ kW_22
  | 23, _ => exact k _ _ _ _ kW_23
  | 24, _ => exact k _ _ _ _ kW_24
  | 25, _ => exact k _ _ _ _ kW_25
  | 26, _ => exact k _ _ _ _ kW_26
  | 27, _ => exact k _ _ _ _ kW_27
  | 28, _ => exact k _ _ _ _ kW_28
  | 29, _ => exact k _ _ _ _ kW_29
  | 30, _ => exact k _ _ _ _ kW_30
  | n + 31, h => omega
theorem kStr_in : ∀ q ∈ x_strs, Cond.stringRef q.1 q.2.1 q.2.2.1 ∈ lw_tbl := by decide +kernel
theorem kStr_at : ∀ q ∈ x_strs, q.2.2.2 < 31 ∧ (Term.string q.1 q.2.1 = kTm q.2.2.2 ∨ Cond.eq (kTm q.2.2.2) (.string q.1 q.2.1) ∈ flatC (Jvm.Cond.and given_1 narrow_1)) := by decide +kernel
theorem kSp : ∀ q ∈ sp_strs, q.1 < 31 ∧ q.2 = kBy q.1 := by decide +kernel
theorem kBy_ok : ∀ i ∈ List.range 31, (kBy i).length < 20 ∧ ∀ c ∈ kBy i, c < 128 := by decide +kernel
theorem kBy_inj : ∀ i ∈ List.range 31, ∀ j ∈ List.range 31, kBy i = kBy j → i = j := by decide +kernel
theorem k255 : ∀ c : Fin 128, nI c.1 = nI c.1 &&& 255 := by decide +kernel
/-- the String constant i is at a, its bytes at v -/
def kAt (A : Nat → Prop) (s : State) (i a v : Nat) : Prop := va_O "java/lang/String" a A s s.heap ∧ va_OF "java/lang/String" "coder" "B" (.int 0) a A s s.heap ∧ va_OF "java/lang/String" "value" "[B" (.ref v) a A s s.heap ∧ va_T .byte v (kBy i).length (fun j => .int (Int32.ofNat ((kBy i).getD j 0))) A s s.heap
theorem k_at {args : Array Value} {s : State} {A : Nat → Prop} (h : (Jvm.Cond.and given_1 narrow_1).before args s = true) (hA : ∀ a : Nat, a < s.heap.size → ¬ A a) (i : Nat) (hi : i < 31) : ∃ q : Nat × Nat, (kTm i).eval args s none [] s = some (.ref q.1) ∧ kAt A s i q.1 q.2 := by
  have hs := flat_of_before _ h
  have mi : i ∈ List.range 31 := List.mem_range.mpr hi
  have hw : ∀ w ∈ kWs i, w.before args s = true := fun w hw => hs w (kWs_in i hi w hw)
  have hex : (Cond.exactly (kTm i) "java/lang/String").before args s = true := hw _ (by simp [kWs])
  have hco : (Cond.eq (.field (kTm i) "java/lang/String" "coder" "B") (.int 0)).before args s = true := hw _ (by simp [kWs])
  have har : (Cond.arrayOf (kVal i) .byte).before args s = true := hw _ (by simp [kWs])
  have hle : (Cond.eq (.length (kVal i)) (.int (Int32.ofNat (kBy i).length))).before args s = true := hw _ (by simp [kWs])
  have hel : ∀ j : Nat, j < (kBy i).length → (kEl i j).before args s = true := fun j hj => hw _ (List.mem_append_right _ (List.mem_map.mpr ⟨j, List.mem_range.mpr hj, rfl⟩))
  obtain ⟨a, c, cA, kA, q1, q2, q3, q4, q5, q6, -⟩ := Cond.exactly_spec (args := args) (first := s) (o := none) (s := s) (idx := []) (t := kTm i) (cls := "java/lang/String") hex
  have lt := (kBy_ok i mi).1
  obtain ⟨t, ht, hT⟩ := va_Tof (f := fun j => .int (Int32.ofNat ((kBy i).getD j 0))) (A := A) (by omega) har (va_eqt hle) (fun j hj => va_eqt (hel j hj)) hA
  exact ⟨(a, t), q1, ⟨cA, q3, q5, by rw [q6]; exact q2, hA a (Array.getElem?_eq_some_iff.mp q3).1⟩, vk_OFof q1 (va_eqt hco) hA, vk_OFof q1 ht hA, hT⟩
/-- two constants at one address say the same -/
theorem k_one {s : State} {A : Nat → Prop} {i j a v w : Nat} (hi : i < 31) (hj : j < 31) (h1 : kAt A s i a v) (h2 : kAt A s j a w) : i = j := by
  have mi : i ∈ List.range 31 := List.mem_range.mpr hi
  have mj : j ∈ List.range 31 := List.mem_range.mpr hj
  obtain ⟨-, -, ⟨c1, k1, n1, f1, e1, a1, a2, a3, a4, a5, -⟩, ⟨t1, b1, b2, b3, b4, b5, b6, -⟩⟩ := h1
  obtain ⟨-, -, ⟨c2, k2, n2, f2, e2, d1, d2, d3, d4, d5, -⟩, ⟨t2, g1, g2, g3, g4, g5, g6, -⟩⟩ := h2
  cases a1.symm.trans d1
  cases a3.symm.trans d3
  cases Option.some.inj (a5.symm.trans d5)
  cases b1.symm.trans g1
  have l1 := (kBy_ok i mi).1
  have l2 := (kBy_ok j mj).1
  have el : (kBy i).length = (kBy j).length := (nI_eq (by omega) (by omega)).mp (b5.symm.trans g5)
  refine kBy_inj i mi j mj (List.ext_getElem? fun k => ?_)
  by_cases hk : k < (kBy i).length
  · have z1 := b6 k hk
    have z2 := g6 k (by omega)
    have z3 := Option.some.inj (z1.symm.trans z2)
    simp only [Value.int.injEq] at z3
    have q1 : (kBy i)[k]? = some ((kBy i)[k]) := List.getElem?_eq_getElem hk
    have q2 : (kBy j)[k]? = some ((kBy j)[k]) := List.getElem?_eq_getElem (by omega)
    have y1 := (kBy_ok i mi).2 _ (List.mem_of_getElem? q1)
    have y2 := (kBy_ok j mj).2 _ (List.mem_of_getElem? q2)
    rw [List.getD_eq_getElem?_getD, List.getD_eq_getElem?_getD, q1, q2] at z3
    simp only [Option.getD_some] at z3
    have z4 : nI (kBy i)[k] = nI (kBy j)[k] := z3
    rw [nI_eq (by omega) (by omega)] at z4
    rw [q1, q2, z4]
  · rw [List.getElem?_eq_none (by omega), List.getElem?_eq_none (by omega)]
theorem k_ks {s : State} {b : Nat} (hts : ∀ w ∈ lw_tbl, w.before #[Value.ref b] s = true) : ∃ d : Nat → ClassId × (Nat → Nat), ∀ (c : Nat) (q : vw_C), vwCl[c]? = some q → u_Kn s q.1 q.2.1 q.2.2 (d c).1 (d c).2 := by
  have h : ∀ c : Nat, ∃ d : ClassId × (Nat → Nat), ∀ q : vw_C, vwCl[c]? = some q → u_Kn s q.1 q.2.1 q.2.2 d.1 d.2 := by
    intro c
    match c with
    | 0 =>
      obtain ⟨cC, iS, hk⟩ := u_known (C := RX0) (T := TX0) (N := 2) (n := 2) hts (fun w hw => (fun h => (List.mem_filter.mp h).1) (inX0 w hw)) (hts (.instantiable RX0 2) (by decide +kernel))
      exact ⟨(cC, iS), fun q hq => by cases hq; exact hk⟩
    | 1 =>
      obtain ⟨cC, iS, hk⟩ := u_known (C := RX1) (T := TX1) (N := 7) (n := 7) hts (fun w hw => (fun h => (List.mem_filter.mp h).1) (inX1 w hw)) (hts (.instantiable RX1 7) (by decide +kernel))
      exact ⟨(cC, iS), fun q hq => by cases hq; exact hk⟩
    | 2 =>
      obtain ⟨cC, iS, hk⟩ := u_known (C := RX2) (T := TX2) (N := 3) (n := 3) hts (fun w hw => (fun h => (List.mem_filter.mp h).1) (inX2 w hw)) (hts (.instantiable RX2 3) (by decide +kernel))
      exact ⟨(cC, iS), fun q hq => by cases hq; exact hk⟩
    | 3 =>
      obtain ⟨cC, iS, hk⟩ := u_known (C := RX3) (T := TX3) (N := 3) (n := 3) hts (fun w hw => (fun h => (List.mem_filter.mp h).1) (inX3 w hw)) (hts (.instantiable RX3 3) (by decide +kernel))
      exact ⟨(cC, iS), fun q hq => by cases hq; exact hk⟩
    | 4 =>
      obtain ⟨cC, iS, hk⟩ := u_known (C := RX4) (T := TX4) (N := 4) (n := 4) hts (fun w hw => (fun h => (List.mem_filter.mp h).1) (inX4 w hw)) (hts (.instantiable RX4 4) (by decide +kernel))
      exact ⟨(cC, iS), fun q hq => by cases hq; exact hk⟩
    | 5 =>
      obtain ⟨cC, iS, hk⟩ := u_known (C := RX5) (T := TX5) (N := 13) (n := 13) hts (fun w hw => (fun h => (List.mem_filter.mp h).1) (inX5 w hw)) (hts (.instantiable RX5 13) (by decide +kernel))
      exact ⟨(cC, iS), fun q hq => by cases hq; exact hk⟩
    | 6 =>
      obtain ⟨cC, iS, hk⟩ := u_known (C := RX6) (T := TX6) (N := 6) (n := 6) hts (fun w hw => (fun h => (List.mem_filter.mp h).1) (inX6 w hw)) (hts (.instantiable RX6 6) (by decide +kernel))
      exact ⟨(cC, iS), fun q hq => by cases hq; exact hk⟩
    | 7 =>
      obtain ⟨cC, iS, hk⟩ := u_known (C := RX7) (T := TX7) (N := 3) (n := 3) hts (fun w hw => (fun h => (List.mem_filter.mp h).1) (inX7 w hw)) (hts (.instantiable RX7 3) (by decide +kernel))
      exact ⟨(cC, iS), fun q hq => by cases hq; exact hk⟩
    | 8 =>
      obtain ⟨cC, iS, hk⟩ := u_known (C := RX9) (T := TX9) (N := 3) (n := 3) hts (fun w hw => (fun h => (List.mem_filter.mp h).1) (inX9 w hw)) (hts (.instantiable RX9 3) (by decide +kernel))
      exact ⟨(cC, iS), fun q hq => by cases hq; exact hk⟩
    | 9 =>
      obtain ⟨cC, iS, hk⟩ := u_known (C := RX10) (T := TX10) (N := 7) (n := 7) hts (fun w hw => (fun h => (List.mem_filter.mp h).1) (inX10 w hw)) (hts (.instantiable RX10 7) (by decide +kernel))
      exact ⟨(cC, iS), fun q hq => by cases hq; exact hk⟩
    | 10 =>
      obtain ⟨cC, iS, hk⟩ := u_known (C := RX11) (T := TX11) (N := 5) (n := 5) hts (fun w hw => (fun h => (List.mem_filter.mp h).1) (inX11 w hw)) (hts (.instantiable RX11 5) (by decide +kernel))
      exact ⟨(cC, iS), fun q hq => by cases hq; exact hk⟩
    | 11 =>
      obtain ⟨cC, iS, hk⟩ := u_known (C := RX12) (T := TX12) (N := 45) (n := 45) hts (fun w hw => (fun h => (List.mem_filter.mp h).1) (inX12 w hw)) (hts (.instantiable RX12 45) (by decide +kernel))
      exact ⟨(cC, iS), fun q hq => by cases hq; exact hk⟩
    | c + 12 => exact ⟨(0, fun _ => 0), fun q hq => by simp [vwCl] at hq⟩
  obtain ⟨d, hd⟩ := Classical.axiomOfChoice h
  exact ⟨d, hd⟩
theorem k_ar {s : State} {b : Nat} (hts : ∀ w ∈ lw_tbl, w.before #[Value.ref b] s = true) : ∃ cy : Nat → ClassId, ∀ k, 20 ≤ k → k ≤ 28 → ArrOfT s (cy k) (x_ty k) ∧ va_RA s (cy k) (x_ty k) := by
  have h : ∀ k : Nat, ∃ cA : ClassId, 20 ≤ k → k ≤ 28 → ArrOfT s cA (x_ty k) ∧ va_RA s cA (x_ty k) := by
    intro k
    by_cases hk : 20 ≤ k ∧ k ≤ 28
    · suffices z : ∃ cA : ClassId, ArrOfT s cA (x_ty k) ∧ va_RA s cA (x_ty k) by
        obtain ⟨cA, z⟩ := z
        exact ⟨cA, fun _ _ => z⟩
      obtain rfl | rfl | rfl | rfl | rfl | rfl | rfl | rfl | rfl : k = 20 ∨ k = 21 ∨ k = 22 ∨ k = 23 ∨ k = 24 ∨ k = 25 ∨ k = 26 ∨ k = 27 ∨ k = 28 := by omega
      · obtain ⟨cA, kA, comp, h1, h2, h3⟩ := Cond.arrayClass_spec (args := #[Value.ref b]) (first := s) (o := none) (s := s) (idx := []) (type := .char) (hts (.arrayClass .char) (by decide +kernel))
        exact ⟨cA, fun N z => ⟨(fun k h => by cases h), kA, h2, comp, h3⟩, h1⟩
      · obtain ⟨cA, kA, comp, h1, h2, h3⟩ := Cond.arrayClass_spec (args := #[Value.ref b]) (first := s) (o := none) (s := s) (idx := []) (type := .int) (hts (.arrayClass .int) (by decide +kernel))
        exact ⟨cA, fun N z => ⟨(fun k h => by cases h), kA, h2, comp, h3⟩, h1⟩
      · obtain ⟨cA, kA, comp, h1, h2, h3⟩ := Cond.arrayClass_spec (args := #[Value.ref b]) (first := s) (o := none) (s := s) (idx := []) (type := .long) (hts (.arrayClass .long) (by decide +kernel))
        exact ⟨cA, fun N z => ⟨(fun k h => by cases h), kA, h2, comp, h3⟩, h1⟩
      · obtain ⟨cA, kA, comp, h1, h2, h3⟩ := Cond.arrayClass_spec (args := #[Value.ref b]) (first := s) (o := none) (s := s) (idx := []) (type := .boolean) (hts (.arrayClass .boolean) (by decide +kernel))
        exact ⟨cA, fun N z => ⟨(fun k h => by cases h), kA, h2, comp, h3⟩, h1⟩
      · obtain ⟨comp, cA, kA, h1, h2, h3, h4, h5⟩ := Cond.arrayOver_spec (args := #[Value.ref b]) (first := s) (o := none) (s := s) (idx := []) (n := "NetlistForms$Instance") (hts (.arrayOver (.object "NetlistForms$Instance")) (by decide +kernel))
        exact ⟨cA, fun N z => ⟨(fun k h => by cases h), kA, h3, comp, h4⟩, kA, comp, h3, h4, h1, h5⟩
      · obtain ⟨comp, cA, kA, h1, h2, h3, h4, h5⟩ := Cond.arrayOver_spec (args := #[Value.ref b]) (first := s) (o := none) (s := s) (idx := []) (n := "NetlistForms$Link") (hts (.arrayOver (.object "NetlistForms$Link")) (by decide +kernel))
        exact ⟨cA, fun N z => ⟨(fun k h => by cases h), kA, h3, comp, h4⟩, kA, comp, h3, h4, h1, h5⟩
      · obtain ⟨comp, cA, kA, h1, h2, h3, h4, h5⟩ := Cond.arrayOver_spec (args := #[Value.ref b]) (first := s) (o := none) (s := s) (idx := []) (n := "NetlistForms$Net") (hts (.arrayOver (.object "NetlistForms$Net")) (by decide +kernel))
        exact ⟨cA, fun N z => ⟨(fun k h => by cases h), kA, h3, comp, h4⟩, kA, comp, h3, h4, h1, h5⟩
      · obtain ⟨comp, cA, kA, h1, h2, h3, h4, h5⟩ := Cond.arrayOver_spec (args := #[Value.ref b]) (first := s) (o := none) (s := s) (idx := []) (n := "NetlistForms$NetModule") (hts (.arrayOver (.object "NetlistForms$NetModule")) (by decide +kernel))
        exact ⟨cA, fun N z => ⟨(fun k h => by cases h), kA, h3, comp, h4⟩, kA, comp, h3, h4, h1, h5⟩
      · obtain ⟨comp, cA, kA, h1, h2, h3, h4, h5⟩ := Cond.arrayOver_spec (args := #[Value.ref b]) (first := s) (o := none) (s := s) (idx := []) (n := "NetlistForms$Part") (hts (.arrayOver (.object "NetlistForms$Part")) (by decide +kernel))
        exact ⟨cA, fun N z => ⟨(fun k h => by cases h), kA, h3, comp, h4⟩, kA, comp, h3, h4, h1, h5⟩
    · exact ⟨0, fun h1 h2 => absurd ⟨h1, h2⟩ hk⟩
  obtain ⟨cy, hc⟩ := Classical.axiomOfChoice h
  exact ⟨cy, hc⟩
