/-! ===== how long a printed text can be ===== -/
theorem flat_le {α : Type} {f : α → List Nat} {c : Nat} : ∀ (l : List α), (∀ x ∈ l, (f x).length ≤ c) → (l.flatMap f).length ≤ c * l.length
  | [], _ => by simp
  | x :: l, h => by
    have h1 := h x List.mem_cons_self
    have h2 := flat_le l (fun y hy => h y (List.mem_cons_of_mem _ hy))
    rw [List.flatMap_cons, List.length_append, List.length_cons, Nat.mul_succ]
    omega
theorem if_le {α : Type} {c : Prop} {i : Decidable c} {a b : List α} {n : Nat} (h1 : a.length ≤ n) (h2 : b.length ≤ n) : (if c then a else b).length ≤ n := by
  split
  · exact h1
  · exact h2
theorem PW_nm {ns : List xNet} {r : xPart} (hw : NW ns) (h : PW ns r) : nm_ok r.2.2.1 ∧ r.2.2.2.2.2.length ≤ 7 := by
  rcases h with ⟨p1, p2, p3, p4, p5, p6, p7⟩ | ⟨p1, p2, y, p3, p4, p5, p6, p7, p8⟩
  · rw [p2]; exact ⟨nm_nil, p4⟩
  · have q := sp_find_mem p3
    rw [p2, ← q.2]
    exact ⟨(hw y q.1).1, by simp⟩
theorem part_le {ns : List xNet} {r : xPart} (hw : NW ns) (h : PW ns r) (lng : Bool) : (pr_part lng r).length ≤ 13 := by
  obtain ⟨h1, h2⟩ := PW_nm hw h
  have h3 := h1.1
  unfold pr_part
  cases lng
  · simp only [Bool.false_eq_true, if_false]
    refine if_le (by simp; omega) ?_
    rw [List.length_append]
    have : (if r.1 = 0 then ([] : List Nat) else [46] ++ ([48 + r.2.2.2.1] ++ ((if r.1 = 2 then [46] ++ [48 + r.2.2.2.2.1] else []) ++ []))).length ≤ 5 := by
      refine if_le (by simp) ?_
      simp only [List.length_append, List.length_cons, List.length_nil]
      have : (if r.1 = 2 then [46] ++ [48 + r.2.2.2.2.1] else ([] : List Nat)).length ≤ 2 := if_le (by simp) (by simp)
      omega
    omega
  · simp only [if_true]
    refine if_le (by simp; omega) ?_
    rw [List.length_append]
    have : (if r.1 = 0 then ([] : List Nat) else [91] ++ ([48 + r.2.2.2.1] ++ ((if r.1 = 2 then [58] ++ [48 + r.2.2.2.2.1] else []) ++ [93]))).length ≤ 5 := by
      refine if_le (by simp) ?_
      have : (if r.1 = 2 then [58] ++ [48 + r.2.2.2.2.1] else ([] : List Nat)).length ≤ 2 := if_le (by simp) (by simp)
      simp only [List.length_append, List.length_cons, List.length_nil] at this ⊢
      omega
    omega
theorem net_le {x : xNet} (h : nm_ok x.1) (lng : Bool) : (pr_net lng x).length ≤ 23 := by
  have h1 := h.1
  unfold pr_net
  cases lng
  · simp only [Bool.false_eq_true, if_false, List.length_append]
    have : (if x.2.1 = 0 then [105, 32] else if x.2.1 = 1 then [111, 32] else [119, 32]).length ≤ 2 := if_le (by simp) (if_le (by simp) (by simp))
    simp only [List.length_cons, List.length_nil] at this ⊢
    omega
  · simp only [if_true, List.length_append]
    have a : (if x.2.1 = 0 then [105, 110, 112, 117, 116, 32] else if x.2.1 = 1 then [111, 117, 116, 112, 117, 116, 32] else [119, 105, 114, 101, 32]).length ≤ 7 := if_le (by simp) (if_le (by simp) (by simp))
    have b : (if x.2.2 ≤ 1 then ([] : List Nat) else [91] ++ ([48 + (x.2.2 - 1)] ++ [58, 48, 93, 32])).length ≤ 6 := if_le (by simp) (by simp)
    simp only [List.length_cons, List.length_nil] at a b ⊢
    omega
theorem pn_cnt_le {lng : Bool} {ms : List xMod} {q : Nat} (hx : DX lng ms q) {m : xMod} (hm : m ∈ ms) {i : xIns} (hi : i ∈ m.ins) : pn_cnt ms i ≤ 16 := by
  unfold pn_cnt
  rcases pn_get (ms := ms) (i := i) with ⟨q1, q2⟩ | ⟨j, k, q1, q2, q3⟩
  · rw [q2]
    exact ((hx.2.2.1 m hm).1.2.2.2.2.1.2.2 i hi).2.2.1
  · rw [q3]
    have := (hx.2.2.1 k (List.mem_of_getElem? q2)).1.2.2.2.1.1
    simp only [xMod.nets, List.length_append] at this
    simp only
    omega
theorem pn_nm_ok {lng : Bool} {ms : List xMod} {q : Nat} (hx : DX lng ms q) {m : xMod} (hm : m ∈ ms) {i : xIns} (hi : i ∈ m.ins) (p : Nat) : nm_ok (pn_nm ms i p) := by
  unfold pn_nm
  split
  · split
    · exact nm_nil
    · rename_i l hl
      exact (((hx.2.2.1 m hm).1.2.1.2 i hi).2.2 l (List.mem_of_getElem? hl))
  · rename_i k hk
    split
    · exact nm_nil
    · rename_i x hx2
      have : k.2 ∈ ms := by
        unfold pn_mod at hk
        split at hk
        · cases hk
        · rename_i j _
          cases e : ms[j]? with
          | none => rw [e] at hk; cases hk
          | some z => rw [e] at hk; cases hk; exact List.mem_of_getElem? e
      exact ((hx.2.2.1 k.2 this).1.2.1.1 x (List.mem_append.mpr (Or.inl (List.mem_of_getElem? hx2)))).1
theorem pn_pw {lng : Bool} {ms : List xMod} {q : Nat} (hx : DX lng ms q) {m : xMod} (hm : m ∈ ms) {i : xIns} (hi : i ∈ m.ins) {p : Nat} {r : xPart} (h : pn_pt ms i p = some r) : PW m.nets r := by
  obtain ⟨l, h1, h2⟩ := pn_mem h
  exact (hx.2.2.1 m hm).1.1.2.1 i hi l h1 r h2
theorem ol_le {lng : Bool} {ms : List xMod} {q : Nat} (hx : DX lng ms q) {m : xMod} (hm : m ∈ ms) {i : xIns} (hi : i ∈ m.ins) (lg : Bool) (p : Nat) : (pr_ol lg (pn_pt ms i p)).length ≤ 13 := by
  unfold pr_ol
  split
  · simp
  · rename_i r hr
    exact part_le (hx.2.2.1 m hm).1.2.1.1 (pn_pw hx hm hi hr) lg
theorem pin_le {lng : Bool} {ms : List xMod} {q : Nat} (hx : DX lng ms q) {m : xMod} (hm : m ∈ ms) {i : xIns} (hi : i ∈ m.ins) (p : Nat) : (pr_pin ms i p).length ≤ 25 := by
  unfold pr_pin
  rw [List.length_append]
  have a : (if p = 0 then ([] : List Nat) else [44]).length ≤ 1 := if_le (by simp) (by simp)
  have b := ol_le hx hm hi true p
  have c : (pr_nl (pn_nm ms i p) (pn_pt ms i p)).length ≤ 24 := by
    have n := (pn_nm_ok hx hm hi p).1
    unfold pr_nl
    simp only [List.length_append, List.length_cons, List.length_nil]
    split
    · simp; omega
    · rename_i r hr
      have := part_le (hx.2.2.1 m hm).1.2.1.1 (pn_pw hx hm hi hr) true
      omega
  have d : (if pn_mod ms i = none ∧ i.2.2.2.1 = false then pr_ol true (pn_pt ms i p) else pr_nl (pn_nm ms i p) (pn_pt ms i p)).length ≤ 24 := if_le (by omega) c
  omega
theorem ins_le {lng : Bool} {ms : List xMod} {q : Nat} (hx : DX lng ms q) {m : xMod} (hm : m ∈ ms) {i : xIns} (hi : i ∈ m.ins) (lg : Bool) : (pr_ins ms lg i).length ≤ 421 := by
  have c := pn_cnt_le hx hm hi
  have n := (hx.2.2.1 m hm).1.2.1.2 i hi
  have n1 := n.1.1
  have n2 := n.2.1.1
  unfold pr_ins
  cases lg
  · simp only [Bool.false_eq_true, if_false, List.length_append, List.length_cons, List.length_nil]
    have f := flat_le (f := fun p => [32] ++ pr_ol false (pn_pt ms i p)) (c := 14) (List.range (pn_cnt ms i)) (fun p _ => by
      have := ol_le hx hm hi false p
      simp only [List.length_append, List.length_cons, List.length_nil]
      omega)
    rw [List.length_range] at f
    omega
  · simp only [if_true, List.length_append, List.length_cons, List.length_nil]
    have f := flat_le (f := pr_pin ms i) (c := 25) (List.range (pn_cnt ms i)) (fun p _ => pin_le hx hm hi p)
    rw [List.length_range] at f
    omega
theorem ports_le : ∀ (l : List xNet) (k : Nat), (∀ x ∈ l, nm_ok x.1) → (pr_ports k l).length ≤ 9 * l.length
  | [], _, _ => by simp [pr_ports]
  | x :: l, k, h => by
    have h1 := (h x List.mem_cons_self).1
    have h2 := ports_le l (k + 1) (fun y hy => h y (List.mem_cons_of_mem _ hy))
    have a : (if k = 0 then ([] : List Nat) else [44]).length ≤ 1 := if_le (by simp) (by simp)
    simp only [pr_ports, List.length_append, List.length_cons]
    omega
theorem mod_le {lng : Bool} {ms : List xMod} {q : Nat} (hx : DX lng ms q) {m : xMod} (hm : m ∈ ms) (lg : Bool) : (pr_mod ms lg m).length ≤ 6000 := by
  have fx := (hx.2.2.1 m hm).1
  have l1 := fx.2.2.2.1
  have n1 := fx.2.2.1.1
  have lp : m.ports.length ≤ m.nets.length := by simp [xMod.nets]
  have a := flat_le (f := pr_net lg) (c := 23) m.nets (fun x hx' => net_le (fx.2.1.1 x hx').1 lg)
  have b := flat_le (f := pr_asg lg) (c := 36) m.asg (fun x hx' => by
    have p1 := part_le fx.2.1.1 (fx.1.1 x hx').1 lg
    have p2 := part_le fx.2.1.1 (fx.1.1 x hx').2 lg
    unfold pr_asg
    have t : (if lg = true then [97, 115, 115, 105, 103, 110, 32] else [97, 32]).length ≤ 7 := if_le (by simp) (by simp)
    simp only [List.length_append, List.length_cons, List.length_nil] at t ⊢
    omega)
  have c := flat_le (f := pr_ins ms lg) (c := 421) m.ins (fun x hx' => ins_le hx hm hx' lg)
  have d := ports_le m.ports 0 (fun x hx' => (fx.2.1.1 x (List.mem_append.mpr (Or.inl hx'))).1)
  unfold pr_mod
  cases lg
  · simp only [Bool.false_eq_true, if_false, List.length_append, List.length_cons, List.length_nil]
    omega
  · simp only [if_true, List.length_append, List.length_cons, List.length_nil]
    omega
def pr_text (ms : List xMod) (lng : Bool) : List Nat := ms.flatMap (pr_mod ms lng)
theorem text_le {lng : Bool} {ms : List xMod} {q : Nat} (hx : DX lng ms q) (lg : Bool) : (pr_text ms lg).length ≤ 48000 := by
  have a := flat_le (f := pr_mod ms lg) (c := 6000) ms (fun m hm => mod_le hx hm lg)
  have := hx.1
  unfold pr_text
  omega
