/-! ===== the class: printing modules, write ===== -/
theorem drop_get {α : Type} {l : List α} {j : Nat} {x : α} (h : l[j]? = some x) : l.drop j = x :: l.drop (j + 1) := by
  obtain ⟨hlt, hx3⟩ := List.getElem?_eq_some_iff.mp h
  rw [List.drop_eq_getElem_cons hlt, hx3]
theorem MOK.len {P : xP} {σ : xS} {D : Nat} {A H : Nat → Nat} {G : Nat → List Nat → Nat} {ms : List xMod} {top ix : Nat} {m : xMod} (h : MOK P σ D A H G ms top ix m) : m.nets.length ≤ 16 ∧ m.asg.length ≤ 8 ∧ m.ins.length ≤ 12 ∧ m.ports.length ≤ m.nets.length := by
  obtain ⟨C, ⟨⟨lng, -, dr, hc, hx⟩, -⟩, -, hm⟩ := h
  have := (hx.2.2.1 m (List.mem_of_getElem? hm)).1.2.2.2.1
  exact ⟨this.1, this.2.1, this.2.2, by simp [xMod.nets]⟩
theorem MOK.ins {P : xP} {σ : xS} {D : Nat} {A H : Nat → Nat} {G : Nat → List Nat → Nat} {ms : List xMod} {top ix : Nat} {m : xMod} (h : MOK P σ D A H G ms top ix m) {j : Nat} {i : xIns} (hi : m.ins[j]? = some i) : ∃ a, σ.AR (A ix + 4) j = some a ∧ IOK P σ D A H G ms top (G ix) (A ix + 5) (H ix) a m i := by
  obtain ⟨a, q1, q2⟩ := h.get.2.1.2.2.2.2.2.2 j i hi
  exact ⟨a, q1, h.2.1, h.2.2.1, List.mem_of_getElem? h.2.2.2, List.mem_of_getElem? hi, q2⟩
theorem pt_lm152 {P : xP} {σ0 : xS} {D : Nat} {A H : Nat → Nat} {G : Nat → List Nat → Nat} {ms : List xMod} {top ix : Nat} {m : xMod} (w : Nat) (h : MOK P σ0 D A H G ms top ix m) : ∀ (r j n : Nat) (l : List Nat), j + r = m.ins.length → r < n → dm_X7_printLong_L152 P (P.base + 8) n (some (A ix)) (nI j) (pS P σ0 true w l) = some (.inl (), pS P σ0 true w (l ++ ((m.ins.drop j).flatMap (pr_ins ms true) ++ [101, 110, 100, 10]))) := by
  have C := h.1
  have ln := h.len
  have k8 := ci_22 C
  have mr := h.get.2.1
  obtain ⟨⟨a1, kA, a3, a4, a5⟩, -, -, ⟨d1, d2, d3, d4, d5⟩, -, -, -⟩ := mr
  have t1 := pt_text C true w (q := (12, [101, 110, 100, 10])) (by decide)
  simp only at t1
  intro r
  induction r with
  | zero =>
    intro j n l hj hn
    obtain ⟨n, rfl⟩ : ∃ m, n = m + 1 := ⟨n - 1, by omega⟩
    have e : m.ins.drop j = [] := List.drop_eq_nil_of_le (by omega)
    have e1 : m.ins.length ≤ j := by omega
    rw [e]
    unfold dm_X7_printLong_L152
    simp (disch := first | assumption | omega) [ck_T, sm_s, bd_l, bd_r, lt_e, eq_self, and_self, if_true, true_and, and_true, lit_nI, nI_add, nI_mul, nI_sub, nI_clamp, nI_eq, nI_ltI, nI_leI, nN_e, nI_nN, nN_nI, bI_0, bI_1, bI_n, bool_0, bool_1, in_T, lg_cmp0, ofN_nI, pS_K, pS_I, k8, kA, d4, e1, t1]
  | succ r ih =>
    intro j n l hj hn
    obtain ⟨n, rfl⟩ : ∃ m, n = m + 1 := ⟨n - 1, by omega⟩
    obtain ⟨x, hx⟩ : ∃ x, m.ins[j]? = some x := ⟨_, List.getElem?_eq_getElem (by omega)⟩
    obtain ⟨a, q1, ok⟩ := h.ins hx
    have pi := pt_li w h ok l
    have e1 : ¬ m.ins.length ≤ j := by omega
    have j12 : j < 12 := by omega
    have ihh := ih (j + 1) n (l ++ pr_ins ms true x) (by omega) (by omega)
    rw [drop_get hx, List.flatMap_cons]
    have ea : l ++ (pr_ins ms true x ++ (m.ins.drop (j + 1)).flatMap (pr_ins ms true) ++ [101, 110, 100, 10]) = l ++ pr_ins ms true x ++ ((m.ins.drop (j + 1)).flatMap (pr_ins ms true) ++ [101, 110, 100, 10]) := by simp
    rw [ea, ← ihh]
    conv => lhs; unfold dm_X7_printLong_L152
    simp (disch := first | assumption | omega) [ck_T, sm_s, bd_l, bd_r, lt_e, eq_self, and_self, if_true, true_and, and_true, lit_nI, nI_add, nI_mul, nI_sub, nI_clamp, nI_eq, nI_ltI, nI_leI, nN_e, nI_nN, nN_nI, bI_0, bI_1, bI_n, bool_0, bool_1, in_T, lg_cmp0, ofN_nI, pS_K, pS_I, pS_R, pS_L, pS_AR, k8, kA, d1, d2, d3, d4, e1, q1, pi, x_in, dlt_T]
theorem pt_lm98 {P : xP} {σ0 : xS} {D : Nat} {A H : Nat → Nat} {G : Nat → List Nat → Nat} {ms : List xMod} {top ix : Nat} {m : xMod} (w : Nat) (h : MOK P σ0 D A H G ms top ix m) : ∀ (r j n : Nat) (l : List Nat), j + r = m.asg.length → r < n → dm_X7_printLong_L98 P (P.base + 8) n (some (A ix)) (nI j) (pS P σ0 true w l) = dm_X7_printLong_L152 P (P.base + 8) P.N (some (A ix)) (nI 0) (pS P σ0 true w (l ++ (m.asg.drop j).flatMap (pr_asg true))) := by
  have C := h.1
  have ln := h.len
  have k8 := ci_22 C
  obtain ⟨hA, mr, fb, aw, mw, -, -⟩ := h.get
  obtain ⟨⟨a1, kA, a3, a4, a5⟩, -, ⟨c1, c2, c3, c4, c5, c6, c7, c8⟩, -, -, e2, -⟩ := id mr
  have t1 := pt_text C true w (q := (8, [97, 115, 115, 105, 103, 110, 32])) (by decide)
  have t2 := pt_text C true w (q := (4, [59, 10])) (by decide)
  simp only at t1 t2
  have u := pt_put C true w
  intro r
  induction r with
  | zero =>
    intro j n l hj hn
    obtain ⟨n, rfl⟩ : ∃ m, n = m + 1 := ⟨n - 1, by omega⟩
    have e : m.asg.drop j = [] := List.drop_eq_nil_of_le (by omega)
    have e1 : m.asg.length ≤ j := by omega
    rw [e]
    unfold dm_X7_printLong_L98
    simp (disch := first | assumption | omega) [ck_T, sm_s, bd_l, bd_r, lt_e, eq_self, and_self, if_true, true_and, and_true, lit_nI, nI_add, nI_mul, nI_sub, nI_clamp, nI_eq, nI_ltI, nI_leI, nN_e, nI_nN, nN_nI, bI_0, bI_1, bI_n, bool_0, bool_1, in_T, lg_cmp0, ofN_nI, pS_K, pS_I, k8, kA, c7, e1]
  | succ r ih =>
    intro j n l hj hn
    obtain ⟨n, rfl⟩ : ∃ m, n = m + 1 := ⟨n - 1, by omega⟩
    obtain ⟨x, hx⟩ : ∃ x, m.asg[j]? = some x := ⟨_, List.getElem?_eq_getElem (by omega)⟩
    obtain ⟨a, b, q1, q2, q3, q4⟩ := e2 j x hx
    have pw := aw.1 x (List.mem_of_getElem? hx)
    have p1 := pt_part C true w (show P.base + 8 < A ix + 5 by omega) (show P.base + 8 < A ix by omega) q3 mr fb pw.1 mw.1
    have p2 := pt_part C true w (show P.base + 8 < A ix + 5 by omega) (show P.base + 8 < A ix by omega) q4 mr fb pw.2 mw.1
    have e1 : ¬ m.asg.length ≤ j := by omega
    have j8 : j < 8 := by omega
    have ihh := ih (j + 1) n (l ++ pr_asg true x) (by omega) (by omega)
    rw [drop_get hx, List.flatMap_cons, ← List.append_assoc, ← ihh]
    conv => lhs; unfold dm_X7_printLong_L98
    simp (disch := first | assumption | omega) [ck_T, sm_s, bd_l, bd_r, lt_e, eq_self, and_self, if_true, true_and, and_true, lit_nI, nI_add, nI_mul, nI_sub, nI_clamp, nI_eq, nI_ltI, nI_leI, nN_e, nI_nN, nN_nI, bI_0, bI_1, bI_n, bool_0, bool_1, in_T, lg_cmp0, ofN_nI, pS_K, pS_I, pS_R, pS_L, pS_AR, k8, kA, c1, c2, c3, c4, c5, c6, c7, e1, q1, q2, p1, p2, t1, t2, u, x_in, dlt_T, pr_asg]
theorem pt_lm72 {P : xP} {σ0 : xS} {D : Nat} {A H : Nat → Nat} {G : Nat → List Nat → Nat} {ms : List xMod} {top ix : Nat} {m : xMod} (w : Nat) (h : MOK P σ0 D A H G ms top ix m) : ∀ (r j n : Nat) (l : List Nat), j + r = m.nets.length → r < n → dm_X7_printLong_L72 P (P.base + 8) n (some (A ix)) (nI j) (pS P σ0 true w l) = dm_X7_printLong_L98 P (P.base + 8) P.N (some (A ix)) (nI 0) (pS P σ0 true w (l ++ (m.nets.drop j).flatMap (pr_net true))) := by
  have C := h.1
  have ln := h.len
  have k8 := ci_22 C
  obtain ⟨hA, mr, fb, aw, mw, -, tl⟩ := h.get
  obtain ⟨⟨a1, kA, a3, a4, a5⟩, ⟨b1, b2, b3, b4, b5, b6⟩, -, -, e1', -, -⟩ := id mr
  intro r
  induction r with
  | zero =>
    intro j n l hj hn
    obtain ⟨n, rfl⟩ : ∃ m, n = m + 1 := ⟨n - 1, by omega⟩
    have e : m.nets.drop j = [] := List.drop_eq_nil_of_le (by omega)
    have e1 : m.nets.length ≤ j := by omega
    rw [e]
    unfold dm_X7_printLong_L72
    simp (disch := first | assumption | omega) [ck_T, sm_s, bd_l, bd_r, lt_e, eq_self, and_self, if_true, true_and, and_true, lit_nI, nI_add, nI_mul, nI_sub, nI_clamp, nI_eq, nI_ltI, nI_leI, nN_e, nI_nN, nN_nI, bI_0, bI_1, bI_n, bool_0, bool_1, in_T, lg_cmp0, ofN_nI, pS_K, pS_I, k8, kA, b4, e1]
  | succ r ih =>
    intro j n l hj hn
    obtain ⟨n, rfl⟩ : ∃ m, n = m + 1 := ⟨n - 1, by omega⟩
    obtain ⟨x, hx⟩ : ∃ x, m.nets[j]? = some x := ⟨_, List.getElem?_eq_getElem (by omega)⟩
    obtain ⟨q1, q2⟩ := e1' j x hx
    have xm := List.mem_of_getElem? hx
    have nw := mw.1 x xm
    have t3 := tl x xm
    have pn := pt_longNet C true w q2 nw.1 (by omega) nw.2.2.1 l
    have e1 : ¬ m.nets.length ≤ j := by omega
    have j16 : j < 16 := by omega
    have ihh := ih (j + 1) n (l ++ pr_net true x) (by omega) (by omega)
    rw [drop_get hx, List.flatMap_cons, ← List.append_assoc, ← ihh]
    conv => lhs; unfold dm_X7_printLong_L72
    simp (disch := first | assumption | omega) [ck_T, sm_s, bd_l, bd_r, lt_e, eq_self, and_self, if_true, true_and, and_true, lit_nI, nI_add, nI_mul, nI_sub, nI_clamp, nI_eq, nI_ltI, nI_leI, nN_e, nI_nN, nN_nI, bI_0, bI_1, bI_n, bool_0, bool_1, in_T, lg_cmp0, ofN_nI, pS_K, pS_I, pS_R, pS_L, pS_AR, k8, kA, b1, b2, b3, b4, e1, q1, pn, x_in, dlt_T]
theorem pt_lm22 {P : xP} {σ0 : xS} {D : Nat} {A H : Nat → Nat} {G : Nat → List Nat → Nat} {ms : List xMod} {top ix : Nat} {m : xMod} (w : Nat) (h : MOK P σ0 D A H G ms top ix m) : ∀ (r j n : Nat) (l : List Nat), j + r = m.ports.length → r < n → dm_X7_printLong_L22 P (P.base + 8) n (some (A ix)) (nI j) (pS P σ0 true w l) = dm_X7_printLong_L72 P (P.base + 8) P.N (some (A ix)) (nI 0) (pS P σ0 true w (l ++ (pr_ports j (m.ports.drop j) ++ [41, 59, 10]))) := by
  have C := h.1
  have ln := h.len
  have k8 := ci_22 C
  obtain ⟨hA, mr, fb, aw, mw, -, tl⟩ := h.get
  obtain ⟨⟨a1, kA, a3, a4, a5⟩, ⟨b1, b2, b3, b4, b5, b6⟩, -, -, e1', -, -⟩ := id mr
  have t1 := pt_text C true w (q := (1, [41, 59, 10])) (by decide)
  have s0 := pt_text C true w (q := (0, [])) (by decide)
  have s2 := pt_text C true w (q := (2, [44])) (by decide)
  simp only at t1 s0 s2
  intro r
  induction r with
  | zero =>
    intro j n l hj hn
    obtain ⟨n, rfl⟩ : ∃ m, n = m + 1 := ⟨n - 1, by omega⟩
    have e : m.ports.drop j = [] := List.drop_eq_nil_of_le (by omega)
    have e1 : m.ports.length ≤ j := by omega
    rw [e]
    unfold dm_X7_printLong_L22
    simp (disch := first | assumption | omega) [ck_T, sm_s, bd_l, bd_r, lt_e, eq_self, and_self, if_true, true_and, and_true, lit_nI, nI_add, nI_mul, nI_sub, nI_clamp, nI_eq, nI_ltI, nI_leI, nN_e, nI_nN, nN_nI, bI_0, bI_1, bI_n, bool_0, bool_1, in_T, lg_cmp0, ofN_nI, pS_K, pS_I, k8, kA, b5, e1, t1, pr_ports]
  | succ r ih =>
    intro j n l hj hn
    obtain ⟨n, rfl⟩ : ∃ m, n = m + 1 := ⟨n - 1, by omega⟩
    obtain ⟨x, hx⟩ : ∃ x, m.ports[j]? = some x := ⟨_, List.getElem?_eq_getElem (by omega)⟩
    obtain ⟨q1, q2⟩ := e1' j x (ports_nets hx)
    have nw := mw.1 x (List.mem_of_getElem? (ports_nets hx))
    have pn := pt_name C true w nw.1
    have kx := q2.2.2.1
    have jx := q2.2.2.2.1
    have e1 : ¬ m.ports.length ≤ j := by omega
    have j16 : j < 16 := by omega
    have ihh := ih (j + 1) n (l ++ ((if j = 0 then [] else [44]) ++ x.1)) (by omega) (by omega)
    rw [drop_get hx]
    have ea : l ++ (pr_ports j (x :: m.ports.drop (j + 1)) ++ [41, 59, 10]) = l ++ ((if j = 0 then [] else [44]) ++ x.1) ++ (pr_ports (j + 1) (m.ports.drop (j + 1)) ++ [41, 59, 10]) := by simp [pr_ports]
    rw [ea, ← ihh]
    conv => lhs; unfold dm_X7_printLong_L22 dm_X7_printLong_p42
    by_cases z : j = 0
    · subst z
      simp (disch := first | assumption | omega) [ck_T, sm_s, bd_l, bd_r, lt_e, eq_self, and_self, if_true, true_and, and_true, lit_nI, nI_add, nI_mul, nI_sub, nI_clamp, nI_eq, nI_ltI, nI_leI, nN_e, nI_nN, nN_nI, bI_0, bI_1, bI_n, bool_0, bool_1, in_T, lg_cmp0, ofN_nI, pS_K, pS_I, pS_R, pS_L, pS_AR, pS_J, k8, kA, b1, b2, b3, b5, e1, q1, kx, jx, pn, s0, x_in, dlt_T]
    · simp (disch := first | assumption | omega) [ck_T, sm_s, bd_l, bd_r, lt_e, eq_self, and_self, if_true, true_and, and_true, lit_nI, nI_add, nI_mul, nI_sub, nI_clamp, nI_eq, nI_ltI, nI_leI, nN_e, nI_nN, nN_nI, bI_0, bI_1, bI_n, bool_0, bool_1, in_T, lg_cmp0, ofN_nI, pS_K, pS_I, pS_R, pS_L, pS_AR, pS_J, k8, kA, b1, b2, b3, b5, e1, q1, kx, jx, pn, s2, z, x_in, dlt_T]
theorem pt_long {P : xP} {σ0 : xS} {D : Nat} {A H : Nat → Nat} {G : Nat → List Nat → Nat} {ms : List xMod} {top ix : Nat} {m : xMod} (w : Nat) (h : MOK P σ0 D A H G ms top ix m) (l : List Nat) : dm_X7_printLong P (P.base + 8) (some (A ix)) (pS P σ0 true w l) = some (.inl (), pS P σ0 true w (l ++ pr_mod ms true m)) := by
  have C := h.1
  have hN := C.N
  have ln := h.len
  have k8 := ci_22 C
  obtain ⟨hA, mr, fb, aw, mw, no, tl⟩ := h.get
  have kA := mr.1.2.1
  have jA := mr.1.2.2.2.1
  have t1 := pt_text C true w (q := (20, [109, 111, 100, 117, 108, 101, 32])) (by decide)
  simp only at t1
  have n1 := pt_name C true w no
  have u := pt_put C true w
  have q1 := pt_lm22 w h m.ports.length 0 P.N (l ++ [109, 111, 100, 117, 108, 101, 32] ++ m.nm ++ [40]) (by omega) (by omega)
  have q2 := pt_lm72 w h m.nets.length 0 P.N (l ++ [109, 111, 100, 117, 108, 101, 32] ++ m.nm ++ [40] ++ (pr_ports 0 m.ports ++ [41, 59, 10])) (by omega) (by omega)
  have q3 := pt_lm98 w h m.asg.length 0 P.N (l ++ [109, 111, 100, 117, 108, 101, 32] ++ m.nm ++ [40] ++ (pr_ports 0 m.ports ++ [41, 59, 10]) ++ m.nets.flatMap (pr_net true)) (by omega) (by omega)
  have q4 := pt_lm152 w h m.ins.length 0 P.N (l ++ [109, 111, 100, 117, 108, 101, 32] ++ m.nm ++ [40] ++ (pr_ports 0 m.ports ++ [41, 59, 10]) ++ m.nets.flatMap (pr_net true) ++ m.asg.flatMap (pr_asg true)) (by omega) (by omega)
  rw [List.drop_zero] at q1 q2 q3 q4
  have ea : l ++ pr_mod ms true m = l ++ [109, 111, 100, 117, 108, 101, 32] ++ m.nm ++ [40] ++ (pr_ports 0 m.ports ++ [41, 59, 10]) ++ m.nets.flatMap (pr_net true) ++ m.asg.flatMap (pr_asg true) ++ (m.ins.flatMap (pr_ins ms true) ++ [101, 110, 100, 10]) := by simp [pr_mod]
  rw [ea, ← q4, ← q3, ← q2, ← q1]
  unfold dm_X7_printLong
  simp only [lit_nI, t1, sm_s, pS_K, pS_J, k8, kA, jA, ck_T, eq_self, n1, u, bd_l]
theorem pt_sm102 {P : xP} {σ0 : xS} {D : Nat} {A H : Nat → Nat} {G : Nat → List Nat → Nat} {ms : List xMod} {top ix : Nat} {m : xMod} (w : Nat) (h : MOK P σ0 D A H G ms top ix m) : ∀ (r j n : Nat) (l : List Nat), j + r = m.ins.length → r < n → dm_X7_printShort_L102 P (P.base + 8) n (some (A ix)) (nI j) (pS P σ0 false w l) = some (.inl (), pS P σ0 false w (l ++ ((m.ins.drop j).flatMap (pr_ins ms false) ++ [101, 59, 10]))) := by
  have C := h.1
  have ln := h.len
  have k8 := ci_22 C
  have mr := h.get.2.1
  obtain ⟨⟨a1, kA, a3, a4, a5⟩, -, -, ⟨d1, d2, d3, d4, d5⟩, -, -, -⟩ := mr
  have t1 := pt_text C false w (q := (10, [101, 59, 10])) (by decide)
  simp only at t1
  intro r
  induction r with
  | zero =>
    intro j n l hj hn
    obtain ⟨n, rfl⟩ : ∃ m, n = m + 1 := ⟨n - 1, by omega⟩
    have e : m.ins.drop j = [] := List.drop_eq_nil_of_le (by omega)
    have e1 : m.ins.length ≤ j := by omega
    rw [e]
    unfold dm_X7_printShort_L102
    simp (disch := first | assumption | omega) [ck_T, sm_s, bd_l, bd_r, lt_e, eq_self, and_self, if_true, true_and, and_true, lit_nI, nI_add, nI_mul, nI_sub, nI_clamp, nI_eq, nI_ltI, nI_leI, nN_e, nI_nN, nN_nI, bI_0, bI_1, bI_n, bool_0, bool_1, in_T, lg_cmp0, ofN_nI, pS_K, pS_I, k8, kA, d4, e1, t1]
  | succ r ih =>
    intro j n l hj hn
    obtain ⟨n, rfl⟩ : ∃ m, n = m + 1 := ⟨n - 1, by omega⟩
    obtain ⟨x, hx⟩ : ∃ x, m.ins[j]? = some x := ⟨_, List.getElem?_eq_getElem (by omega)⟩
    obtain ⟨a, q1, ok⟩ := h.ins hx
    have pi := pt_si w h ok l
    have e1 : ¬ m.ins.length ≤ j := by omega
    have j12 : j < 12 := by omega
    have ihh := ih (j + 1) n (l ++ pr_ins ms false x) (by omega) (by omega)
    rw [drop_get hx, List.flatMap_cons]
    have ea : l ++ (pr_ins ms false x ++ (m.ins.drop (j + 1)).flatMap (pr_ins ms false) ++ [101, 59, 10]) = l ++ pr_ins ms false x ++ ((m.ins.drop (j + 1)).flatMap (pr_ins ms false) ++ [101, 59, 10]) := by simp
    rw [ea, ← ihh]
    conv => lhs; unfold dm_X7_printShort_L102
    simp (disch := first | assumption | omega) [ck_T, sm_s, bd_l, bd_r, lt_e, eq_self, and_self, if_true, true_and, and_true, lit_nI, nI_add, nI_mul, nI_sub, nI_clamp, nI_eq, nI_ltI, nI_leI, nN_e, nI_nN, nN_nI, bI_0, bI_1, bI_n, bool_0, bool_1, in_T, lg_cmp0, ofN_nI, pS_K, pS_I, pS_R, pS_L, pS_AR, k8, kA, d1, d2, d3, d4, e1, q1, pi, x_in, dlt_T]
theorem pt_sm48 {P : xP} {σ0 : xS} {D : Nat} {A H : Nat → Nat} {G : Nat → List Nat → Nat} {ms : List xMod} {top ix : Nat} {m : xMod} (w : Nat) (h : MOK P σ0 D A H G ms top ix m) : ∀ (r j n : Nat) (l : List Nat), j + r = m.asg.length → r < n → dm_X7_printShort_L48 P (P.base + 8) n (some (A ix)) (nI j) (pS P σ0 false w l) = dm_X7_printShort_L102 P (P.base + 8) P.N (some (A ix)) (nI 0) (pS P σ0 false w (l ++ (m.asg.drop j).flatMap (pr_asg false))) := by
  have C := h.1
  have ln := h.len
  have k8 := ci_22 C
  obtain ⟨hA, mr, fb, aw, mw, -, -⟩ := h.get
  obtain ⟨⟨a1, kA, a3, a4, a5⟩, -, ⟨c1, c2, c3, c4, c5, c6, c7, c8⟩, -, -, e2, -⟩ := id mr
  have t1 := pt_text C false w (q := (6, [97, 32])) (by decide)
  have t2 := pt_text C false w (q := (4, [59, 10])) (by decide)
  simp only at t1 t2
  have u := pt_put C false w
  intro r
  induction r with
  | zero =>
    intro j n l hj hn
    obtain ⟨n, rfl⟩ : ∃ m, n = m + 1 := ⟨n - 1, by omega⟩
    have e : m.asg.drop j = [] := List.drop_eq_nil_of_le (by omega)
    have e1 : m.asg.length ≤ j := by omega
    rw [e]
    unfold dm_X7_printShort_L48
    simp (disch := first | assumption | omega) [ck_T, sm_s, bd_l, bd_r, lt_e, eq_self, and_self, if_true, true_and, and_true, lit_nI, nI_add, nI_mul, nI_sub, nI_clamp, nI_eq, nI_ltI, nI_leI, nN_e, nI_nN, nN_nI, bI_0, bI_1, bI_n, bool_0, bool_1, in_T, lg_cmp0, ofN_nI, pS_K, pS_I, k8, kA, c7, e1]
  | succ r ih =>
    intro j n l hj hn
    obtain ⟨n, rfl⟩ : ∃ m, n = m + 1 := ⟨n - 1, by omega⟩
    obtain ⟨x, hx⟩ : ∃ x, m.asg[j]? = some x := ⟨_, List.getElem?_eq_getElem (by omega)⟩
    obtain ⟨a, b, q1, q2, q3, q4⟩ := e2 j x hx
    have pw := aw.1 x (List.mem_of_getElem? hx)
    have p1 := pt_part C false w (show P.base + 8 < A ix + 5 by omega) (show P.base + 8 < A ix by omega) q3 mr fb pw.1 mw.1
    have p2 := pt_part C false w (show P.base + 8 < A ix + 5 by omega) (show P.base + 8 < A ix by omega) q4 mr fb pw.2 mw.1
    have e1 : ¬ m.asg.length ≤ j := by omega
    have j8 : j < 8 := by omega
    have ihh := ih (j + 1) n (l ++ pr_asg false x) (by omega) (by omega)
    rw [drop_get hx, List.flatMap_cons, ← List.append_assoc, ← ihh]
    conv => lhs; unfold dm_X7_printShort_L48
    simp (disch := first | assumption | omega) [ck_T, sm_s, bd_l, bd_r, lt_e, eq_self, and_self, if_true, true_and, and_true, lit_nI, nI_add, nI_mul, nI_sub, nI_clamp, nI_eq, nI_ltI, nI_leI, nN_e, nI_nN, nN_nI, bI_0, bI_1, bI_n, bool_0, bool_1, in_T, lg_cmp0, ofN_nI, pS_K, pS_I, pS_R, pS_L, pS_AR, k8, kA, c1, c2, c3, c4, c5, c6, c7, e1, q1, q2, p1, p2, t1, t2, u, x_in, dlt_T, pr_asg]
theorem pt_sm22 {P : xP} {σ0 : xS} {D : Nat} {A H : Nat → Nat} {G : Nat → List Nat → Nat} {ms : List xMod} {top ix : Nat} {m : xMod} (w : Nat) (h : MOK P σ0 D A H G ms top ix m) : ∀ (r j n : Nat) (l : List Nat), j + r = m.nets.length → r < n → dm_X7_printShort_L22 P (P.base + 8) n (some (A ix)) (nI j) (pS P σ0 false w l) = dm_X7_printShort_L48 P (P.base + 8) P.N (some (A ix)) (nI 0) (pS P σ0 false w (l ++ (m.nets.drop j).flatMap (pr_net false))) := by
  have C := h.1
  have ln := h.len
  have k8 := ci_22 C
  obtain ⟨hA, mr, fb, aw, mw, -, tl⟩ := h.get
  obtain ⟨⟨a1, kA, a3, a4, a5⟩, ⟨b1, b2, b3, b4, b5, b6⟩, -, -, e1', -, -⟩ := id mr
  intro r
  induction r with
  | zero =>
    intro j n l hj hn
    obtain ⟨n, rfl⟩ : ∃ m, n = m + 1 := ⟨n - 1, by omega⟩
    have e : m.nets.drop j = [] := List.drop_eq_nil_of_le (by omega)
    have e1 : m.nets.length ≤ j := by omega
    rw [e]
    unfold dm_X7_printShort_L22
    simp (disch := first | assumption | omega) [ck_T, sm_s, bd_l, bd_r, lt_e, eq_self, and_self, if_true, true_and, and_true, lit_nI, nI_add, nI_mul, nI_sub, nI_clamp, nI_eq, nI_ltI, nI_leI, nN_e, nI_nN, nN_nI, bI_0, bI_1, bI_n, bool_0, bool_1, in_T, lg_cmp0, ofN_nI, pS_K, pS_I, k8, kA, b4, e1]
  | succ r ih =>
    intro j n l hj hn
    obtain ⟨n, rfl⟩ : ∃ m, n = m + 1 := ⟨n - 1, by omega⟩
    obtain ⟨x, hx⟩ : ∃ x, m.nets[j]? = some x := ⟨_, List.getElem?_eq_getElem (by omega)⟩
    obtain ⟨q1, q2⟩ := e1' j x hx
    have xm := List.mem_of_getElem? hx
    have nw := mw.1 x xm
    have t3 := tl x xm
    have pn := pt_shortNet C false w q2 nw.1 (by omega) nw.2.2.1 l
    have e1 : ¬ m.nets.length ≤ j := by omega
    have j16 : j < 16 := by omega
    have ihh := ih (j + 1) n (l ++ pr_net false x) (by omega) (by omega)
    rw [drop_get hx, List.flatMap_cons, ← List.append_assoc, ← ihh]
    conv => lhs; unfold dm_X7_printShort_L22
    simp (disch := first | assumption | omega) [ck_T, sm_s, bd_l, bd_r, lt_e, eq_self, and_self, if_true, true_and, and_true, lit_nI, nI_add, nI_mul, nI_sub, nI_clamp, nI_eq, nI_ltI, nI_leI, nN_e, nI_nN, nN_nI, bI_0, bI_1, bI_n, bool_0, bool_1, in_T, lg_cmp0, ofN_nI, pS_K, pS_I, pS_R, pS_L, pS_AR, k8, kA, b1, b2, b3, b4, e1, q1, pn, x_in, dlt_T]
theorem pt_short {P : xP} {σ0 : xS} {D : Nat} {A H : Nat → Nat} {G : Nat → List Nat → Nat} {ms : List xMod} {top ix : Nat} {m : xMod} (w : Nat) (h : MOK P σ0 D A H G ms top ix m) (l : List Nat) : dm_X7_printShort P (P.base + 8) (some (A ix)) (pS P σ0 false w l) = some (.inl (), pS P σ0 false w (l ++ pr_mod ms false m)) := by
  have C := h.1
  have hN := C.N
  have ln := h.len
  have k8 := ci_22 C
  obtain ⟨hA, mr, fb, aw, mw, no, tl⟩ := h.get
  have kA := mr.1.2.1
  have jA := mr.1.2.2.2.1
  have t1 := pt_text C false w (q := (18, [109, 32])) (by decide)
  have t2 := pt_text C false w (q := (4, [59, 10])) (by decide)
  simp only at t1 t2
  have n1 := pt_name C false w no
  have q2 := pt_sm22 w h m.nets.length 0 P.N (l ++ [109, 32] ++ m.nm ++ [59, 10]) (by omega) (by omega)
  have q3 := pt_sm48 w h m.asg.length 0 P.N (l ++ [109, 32] ++ m.nm ++ [59, 10] ++ m.nets.flatMap (pr_net false)) (by omega) (by omega)
  have q4 := pt_sm102 w h m.ins.length 0 P.N (l ++ [109, 32] ++ m.nm ++ [59, 10] ++ m.nets.flatMap (pr_net false) ++ m.asg.flatMap (pr_asg false)) (by omega) (by omega)
  rw [List.drop_zero] at q2 q3 q4
  have ea : l ++ pr_mod ms false m = l ++ [109, 32] ++ m.nm ++ [59, 10] ++ m.nets.flatMap (pr_net false) ++ m.asg.flatMap (pr_asg false) ++ (m.ins.flatMap (pr_ins ms false) ++ [101, 59, 10]) := by simp [pr_mod]
  rw [ea, ← q4, ← q3, ← q2]
  unfold dm_X7_printShort
  simp only [lit_nI, t1, t2, sm_s, pS_K, pS_J, k8, kA, jA, ck_T, eq_self, n1, bd_l]
