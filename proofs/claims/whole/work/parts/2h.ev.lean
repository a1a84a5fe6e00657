set_option maxHeartbeats 4000000 in
set_option maxRecDepth 100000 in
theorem ev_X12_reached_p106 {l : Launch} {G : xG} (hO : x_OK l G) {P : xP} (hP : x_PG P G) {a0 : Nat} {k45 : Int32 → Int32 → Int32 → Int32 → Int32 → Int32 → Int32 → xS → xO Int32} {k16 : Int32 → Int32 → Int32 → Int32 → Int32 → xS → xO Int32} {k4 : Int32 → Int32 → Int32 → xS → xO Int32} (hk45 : ∀ {v1 : Int32} {v2 : Int32} {v3 : Int32} {v4 : Int32} {v5 : Int32} {v6 : Int32} {v7 : Int32} {σ σ' : xS} {rr : Int32 ⊕ String}, k45 v1 v2 v3 v4 v5 v6 v7 σ = some (rr, σ') → Ev l G mX12_reached 45 [(0, va_rf (some a0)), (1, .int v1), (2, .int v2), (3, .int v3), (4, .int v4), (5, .int v5), (6, .int v6), (7, .int v7)] [] σ (xrI rr) σ') (hk16 : ∀ {v1 : Int32} {v2 : Int32} {v3 : Int32} {v4 : Int32} {v5 : Int32} {σ σ' : xS} {rr : Int32 ⊕ String}, k16 v1 v2 v3 v4 v5 σ = some (rr, σ') → Ev l G mX12_reached 16 [(0, va_rf (some a0)), (1, .int v1), (2, .int v2), (3, .int v3), (4, .int v4), (5, .int v5)] [] σ (xrI rr) σ') (hk4 : ∀ {v1 : Int32} {v2 : Int32} {v3 : Int32} {σ σ' : xS} {rr : Int32 ⊕ String}, k4 v1 v2 v3 σ = some (rr, σ') → Ev l G mX12_reached 4 [(0, va_rf (some a0)), (1, .int v1), (2, .int v2), (3, .int v3)] [] σ (xrI rr) σ') {v1 : Int32} {v2 : Int32} {v3 : Int32} {v5 : Int32} {v6 : Int32} {v7 : Int32} {s0 : Int32} {σ σ' : xS} {rr : Int32 ⊕ String} (h : dm_X12_reached_p106 P k45 k16 k4 a0 v1 v2 v3 v5 v6 v7 s0 σ = some (rr, σ')) : Ev l G mX12_reached 106 [(0, va_rf (some a0)), (1, .int v1), (2, .int v2), (3, .int v3), (5, .int v5), (6, .int v6), (7, .int v7)] [.int s0] σ (xrI rr) σ' := by
  unfold dm_X12_reached_p106 at h
  refine ev_istore (i := 4) (lv' := [(4, .int s0), (0, va_rf (some a0)), (1, .int v1), (2, .int v2), (3, .int v3), (5, .int v5), (6, .int v6), (7, .int v7)]) dX12_reached_106 (by decide) rfl ?_
  obtain ⟨v_1, ev_1, h⟩ := x_let_e h
  refine ev_iinc (j := 7) (x := v7) (v := v_1) (lv' := [(7, .int v_1), (4, .int s0), (0, va_rf (some a0)), (1, .int v1), (2, .int v2), (3, .int v3), (5, .int v5), (6, .int v6)]) dX12_reached_108 rfl (by rw [ev_1]; rfl) (by decide) rfl ?_
  refine ev_goto (tgt := 45) dX12_reached_111 (by decide) ?_
  exact ev_sub [2, 3, 4, 5, 1, 6, 7, 0] rfl (hk45 h)
set_option maxHeartbeats 4000000 in
set_option maxRecDepth 100000 in
theorem ev_X12_reached_p73 {l : Launch} {G : xG} (hO : x_OK l G) {P : xP} (hP : x_PG P G) {a0 : Nat} {k45 : Int32 → Int32 → Int32 → Int32 → Int32 → Int32 → Int32 → xS → xO Int32} {k16 : Int32 → Int32 → Int32 → Int32 → Int32 → xS → xO Int32} {k4 : Int32 → Int32 → Int32 → xS → xO Int32} (hk45 : ∀ {v1 : Int32} {v2 : Int32} {v3 : Int32} {v4 : Int32} {v5 : Int32} {v6 : Int32} {v7 : Int32} {σ σ' : xS} {rr : Int32 ⊕ String}, k45 v1 v2 v3 v4 v5 v6 v7 σ = some (rr, σ') → Ev l G mX12_reached 45 [(0, va_rf (some a0)), (1, .int v1), (2, .int v2), (3, .int v3), (4, .int v4), (5, .int v5), (6, .int v6), (7, .int v7)] [] σ (xrI rr) σ') (hk16 : ∀ {v1 : Int32} {v2 : Int32} {v3 : Int32} {v4 : Int32} {v5 : Int32} {σ σ' : xS} {rr : Int32 ⊕ String}, k16 v1 v2 v3 v4 v5 σ = some (rr, σ') → Ev l G mX12_reached 16 [(0, va_rf (some a0)), (1, .int v1), (2, .int v2), (3, .int v3), (4, .int v4), (5, .int v5)] [] σ (xrI rr) σ') (hk4 : ∀ {v1 : Int32} {v2 : Int32} {v3 : Int32} {σ σ' : xS} {rr : Int32 ⊕ String}, k4 v1 v2 v3 σ = some (rr, σ') → Ev l G mX12_reached 4 [(0, va_rf (some a0)), (1, .int v1), (2, .int v2), (3, .int v3)] [] σ (xrI rr) σ') {v1 : Int32} {v2 : Int32} {v3 : Int32} {v4 : Int32} {v5 : Int32} {v6 : Int32} {v7 : Int32} {σ σ' : xS} {rr : Int32 ⊕ String} (h : dm_X12_reached_p73 P k45 k16 k4 a0 v1 v2 v3 v4 v5 v6 v7 σ = some (rr, σ')) : Ev l G mX12_reached 73 [(0, va_rf (some a0)), (1, .int v1), (2, .int v2), (3, .int v3), (4, .int v4), (5, .int v5), (6, .int v6), (7, .int v7)] [] σ (xrI rr) σ' := by
  unfold dm_X12_reached_p73 at h
  refine ev_aload_n (j := 0) (x := (some a0)) dX12_reached_73 rfl rfl ?_
  obtain ⟨c_1, h⟩ := x_chk_e h
  refine ev_get (C := RX12) (T := TX12) (k := 28) inX12 (xE_12 c_1) rfl (by decide) wd_176 (Or.inl rfl) rfl dX12_reached_74 ?_
  refine ev_bipush (v := 12) dX12_reached_77 (by decide) ?_
  refine ev_iload (j := 6) (x := v6) dX12_reached_79 rfl ?_
  refine ev_imul (x := 12) (y := v6) dX12_reached_81 ?_
  refine ev_iload (j := 7) (x := v7) dX12_reached_82 rfl ?_
  refine ev_iadd (x := (12 * v6)) (y := v7) dX12_reached_84 ?_
  obtain ⟨a_2, ea_2, h⟩ := x_some_e h
  refine ev_at (st' := [.int ((12 * v6) + v7), va_rf (some a_2)]) rfl (by rw [ea_2]) ?_
  obtain ⟨c_3, h⟩ := x_chk_e h
  refine ev_iald_31 c_3.1 c_3.2 dX12_reached_85 ?_
  obtain ⟨v_4, ev_4, h⟩ := x_let_e h
  rw [← ev_4]
  refine ev_istore (i := 8) (lv' := [(8, .int v_4), (0, va_rf (some a0)), (1, .int v1), (2, .int v2), (3, .int v3), (4, .int v4), (5, .int v5), (6, .int v6), (7, .int v7)]) dX12_reached_86 (by decide) rfl ?_
  refine ev_iload (j := 0) (x := v_4) dX12_reached_88 rfl ?_
  refine ev_iconst (v := -1) dX12_reached_90 (by decide) ?_
  by_cases c_5 : v_4 = (-1)
  · rw [if_pos c_5] at h
    refine ev_icmp_ne (x := v_4) (y := (-1)) (tgt := 99) dX12_reached_91 (by decide) (fun q9 => absurd c_5 q9) (fun _ => ?_)
    refine ev_iload (j := 5) (x := v4) dX12_reached_94 rfl ?_
    refine ev_goto (tgt := 106) dX12_reached_96 (by decide) ?_
    exact ev_sub [1, 2, 3, 4, 6, 7, 8] rfl (ev_X12_reached_p106 hO hP hk45 hk16 hk4 h)
  · rw [if_neg c_5] at h
    refine ev_icmp_ne (x := v_4) (y := (-1)) (tgt := 99) dX12_reached_91 (by decide) (fun _ => ?_) (fun q9 => absurd q9 c_5)
    refine ev_iload (j := 5) (x := v4) dX12_reached_99 rfl ?_
    refine ev_iconst (v := 1) dX12_reached_101 (by decide) ?_
    refine ev_iload (j := 0) (x := v_4) dX12_reached_102 rfl ?_
    refine ev_ishl (x := 1) (y := v_4) dX12_reached_104 ?_
    refine ev_ior (x := v4) (y := (1 <<< (v_4 &&& 31))) dX12_reached_105 ?_
    exact ev_sub [1, 2, 3, 4, 6, 7, 8] rfl (ev_X12_reached_p106 hO hP hk45 hk16 hk4 h)
set_option maxHeartbeats 4000000 in
set_option maxRecDepth 100000 in
theorem ev_X12_reached_p114 {l : Launch} {G : xG} (hO : x_OK l G) {P : xP} (hP : x_PG P G) {a0 : Nat} {k16 : Int32 → Int32 → Int32 → Int32 → Int32 → xS → xO Int32} {k4 : Int32 → Int32 → Int32 → xS → xO Int32} (hk16 : ∀ {v1 : Int32} {v2 : Int32} {v3 : Int32} {v4 : Int32} {v5 : Int32} {σ σ' : xS} {rr : Int32 ⊕ String}, k16 v1 v2 v3 v4 v5 σ = some (rr, σ') → Ev l G mX12_reached 16 [(0, va_rf (some a0)), (1, .int v1), (2, .int v2), (3, .int v3), (4, .int v4), (5, .int v5)] [] σ (xrI rr) σ') (hk4 : ∀ {v1 : Int32} {v2 : Int32} {v3 : Int32} {σ σ' : xS} {rr : Int32 ⊕ String}, k4 v1 v2 v3 σ = some (rr, σ') → Ev l G mX12_reached 4 [(0, va_rf (some a0)), (1, .int v1), (2, .int v2), (3, .int v3)] [] σ (xrI rr) σ') {v1 : Int32} {v2 : Int32} {v3 : Int32} {v4 : Int32} {v5 : Int32} {σ σ' : xS} {rr : Int32 ⊕ String} (h : dm_X12_reached_p114 P k16 k4 a0 v1 v2 v3 v4 v5 σ = some (rr, σ')) : Ev l G mX12_reached 114 [(0, va_rf (some a0)), (1, .int v1), (2, .int v2), (3, .int v3), (4, .int v4), (5, .int v5)] [] σ (xrI rr) σ' := by
  unfold dm_X12_reached_p114 at h
  obtain ⟨v_1, ev_1, h⟩ := x_let_e h
  refine ev_iinc (j := 5) (x := v5) (v := v_1) (lv' := [(5, .int v_1), (0, va_rf (some a0)), (1, .int v1), (2, .int v2), (3, .int v3), (4, .int v4)]) dX12_reached_114 rfl (by rw [ev_1]; rfl) (by decide) rfl ?_
  refine ev_goto (tgt := 16) dX12_reached_117 (by decide) ?_
  exact ev_sub [1, 2, 3, 4, 5, 0] rfl (hk16 h)
set_option maxHeartbeats 4000000 in
set_option maxRecDepth 100000 in
theorem ev_X12_reached_L45 {l : Launch} {G : xG} (hO : x_OK l G) {P : xP} (hP : x_PG P G) {a0 : Nat} {k16 : Int32 → Int32 → Int32 → Int32 → Int32 → xS → xO Int32} {k4 : Int32 → Int32 → Int32 → xS → xO Int32} (hk16 : ∀ {v1 : Int32} {v2 : Int32} {v3 : Int32} {v4 : Int32} {v5 : Int32} {σ σ' : xS} {rr : Int32 ⊕ String}, k16 v1 v2 v3 v4 v5 σ = some (rr, σ') → Ev l G mX12_reached 16 [(0, va_rf (some a0)), (1, .int v1), (2, .int v2), (3, .int v3), (4, .int v4), (5, .int v5)] [] σ (xrI rr) σ') (hk4 : ∀ {v1 : Int32} {v2 : Int32} {v3 : Int32} {σ σ' : xS} {rr : Int32 ⊕ String}, k4 v1 v2 v3 σ = some (rr, σ') → Ev l G mX12_reached 4 [(0, va_rf (some a0)), (1, .int v1), (2, .int v2), (3, .int v3)] [] σ (xrI rr) σ') : ∀ (n : Nat) {v1 : Int32} {v2 : Int32} {v3 : Int32} {v4 : Int32} {v5 : Int32} {v6 : Int32} {v7 : Int32} {σ σ' : xS} {rr : Int32 ⊕ String}, dm_X12_reached_L45 P k16 k4 a0 n v1 v2 v3 v4 v5 v6 v7 σ = some (rr, σ') → Ev l G mX12_reached 45 [(0, va_rf (some a0)), (1, .int v1), (2, .int v2), (3, .int v3), (4, .int v4), (5, .int v5), (6, .int v6), (7, .int v7)] [] σ (xrI rr) σ' := by
  intro n
  induction n with
  | zero => intro v1 v2 v3 v4 v5 v6 v7 σ σ' rr h; cases h
  | succ n ih =>
    intro v1 v2 v3 v4 v5 v6 v7 σ σ' rr h
    rw [dm_X12_reached_L45] at h
    refine ev_iload (j := 7) (x := v7) dX12_reached_45 rfl ?_
    refine ev_aload_n (j := 0) (x := (some a0)) dX12_reached_47 rfl rfl ?_
    obtain ⟨c_1, h⟩ := x_chk_e h
    refine ev_get (C := RX12) (T := TX12) (k := 24) inX12 (xE_12 c_1) rfl (by decide) wd_172 (Or.inl rfl) rfl dX12_reached_48 ?_
    refine ev_iload (j := 6) (x := v6) dX12_reached_51 rfl ?_
    obtain ⟨a_2, ea_2, h⟩ := x_some_e h
    refine ev_at (st' := [.int v6, va_rf (some a_2), .int v7]) rfl (by rw [ea_2]) ?_
    obtain ⟨c_3, h⟩ := x_chk_e h
    refine ev_iald_31 c_3.1 c_3.2 dX12_reached_53 ?_
    by_cases c_4 : (σ.AI a_2 (Int32.toNatClampNeg v6)) ≤ v7
    · rw [if_pos c_4] at h
      refine ev_icmp_ge (x := v7) (y := (σ.AI a_2 (Int32.toNatClampNeg v6))) (tgt := 114) dX12_reached_54 (by decide) (fun _ => ?_) (fun q9 => absurd c_4 q9)
      exact ev_sub [0, 1, 2, 3, 4, 5] rfl (ev_X12_reached_p114 hO hP hk16 hk4 h)
    · rw [if_neg c_4] at h
      refine ev_icmp_ge (x := v7) (y := (σ.AI a_2 (Int32.toNatClampNeg v6))) (tgt := 114) dX12_reached_54 (by decide) (fun q9 => absurd q9 c_4) (fun _ => ?_)
      refine ev_iload (j := 5) (x := v5) dX12_reached_57 rfl ?_
      refine ev_iload_n (j := 1) (x := v1) dX12_reached_59 rfl rfl ?_
      by_cases c_5 : v5 = v1
      · rw [if_pos c_5] at h
        refine ev_icmp_eq (x := v5) (y := v1) (tgt := 73) dX12_reached_60 (by decide) (fun _ => ?_) (fun q9 => absurd c_5 q9)
        exact ev_sub [0, 1, 2, 3, 4, 5, 6, 7] rfl (ev_X12_reached_p73 hO hP ih hk16 hk4 h)
      · rw [if_neg c_5] at h
        refine ev_icmp_eq (x := v5) (y := v1) (tgt := 73) dX12_reached_60 (by decide) (fun q9 => absurd q9 c_5) (fun _ => ?_)
        refine ev_iload_n (j := 2) (x := v2) dX12_reached_63 rfl rfl ?_
        refine ev_iload (j := 5) (x := v5) dX12_reached_64 rfl ?_
        refine ev_ishr (x := v2) (y := v5) dX12_reached_66 ?_
        refine ev_iconst (v := 1) dX12_reached_67 (by decide) ?_
        refine ev_iand (x := (v2 >>> (v5 &&& 31))) (y := 1) dX12_reached_68 ?_
        refine ev_iconst (v := 1) dX12_reached_69 (by decide) ?_
        by_cases c_6 : ((v2 >>> (v5 &&& 31)) &&& 1) = 1
        · rw [if_pos c_6] at h
          refine ev_icmp_ne (x := ((v2 >>> (v5 &&& 31)) &&& 1)) (y := 1) (tgt := 114) dX12_reached_70 (by decide) (fun q9 => absurd c_6 q9) (fun _ => ?_)
          exact ev_sub [0, 1, 2, 3, 4, 5, 6, 7] rfl (ev_X12_reached_p73 hO hP ih hk16 hk4 h)
        · rw [if_neg c_6] at h
          refine ev_icmp_ne (x := ((v2 >>> (v5 &&& 31)) &&& 1)) (y := 1) (tgt := 114) dX12_reached_70 (by decide) (fun _ => ?_) (fun q9 => absurd q9 c_6)
          exact ev_sub [0, 1, 2, 3, 4, 5] rfl (ev_X12_reached_p114 hO hP hk16 hk4 h)
set_option maxHeartbeats 4000000 in
set_option maxRecDepth 100000 in
theorem ev_X12_reached_L16 {l : Launch} {G : xG} (hO : x_OK l G) {P : xP} (hP : x_PG P G) {a0 : Nat} {k4 : Int32 → Int32 → Int32 → xS → xO Int32} (hk4 : ∀ {v1 : Int32} {v2 : Int32} {v3 : Int32} {σ σ' : xS} {rr : Int32 ⊕ String}, k4 v1 v2 v3 σ = some (rr, σ') → Ev l G mX12_reached 4 [(0, va_rf (some a0)), (1, .int v1), (2, .int v2), (3, .int v3)] [] σ (xrI rr) σ') : ∀ (n : Nat) {v1 : Int32} {v2 : Int32} {v3 : Int32} {v4 : Int32} {v5 : Int32} {σ σ' : xS} {rr : Int32 ⊕ String}, dm_X12_reached_L16 P k4 a0 n v1 v2 v3 v4 v5 σ = some (rr, σ') → Ev l G mX12_reached 16 [(0, va_rf (some a0)), (1, .int v1), (2, .int v2), (3, .int v3), (4, .int v4), (5, .int v5)] [] σ (xrI rr) σ' := by
  intro n
  induction n with
  | zero => intro v1 v2 v3 v4 v5 σ σ' rr h; cases h
  | succ n ih =>
    intro v1 v2 v3 v4 v5 σ σ' rr h
    rw [dm_X12_reached_L16] at h
    refine ev_iload (j := 5) (x := v5) dX12_reached_16 rfl ?_
    refine ev_aload_n (j := 0) (x := (some a0)) dX12_reached_18 rfl rfl ?_
    obtain ⟨c_1, h⟩ := x_chk_e h
    refine ev_get (C := RX12) (T := TX12) (k := 6) inX12 (xE_12 c_1) rfl (by decide) wd_153 (Or.inl rfl) rfl dX12_reached_19 ?_
    refine ev_aload_n (j := 0) (x := (some a0)) dX12_reached_22 rfl rfl ?_
    refine ev_get (C := RX12) (T := TX12) (k := 40) inX12 (xE_12 c_1) rfl (by decide) wd_638 (Or.inl rfl) rfl dX12_reached_23 ?_
    obtain ⟨a_2, ea_2, h⟩ := x_some_e h
    refine ev_at (st' := [.int (σ.I 1140 a0), va_rf (some a_2), .int v5]) rfl (by rw [ea_2]) ?_
    obtain ⟨c_3, h⟩ := x_chk_e h
    refine ev_iald_31 c_3.1 c_3.2 dX12_reached_26 ?_
    by_cases c_4 : (σ.AI a_2 (Int32.toNatClampNeg (σ.I 1140 a0))) ≤ v5
    · rw [if_pos c_4] at h
      refine ev_icmp_ge (x := v5) (y := (σ.AI a_2 (Int32.toNatClampNeg (σ.I 1140 a0)))) (tgt := 120) dX12_reached_27 (by decide) (fun _ => ?_) (fun q9 => absurd c_4 q9)
      refine ev_iload (j := 4) (x := v4) dX12_reached_120 rfl ?_
      refine ev_istore_n (i := 2) (lv' := [(2, .int v4), (0, va_rf (some a0)), (1, .int v1), (3, .int v3), (4, .int v4), (5, .int v5)]) dX12_reached_122 rfl (by decide) rfl ?_
      obtain ⟨v_5, ev_5, h⟩ := x_let_e h
      refine ev_iinc (j := 3) (x := v3) (v := v_5) (lv' := [(3, .int v_5), (2, .int v4), (0, va_rf (some a0)), (1, .int v1), (4, .int v4), (5, .int v5)]) dX12_reached_123 rfl (by rw [ev_5]; rfl) (by decide) rfl ?_
      refine ev_goto (tgt := 4) dX12_reached_126 (by decide) ?_
      exact ev_sub [2, 3, 1, 0] rfl (hk4 h)
    · rw [if_neg c_4] at h
      refine ev_icmp_ge (x := v5) (y := (σ.AI a_2 (Int32.toNatClampNeg (σ.I 1140 a0)))) (tgt := 120) dX12_reached_27 (by decide) (fun q9 => absurd q9 c_4) (fun _ => ?_)
      refine ev_bipush (v := 8) dX12_reached_30 (by decide) ?_
      refine ev_aload_n (j := 0) (x := (some a0)) dX12_reached_32 rfl rfl ?_
      refine ev_get (C := RX12) (T := TX12) (k := 40) inX12 (xE_12 c_1) rfl (by decide) wd_638 (Or.inl rfl) rfl dX12_reached_33 ?_
      refine ev_imul (x := 8) (y := (σ.I 1140 a0)) dX12_reached_36 ?_
      refine ev_iload (j := 5) (x := v5) dX12_reached_37 rfl ?_
      refine ev_iadd (x := (8 * (σ.I 1140 a0))) (y := v5) dX12_reached_39 ?_
      obtain ⟨v_6, ev_6, h⟩ := x_let_e h
      rw [← ev_6]
      refine ev_istore (i := 6) (lv' := [(6, .int v_6), (0, va_rf (some a0)), (1, .int v1), (2, .int v2), (3, .int v3), (4, .int v4), (5, .int v5)]) dX12_reached_40 (by decide) rfl ?_
      refine ev_iconst (v := 0) dX12_reached_42 (by decide) ?_
      refine ev_istore (i := 7) (lv' := [(7, .int 0), (6, .int v_6), (0, va_rf (some a0)), (1, .int v1), (2, .int v2), (3, .int v3), (4, .int v4), (5, .int v5)]) dX12_reached_43 (by decide) rfl ?_
      exact ev_sub [2, 3, 4, 5, 6, 7, 1, 0] rfl (ev_X12_reached_L45 hO hP ih hk4 P.N h)
set_option maxHeartbeats 4000000 in
set_option maxRecDepth 100000 in
theorem ev_X12_reached_L4 {l : Launch} {G : xG} (hO : x_OK l G) {P : xP} (hP : x_PG P G) {a0 : Nat} : ∀ (n : Nat) {v1 : Int32} {v2 : Int32} {v3 : Int32} {σ σ' : xS} {rr : Int32 ⊕ String}, dm_X12_reached_L4 P a0 n v1 v2 v3 σ = some (rr, σ') → Ev l G mX12_reached 4 [(0, va_rf (some a0)), (1, .int v1), (2, .int v2), (3, .int v3)] [] σ (xrI rr) σ' := by
  intro n
  induction n with
  | zero => intro v1 v2 v3 σ σ' rr h; cases h
  | succ n ih =>
    intro v1 v2 v3 σ σ' rr h
    rw [dm_X12_reached_L4] at h
    refine ev_iload_n (j := 3) (x := v3) dX12_reached_4 rfl rfl ?_
    refine ev_bipush (v := 8) dX12_reached_5 (by decide) ?_
    by_cases c_1 : 8 ≤ v3
    · rw [if_pos c_1] at h
      refine ev_icmp_ge (x := v3) (y := 8) (tgt := 129) dX12_reached_7 (by decide) (fun _ => ?_) (fun q9 => absurd c_1 q9)
      refine ev_iload_n (j := 2) (x := v2) dX12_reached_129 rfl rfl ?_
      cases h
      exact ev_iret rfl rfl dX12_reached_130
    · rw [if_neg c_1] at h
      refine ev_icmp_ge (x := v3) (y := 8) (tgt := 129) dX12_reached_7 (by decide) (fun q9 => absurd q9 c_1) (fun _ => ?_)
      refine ev_iload_n (j := 2) (x := v2) dX12_reached_10 rfl rfl ?_
      refine ev_istore (i := 4) (lv' := [(4, .int v2), (0, va_rf (some a0)), (1, .int v1), (2, .int v2), (3, .int v3)]) dX12_reached_11 (by decide) rfl ?_
      refine ev_iconst (v := 0) dX12_reached_13 (by decide) ?_
      refine ev_istore (i := 5) (lv' := [(5, .int 0), (4, .int v2), (0, va_rf (some a0)), (1, .int v1), (2, .int v2), (3, .int v3)]) dX12_reached_14 (by decide) rfl ?_
      exact ev_sub [2, 3, 4, 5, 1, 0] rfl (ev_X12_reached_L16 hO hP ih P.N h)
set_option maxHeartbeats 4000000 in
set_option maxRecDepth 100000 in
theorem ev_X12_reached {l : Launch} {G : xG} (hO : x_OK l G) {P : xP} (hP : x_PG P G) {a0 : Nat} {v1 : Int32} {σ σ' : xS} {rr : Int32 ⊕ String} (h : dm_X12_reached P a0 v1 σ = some (rr, σ')) : EvM l G mX12_reached [va_rf (some a0), .int v1] σ (xrI rr) σ' := by
  unfold dm_X12_reached at h
  refine evM_of hO (by decide +kernel) (x_lenI (by simp [x_cat, x_catI, x_catJ, mX12_reached, xM.maxL])) ?_
  refine Eq.mp (congrArg (fun z => Ev l G mX12_reached 0 z [] σ (xrI rr) σ') (show [(0, va_rf (some a0)), (1, .int v1)] = lv_args 0 [va_rf (some a0), .int v1] by simp [lv_args, x_cat, x_catI, x_catJ])) ?_
  refine ev_iconst (v := 0) dX12_reached_0 (by decide) ?_
  refine ev_istore_n (i := 2) (lv' := [(2, .int 0), (0, va_rf (some a0)), (1, .int v1)]) dX12_reached_1 rfl (by decide) rfl ?_
  refine ev_iconst (v := 0) dX12_reached_2 (by decide) ?_
  refine ev_istore_n (i := 3) (lv' := [(3, .int 0), (2, .int 0), (0, va_rf (some a0)), (1, .int v1)]) dX12_reached_3 rfl (by decide) rfl ?_
  exact ev_sub [2, 3, 1, 0] rfl (ev_X12_reached_L4 hO hP P.N h)
set_option maxHeartbeats 4000000 in
set_option maxRecDepth 100000 in
theorem ev_X12_checkRings_p53 {l : Launch} {G : xG} (hO : x_OK l G) {P : xP} (hP : x_PG P G) {a0 : Nat} {k2 : Int32 → xS → xO Unit} (hk2 : ∀ {v1 : Int32} {σ σ' : xS} {rr : Unit ⊕ String}, k2 v1 σ = some (rr, σ') → Ev l G mX12_checkRings 2 [(0, va_rf (some a0)), (1, .int v1)] [] σ (xrV rr) σ') {v1 : Int32} {σ σ' : xS} {rr : Unit ⊕ String} (h : dm_X12_checkRings_p53 P k2 a0 v1 σ = some (rr, σ')) : Ev l G mX12_checkRings 53 [(0, va_rf (some a0)), (1, .int v1)] [] σ (xrV rr) σ' := by
  unfold dm_X12_checkRings_p53 at h
  obtain ⟨v_1, ev_1, h⟩ := x_let_e h
  refine ev_iinc (j := 1) (x := v1) (v := v_1) (lv' := [(1, .int v_1), (0, va_rf (some a0))]) dX12_checkRings_53 rfl (by rw [ev_1]; rfl) (by decide) (by simp [x_cat, x_catI, x_catJ]) ?_
  refine ev_goto (tgt := 2) dX12_checkRings_56 (by decide) ?_
  exact ev_sub [1, 0] rfl (hk2 h)
set_option maxHeartbeats 4000000 in
set_option maxRecDepth 100000 in
theorem ev_X12_checkRings_p59 {l : Launch} {G : xG} (hO : x_OK l G) {P : xP} (hP : x_PG P G) {a0 : Nat} {σ σ' : xS} {rr : Unit ⊕ String} (h : dm_X12_checkRings_p59 P a0 σ = some (rr, σ')) : Ev l G mX12_checkRings 59 [] [] σ (xrV rr) σ' := by
  unfold dm_X12_checkRings_p59 at h
  cases h
  exact ev_vret rfl dX12_checkRings_59
set_option maxHeartbeats 4000000 in
set_option maxRecDepth 100000 in
theorem ev_X12_checkRings_L2 {l : Launch} {G : xG} (hO : x_OK l G) {P : xP} (hP : x_PG P G) {a0 : Nat} : ∀ (n : Nat) {v1 : Int32} {σ σ' : xS} {rr : Unit ⊕ String}, dm_X12_checkRings_L2 P a0 n v1 σ = some (rr, σ') → Ev l G mX12_checkRings 2 [(0, va_rf (some a0)), (1, .int v1)] [] σ (xrV rr) σ' := by
  intro n
  induction n with
  | zero => intro v1 σ σ' rr h; cases h
  | succ n ih =>
    intro v1 σ σ' rr h
    rw [dm_X12_checkRings_L2] at h
    refine ev_iload_n (j := 1) (x := v1) dX12_checkRings_2 rfl rfl ?_
    refine ev_aload_n (j := 0) (x := (some a0)) dX12_checkRings_3 rfl rfl ?_
    obtain ⟨c_1, h⟩ := x_chk_e h
    refine ev_get (C := RX12) (T := TX12) (k := 6) inX12 (xE_12 c_1) rfl (by decide) wd_153 (Or.inl rfl) rfl dX12_checkRings_4 ?_
    refine ev_aload_n (j := 0) (x := (some a0)) dX12_checkRings_7 rfl rfl ?_
    refine ev_get (C := RX12) (T := TX12) (k := 40) inX12 (xE_12 c_1) rfl (by decide) wd_638 (Or.inl rfl) rfl dX12_checkRings_8 ?_
    obtain ⟨a_2, ea_2, h⟩ := x_some_e h
    refine ev_at (st' := [.int (σ.I 1140 a0), va_rf (some a_2), .int v1]) rfl (by rw [ea_2]) ?_
    obtain ⟨c_3, h⟩ := x_chk_e h
    refine ev_iald_31 c_3.1 c_3.2 dX12_checkRings_11 ?_
    by_cases c_4 : (σ.AI a_2 (Int32.toNatClampNeg (σ.I 1140 a0))) ≤ v1
    · rw [if_pos c_4] at h
      refine ev_icmp_ge (x := v1) (y := (σ.AI a_2 (Int32.toNatClampNeg (σ.I 1140 a0)))) (tgt := 59) dX12_checkRings_12 (by decide) (fun _ => ?_) (fun q9 => absurd c_4 q9)
      exact ev_sub [] rfl (ev_X12_checkRings_p59 hO hP h)
    · rw [if_neg c_4] at h
      refine ev_icmp_ge (x := v1) (y := (σ.AI a_2 (Int32.toNatClampNeg (σ.I 1140 a0)))) (tgt := 59) dX12_checkRings_12 (by decide) (fun q9 => absurd q9 c_4) (fun _ => ?_)
      refine ev_aload_n (j := 0) (x := (some a0)) dX12_checkRings_15 rfl rfl ?_
      rcases x_bind_e h with ⟨v_5, σ_6, h_7, h⟩ | ⟨E_22, σ_6, h_7, h⟩
      · have z9 := x_call (M := mX12_checkRings) (M' := mX12_ok) (pc := 16) (st := [va_rf (some a0)]) (rest := []) (av := [va_rf (some a0)]) (x_linkV (M := mX12_checkRings) (M' := mX12_ok) (As := []) (index := 121) (C := RX12) (T := TX12) (xE_12 c_1) rfl wd_640 wd_641 (wG_in (List.mem_append_left _ (List.mem_of_getElem? (i := 37) rfl)) rfl) xw_X12_ok rfl (by decide) rfl rfl dX12_checkRings_16) (ev_X12_ok hO hP h_7) xw_X12_ok rfl wd_198 dX12_checkRings_16 (by decide) (by decide) (by simp [x_cat, x_catI, x_catJ])
        refine x_callR z9 ?_
        refine ev_at (st' := [.int v_5]) rfl rfl ?_
        by_cases c_8 : v_5 = 0
        · rw [if_pos c_8] at h
          refine ev_if_eq (x := v_5) (tgt := 59) dX12_checkRings_19 (by decide) (fun _ => ?_) (fun q9 => absurd c_8 q9)
          exact ev_sub [] rfl (ev_X12_checkRings_p59 hO hP h)
        · rw [if_neg c_8] at h
          refine ev_if_eq (x := v_5) (tgt := 59) dX12_checkRings_19 (by decide) (fun q9 => absurd q9 c_8) (fun _ => ?_)
          refine ev_aload_n (j := 0) (x := (some a0)) dX12_checkRings_22 rfl rfl ?_
          refine ev_iload_n (j := 1) (x := v1) dX12_checkRings_23 rfl rfl ?_
          obtain ⟨c_12, h⟩ := x_chk_e h
          rcases x_bind_e h with ⟨v_9, σ_10, h_11, h⟩ | ⟨E_21, σ_10, h_11, h⟩
          · have z9 := x_call (M := mX12_checkRings) (M' := mX12_reached) (pc := 24) (st := [.int v1, va_rf (some a0)]) (rest := []) (av := [va_rf (some a0), .int v1]) (x_linkV (M := mX12_checkRings) (M' := mX12_reached) (As := [.int v1]) (index := 287) (C := RX12) (T := TX12) (xE_12 c_12) rfl wd_781 wd_782 (wG_in (List.mem_append_left _ (List.mem_of_getElem? (i := 83) rfl)) rfl) xw_X12_reached rfl (by decide) rfl rfl dX12_checkRings_24) (ev_X12_reached hO hP h_11) xw_X12_reached rfl wd_198 dX12_checkRings_24 (by decide) (by decide) (by simp [x_cat, x_catI, x_catJ])
            refine x_callR z9 ?_
            refine ev_at (st' := [.int v_9]) rfl rfl ?_
            refine ev_iload_n (j := 1) (x := v1) dX12_checkRings_27 rfl rfl ?_
            refine ev_ishr (x := v_9) (y := v1) dX12_checkRings_28 ?_
            refine ev_iconst (v := 1) dX12_checkRings_29 (by decide) ?_
            refine ev_iand (x := (v_9 >>> (v1 &&& 31))) (y := 1) dX12_checkRings_30 ?_
            refine ev_iconst (v := 1) dX12_checkRings_31 (by decide) ?_
            by_cases c_13 : ((v_9 >>> (v1 &&& 31)) &&& 1) = 1
            · rw [if_pos c_13] at h
              refine ev_icmp_ne (x := ((v_9 >>> (v1 &&& 31)) &&& 1)) (y := 1) (tgt := 53) dX12_checkRings_32 (by decide) (fun q9 => absurd c_13 q9) (fun _ => ?_)
              refine ev_aload_n (j := 0) (x := (some a0)) dX12_checkRings_35 rfl rfl ?_
              refine ev_aload_n (j := 0) (x := (some a0)) dX12_checkRings_36 rfl rfl ?_
              obtain ⟨c_14, h⟩ := x_chk_e h
              refine ev_get (C := RX12) (T := TX12) (k := 7) inX12 (xE_12 c_14) rfl (by decide) wd_154 (Or.inl rfl) rfl dX12_checkRings_37 ?_
              refine ev_bipush (v := 8) dX12_checkRings_40 (by decide) ?_
              refine ev_aload_n (j := 0) (x := (some a0)) dX12_checkRings_42 rfl rfl ?_
              refine ev_get (C := RX12) (T := TX12) (k := 40) inX12 (xE_12 c_14) rfl (by decide) wd_638 (Or.inl rfl) rfl dX12_checkRings_43 ?_
              refine ev_imul (x := 8) (y := (σ_10.I 1140 a0)) dX12_checkRings_46 ?_
              refine ev_iload_n (j := 1) (x := v1) dX12_checkRings_47 rfl rfl ?_
              refine ev_iadd (x := (8 * (σ_10.I 1140 a0))) (y := v1) dX12_checkRings_48 ?_
              obtain ⟨a_15, ea_15, h⟩ := x_some_e h
              refine ev_at (st' := [.int ((8 * (σ_10.I 1140 a0)) + v1), va_rf (some a_15), va_rf (some a0)]) rfl (by rw [ea_15]) ?_
              obtain ⟨c_16, h⟩ := x_chk_e h
              refine ev_iald_31 c_16.1 c_16.2 dX12_checkRings_49 ?_
              rcases x_bind_e h with ⟨v_17, σ_18, h_19, h⟩ | ⟨E_20, σ_18, h_19, h⟩
              · have z9 := x_call (M := mX12_checkRings) (M' := mX12_fail) (pc := 50) (st := [.int (σ_10.AI a_15 (Int32.toNatClampNeg ((8 * (σ_10.I 1140 a0)) + v1))), va_rf (some a0)]) (rest := []) (av := [va_rf (some a0), .int (σ_10.AI a_15 (Int32.toNatClampNeg ((8 * (σ_10.I 1140 a0)) + v1)))]) (x_linkV (M := mX12_checkRings) (M' := mX12_fail) (As := [.int (σ_10.AI a_15 (Int32.toNatClampNeg ((8 * (σ_10.I 1140 a0)) + v1)))]) (index := 150) (C := RX12) (T := TX12) (xE_12 c_14) rfl wd_657 wd_658 (wG_in (List.mem_append_left _ (List.mem_of_getElem? (i := 39) rfl)) rfl) xw_X12_fail rfl (by decide) rfl rfl dX12_checkRings_50) (ev_X12_fail hO hP h_19) xw_X12_fail rfl wd_198 dX12_checkRings_50 (by decide) (by decide) (by simp [x_cat, x_catI, x_catJ])
                refine x_callR z9 ?_
                refine ev_at (st' := []) rfl rfl ?_
                exact ev_sub [0, 1] rfl (ev_X12_checkRings_p53 hO hP ih h)
              · have z9 := x_call (M := mX12_checkRings) (M' := mX12_fail) (pc := 50) (st := [.int (σ_10.AI a_15 (Int32.toNatClampNeg ((8 * (σ_10.I 1140 a0)) + v1))), va_rf (some a0)]) (rest := []) (av := [va_rf (some a0), .int (σ_10.AI a_15 (Int32.toNatClampNeg ((8 * (σ_10.I 1140 a0)) + v1)))]) (x_linkV (M := mX12_checkRings) (M' := mX12_fail) (As := [.int (σ_10.AI a_15 (Int32.toNatClampNeg ((8 * (σ_10.I 1140 a0)) + v1)))]) (index := 150) (C := RX12) (T := TX12) (xE_12 c_14) rfl wd_657 wd_658 (wG_in (List.mem_append_left _ (List.mem_of_getElem? (i := 39) rfl)) rfl) xw_X12_fail rfl (by decide) rfl rfl dX12_checkRings_50) (ev_X12_fail hO hP h_19) xw_X12_fail rfl wd_198 dX12_checkRings_50 (by decide) (by decide) (by simp [x_cat, x_catI, x_catJ])
                cases h
                exact x_callX z9 (evX_out rfl)
            · rw [if_neg c_13] at h
              refine ev_icmp_ne (x := ((v_9 >>> (v1 &&& 31)) &&& 1)) (y := 1) (tgt := 53) dX12_checkRings_32 (by decide) (fun _ => ?_) (fun q9 => absurd q9 c_13)
              exact ev_sub [0, 1] rfl (ev_X12_checkRings_p53 hO hP ih h)
          · have z9 := x_call (M := mX12_checkRings) (M' := mX12_reached) (pc := 24) (st := [.int v1, va_rf (some a0)]) (rest := []) (av := [va_rf (some a0), .int v1]) (x_linkV (M := mX12_checkRings) (M' := mX12_reached) (As := [.int v1]) (index := 287) (C := RX12) (T := TX12) (xE_12 c_12) rfl wd_781 wd_782 (wG_in (List.mem_append_left _ (List.mem_of_getElem? (i := 83) rfl)) rfl) xw_X12_reached rfl (by decide) rfl rfl dX12_checkRings_24) (ev_X12_reached hO hP h_11) xw_X12_reached rfl wd_198 dX12_checkRings_24 (by decide) (by decide) (by simp [x_cat, x_catI, x_catJ])
            cases h
            exact x_callX z9 (evX_out rfl)
      · have z9 := x_call (M := mX12_checkRings) (M' := mX12_ok) (pc := 16) (st := [va_rf (some a0)]) (rest := []) (av := [va_rf (some a0)]) (x_linkV (M := mX12_checkRings) (M' := mX12_ok) (As := []) (index := 121) (C := RX12) (T := TX12) (xE_12 c_1) rfl wd_640 wd_641 (wG_in (List.mem_append_left _ (List.mem_of_getElem? (i := 37) rfl)) rfl) xw_X12_ok rfl (by decide) rfl rfl dX12_checkRings_16) (ev_X12_ok hO hP h_7) xw_X12_ok rfl wd_198 dX12_checkRings_16 (by decide) (by decide) (by simp [x_cat, x_catI, x_catJ])
        cases h
        exact x_callX z9 (evX_out rfl)
set_option maxHeartbeats 4000000 in
set_option maxRecDepth 100000 in
theorem ev_X12_checkRings {l : Launch} {G : xG} (hO : x_OK l G) {P : xP} (hP : x_PG P G) {a0 : Nat} {σ σ' : xS} {rr : Unit ⊕ String} (h : dm_X12_checkRings P a0 σ = some (rr, σ')) : EvM l G mX12_checkRings [va_rf (some a0)] σ (xrV rr) σ' := by
  unfold dm_X12_checkRings at h
  refine evM_of hO (by decide +kernel) (x_lenI (by simp [x_cat, x_catI, x_catJ, mX12_checkRings, xM.maxL])) ?_
  refine Eq.mp (congrArg (fun z => Ev l G mX12_checkRings 0 z [] σ (xrV rr) σ') (show [(0, va_rf (some a0))] = lv_args 0 [va_rf (some a0)] by simp [lv_args, x_cat, x_catI, x_catJ])) ?_
  refine ev_iconst (v := 0) dX12_checkRings_0 (by decide) ?_
  refine ev_istore_n (i := 1) (lv' := [(1, .int 0), (0, va_rf (some a0))]) dX12_checkRings_1 rfl (by decide) (by simp [x_cat, x_catI, x_catJ]) ?_
  exact ev_sub [1, 0] rfl (ev_X12_checkRings_L2 hO hP P.N h)
set_option maxHeartbeats 4000000 in
set_option maxRecDepth 100000 in
theorem ev_X12_finish_L19 {l : Launch} {G : xG} (hO : x_OK l G) {P : xP} (hP : x_PG P G) {a0 : Nat} {k2 : Int32 → xS → xO Unit} (hk2 : ∀ {v1 : Int32} {σ σ' : xS} {rr : Unit ⊕ String}, k2 v1 σ = some (rr, σ') → Ev l G mX12_finish 2 [(0, va_rf (some a0)), (1, .int v1)] [] σ (xrV rr) σ') : ∀ (n : Nat) {v1 : Int32} {v2 : Int32} {v3 : Int32} {σ σ' : xS} {rr : Unit ⊕ String}, dm_X12_finish_L19 P k2 a0 n v1 v2 v3 σ = some (rr, σ') → Ev l G mX12_finish 19 [(0, va_rf (some a0)), (1, .int v1), (2, .int v2), (3, .int v3)] [] σ (xrV rr) σ' := by
  intro n
  induction n with
  | zero => intro v1 v2 v3 σ σ' rr h; cases h
  | succ n ih =>
    intro v1 v2 v3 σ σ' rr h
    rw [dm_X12_finish_L19] at h
    refine ev_iload_n (j := 3) (x := v3) dX12_finish_19 rfl rfl ?_
    refine ev_aload_n (j := 0) (x := (some a0)) dX12_finish_20 rfl rfl ?_
    obtain ⟨c_1, h⟩ := x_chk_e h
    refine ev_get (C := RX12) (T := TX12) (k := 9) inX12 (xE_12 c_1) rfl (by decide) wd_156 (Or.inl rfl) rfl dX12_finish_21 ?_
    refine ev_bipush (v := 8) dX12_finish_24 (by decide) ?_
    refine ev_aload_n (j := 0) (x := (some a0)) dX12_finish_26 rfl rfl ?_
    refine ev_get (C := RX12) (T := TX12) (k := 40) inX12 (xE_12 c_1) rfl (by decide) wd_638 (Or.inl rfl) rfl dX12_finish_27 ?_
    refine ev_imul (x := 8) (y := (σ.I 1140 a0)) dX12_finish_30 ?_
    refine ev_iload_n (j := 1) (x := v1) dX12_finish_31 rfl rfl ?_
    refine ev_iadd (x := (8 * (σ.I 1140 a0))) (y := v1) dX12_finish_32 ?_
    obtain ⟨a_2, ea_2, h⟩ := x_some_e h
    refine ev_at (st' := [.int ((8 * (σ.I 1140 a0)) + v1), va_rf (some a_2), .int v3]) rfl (by rw [ea_2]) ?_
    obtain ⟨c_3, h⟩ := x_chk_e h
    refine ev_iald_31 c_3.1 c_3.2 dX12_finish_33 ?_
    by_cases c_4 : (σ.AI a_2 (Int32.toNatClampNeg ((8 * (σ.I 1140 a0)) + v1))) ≤ v3
    · rw [if_pos c_4] at h
      refine ev_icmp_ge (x := v3) (y := (σ.AI a_2 (Int32.toNatClampNeg ((8 * (σ.I 1140 a0)) + v1)))) (tgt := 85) dX12_finish_34 (by decide) (fun _ => ?_) (fun q9 => absurd c_4 q9)
      refine ev_aload_n (j := 0) (x := (some a0)) dX12_finish_85 rfl rfl ?_
      refine ev_get (C := RX12) (T := TX12) (k := 33) inX12 (xE_12 c_1) rfl (by decide) wd_181 (Or.inl rfl) rfl dX12_finish_86 ?_
      refine ev_bipush (v := 8) dX12_finish_89 (by decide) ?_
      refine ev_aload_n (j := 0) (x := (some a0)) dX12_finish_91 rfl rfl ?_
      refine ev_get (C := RX12) (T := TX12) (k := 40) inX12 (xE_12 c_1) rfl (by decide) wd_638 (Or.inl rfl) rfl dX12_finish_92 ?_
      refine ev_imul (x := 8) (y := (σ.I 1140 a0)) dX12_finish_95 ?_
      refine ev_iload_n (j := 1) (x := v1) dX12_finish_96 rfl rfl ?_
      refine ev_iadd (x := (8 * (σ.I 1140 a0))) (y := v1) dX12_finish_97 ?_
      refine ev_iconst (v := 0) dX12_finish_98 (by decide) ?_
      obtain ⟨a_5, ea_5, h⟩ := x_some_e h
      refine ev_at (st' := [.int 0, .int ((8 * (σ.I 1140 a0)) + v1), va_rf (some a_5)]) rfl (by rw [ea_5]) ?_
      obtain ⟨c_6, h⟩ := x_chk_e h
      obtain ⟨σ_7, eσ_7, h⟩ := x_let_e h
      refine ev_iast_31 c_6.1 c_6.2.1 (hP.2.2.2.1 ▸ c_6.2.2) dX12_finish_99 (eσ_7 ▸ ?_)
      obtain ⟨v_8, ev_8, h⟩ := x_let_e h
      refine ev_iinc (j := 1) (x := v1) (v := v_8) (lv' := [(1, .int v_8), (0, va_rf (some a0)), (2, .int v2), (3, .int v3)]) dX12_finish_100 rfl (by rw [ev_8]; rfl) (by decide) (by simp [x_cat, x_catI, x_catJ]) ?_
      refine ev_goto (tgt := 2) dX12_finish_103 (by decide) ?_
      exact ev_sub [1, 0] rfl (hk2 h)
    · rw [if_neg c_4] at h
      refine ev_icmp_ge (x := v3) (y := (σ.AI a_2 (Int32.toNatClampNeg ((8 * (σ.I 1140 a0)) + v1)))) (tgt := 85) dX12_finish_34 (by decide) (fun q9 => absurd q9 c_4) (fun _ => ?_)
      refine ev_aload_n (j := 0) (x := (some a0)) dX12_finish_37 rfl rfl ?_
      refine ev_get (C := RX12) (T := TX12) (k := 13) inX12 (xE_12 c_1) rfl (by decide) wd_160 (Or.inl rfl) rfl dX12_finish_38 ?_
      refine ev_bipush (v := 16) dX12_finish_41 (by decide) ?_
      refine ev_bipush (v := 8) dX12_finish_43 (by decide) ?_
      refine ev_aload_n (j := 0) (x := (some a0)) dX12_finish_45 rfl rfl ?_
      refine ev_get (C := RX12) (T := TX12) (k := 40) inX12 (xE_12 c_1) rfl (by decide) wd_638 (Or.inl rfl) rfl dX12_finish_46 ?_
      refine ev_imul (x := 8) (y := (σ.I 1140 a0)) dX12_finish_49 ?_
      refine ev_iload_n (j := 1) (x := v1) dX12_finish_50 rfl rfl ?_
      refine ev_iadd (x := (8 * (σ.I 1140 a0))) (y := v1) dX12_finish_51 ?_
      refine ev_imul (x := 16) (y := ((8 * (σ.I 1140 a0)) + v1)) dX12_finish_52 ?_
      refine ev_iload_n (j := 3) (x := v3) dX12_finish_53 rfl rfl ?_
      refine ev_iadd (x := (16 * ((8 * (σ.I 1140 a0)) + v1))) (y := v3) dX12_finish_54 ?_
      refine ev_iload_n (j := 2) (x := v2) dX12_finish_55 rfl rfl ?_
      obtain ⟨a_9, ea_9, h⟩ := x_some_e h
      refine ev_at (st' := [.int v2, .int ((16 * ((8 * (σ.I 1140 a0)) + v1)) + v3), va_rf (some a_9)]) rfl (by rw [ea_9]) ?_
      obtain ⟨c_10, h⟩ := x_chk_e h
      obtain ⟨σ_11, eσ_11, h⟩ := x_let_e h
      refine ev_iast_31 c_10.1 c_10.2.1 (hP.2.2.2.1 ▸ c_10.2.2) dX12_finish_56 (eσ_11 ▸ ?_)
      refine ev_iload_n (j := 2) (x := v2) dX12_finish_57 rfl rfl ?_
      refine ev_aload_n (j := 0) (x := (some a0)) dX12_finish_58 rfl rfl ?_
      obtain ⟨c_12, h⟩ := x_chk_e h
      refine ev_get (C := RX12) (T := TX12) (k := 12) inX12 (xE_12 c_12) rfl (by decide) wd_159 (Or.inl rfl) rfl dX12_finish_59 ?_
      refine ev_bipush (v := 16) dX12_finish_62 (by decide) ?_
      refine ev_bipush (v := 8) dX12_finish_64 (by decide) ?_
      refine ev_aload_n (j := 0) (x := (some a0)) dX12_finish_66 rfl rfl ?_
      refine ev_get (C := RX12) (T := TX12) (k := 40) inX12 (xE_12 c_12) rfl (by decide) wd_638 (Or.inl rfl) rfl dX12_finish_67 ?_
      refine ev_imul (x := 8) (y := (σ_11.I 1140 a0)) dX12_finish_70 ?_
      refine ev_iload_n (j := 1) (x := v1) dX12_finish_71 rfl rfl ?_
      refine ev_iadd (x := (8 * (σ_11.I 1140 a0))) (y := v1) dX12_finish_72 ?_
      refine ev_imul (x := 16) (y := ((8 * (σ_11.I 1140 a0)) + v1)) dX12_finish_73 ?_
      refine ev_iload_n (j := 3) (x := v3) dX12_finish_74 rfl rfl ?_
      refine ev_iadd (x := (16 * ((8 * (σ_11.I 1140 a0)) + v1))) (y := v3) dX12_finish_75 ?_
      obtain ⟨a_13, ea_13, h⟩ := x_some_e h
      refine ev_at (st' := [.int ((16 * ((8 * (σ_11.I 1140 a0)) + v1)) + v3), va_rf (some a_13), .int v2]) rfl (by rw [ea_13]) ?_
      obtain ⟨c_14, h⟩ := x_chk_e h
      refine ev_iald_31 c_14.1 c_14.2 dX12_finish_76 ?_
      refine ev_iadd (x := v2) (y := (σ_11.AI a_13 (Int32.toNatClampNeg ((16 * ((8 * (σ_11.I 1140 a0)) + v1)) + v3)))) dX12_finish_77 ?_
      obtain ⟨v_15, ev_15, h⟩ := x_let_e h
      rw [← ev_15]
      refine ev_istore_n (i := 2) (lv' := [(2, .int v_15), (0, va_rf (some a0)), (1, .int v1), (3, .int v3)]) dX12_finish_78 rfl (by decide) rfl ?_
      obtain ⟨v_16, ev_16, h⟩ := x_let_e h
      refine ev_iinc (j := 3) (x := v3) (v := v_16) (lv' := [(3, .int v_16), (2, .int v_15), (0, va_rf (some a0)), (1, .int v1)]) dX12_finish_79 rfl (by rw [ev_16]; rfl) (by decide) rfl ?_
      refine ev_goto (tgt := 19) dX12_finish_82 (by decide) ?_
      exact ev_sub [2, 3, 1, 0] rfl (ih h)
set_option maxHeartbeats 4000000 in
set_option maxRecDepth 100000 in
theorem ev_X12_finish_p223 {l : Launch} {G : xG} (hO : x_OK l G) {P : xP} (hP : x_PG P G) {a0 : Nat} {k142 : Int32 → Int32 → Int32 → Int32 → xS → xO Unit} {k116 : Int32 → Int32 → xS → xO Unit} {k108 : Int32 → xS → xO Unit} (hk142 : ∀ {v1 : Int32} {v2 : Int32} {v3 : Int32} {v4 : Int32} {σ σ' : xS} {rr : Unit ⊕ String}, k142 v1 v2 v3 v4 σ = some (rr, σ') → Ev l G mX12_finish 142 [(0, va_rf (some a0)), (1, .int v1), (2, .int v2), (3, .int v3), (4, .int v4)] [] σ (xrV rr) σ') (hk116 : ∀ {v1 : Int32} {v2 : Int32} {σ σ' : xS} {rr : Unit ⊕ String}, k116 v1 v2 σ = some (rr, σ') → Ev l G mX12_finish 116 [(0, va_rf (some a0)), (1, .int v1), (2, .int v2)] [] σ (xrV rr) σ') (hk108 : ∀ {v1 : Int32} {σ σ' : xS} {rr : Unit ⊕ String}, k108 v1 σ = some (rr, σ') → Ev l G mX12_finish 108 [(0, va_rf (some a0)), (1, .int v1)] [] σ (xrV rr) σ') {v1 : Int32} {v2 : Int32} {v3 : Int32} {v4 : Int32} {s0 : Option Nat} {s1 : Int32} {s2 : Int32} {σ σ' : xS} {rr : Unit ⊕ String} (h : dm_X12_finish_p223 P k142 k116 k108 a0 v1 v2 v3 v4 s0 s1 s2 σ = some (rr, σ')) : Ev l G mX12_finish 223 [(0, va_rf (some a0)), (1, .int v1), (2, .int v2), (3, .int v3), (4, .int v4)] [.int s2, .int s1, va_rf s0] σ (xrV rr) σ' := by
  unfold dm_X12_finish_p223 at h
  obtain ⟨a_1, ea_1, h⟩ := x_some_e h
  refine ev_at (st' := [.int s2, .int s1, va_rf (some a_1)]) rfl (by rw [ea_1]) ?_
  obtain ⟨c_2, h⟩ := x_chk_e h
  obtain ⟨σ_3, eσ_3, h⟩ := x_let_e h
  refine ev_iast_31 c_2.1 c_2.2.1 (hP.2.2.2.1 ▸ c_2.2.2) dX12_finish_223 (eσ_3 ▸ ?_)
  obtain ⟨v_4, ev_4, h⟩ := x_let_e h
  refine ev_iinc (j := 4) (x := v4) (v := v_4) (lv' := [(4, .int v_4), (0, va_rf (some a0)), (1, .int v1), (2, .int v2), (3, .int v3)]) dX12_finish_224 rfl (by rw [ev_4]; rfl) (by decide) rfl ?_
  refine ev_goto (tgt := 142) dX12_finish_227 (by decide) ?_
  exact ev_sub [1, 2, 3, 4, 0] rfl (hk142 h)
set_option maxHeartbeats 4000000 in
set_option maxRecDepth 100000 in
theorem ev_X12_finish_p194 {l : Launch} {G : xG} (hO : x_OK l G) {P : xP} (hP : x_PG P G) {a0 : Nat} {k142 : Int32 → Int32 → Int32 → Int32 → xS → xO Unit} {k116 : Int32 → Int32 → xS → xO Unit} {k108 : Int32 → xS → xO Unit} (hk142 : ∀ {v1 : Int32} {v2 : Int32} {v3 : Int32} {v4 : Int32} {σ σ' : xS} {rr : Unit ⊕ String}, k142 v1 v2 v3 v4 σ = some (rr, σ') → Ev l G mX12_finish 142 [(0, va_rf (some a0)), (1, .int v1), (2, .int v2), (3, .int v3), (4, .int v4)] [] σ (xrV rr) σ') (hk116 : ∀ {v1 : Int32} {v2 : Int32} {σ σ' : xS} {rr : Unit ⊕ String}, k116 v1 v2 σ = some (rr, σ') → Ev l G mX12_finish 116 [(0, va_rf (some a0)), (1, .int v1), (2, .int v2)] [] σ (xrV rr) σ') (hk108 : ∀ {v1 : Int32} {σ σ' : xS} {rr : Unit ⊕ String}, k108 v1 σ = some (rr, σ') → Ev l G mX12_finish 108 [(0, va_rf (some a0)), (1, .int v1)] [] σ (xrV rr) σ') {v1 : Int32} {v2 : Int32} {v3 : Int32} {v4 : Int32} {s0 : Int32} {σ σ' : xS} {rr : Unit ⊕ String} (h : dm_X12_finish_p194 P k142 k116 k108 a0 v1 v2 v3 v4 s0 σ = some (rr, σ')) : Ev l G mX12_finish 194 [(0, va_rf (some a0)), (1, .int v1), (2, .int v2), (3, .int v3), (4, .int v4)] [.int s0] σ (xrV rr) σ' := by
  unfold dm_X12_finish_p194 at h
  refine ev_istore (i := 6) (lv' := [(6, .int s0), (0, va_rf (some a0)), (1, .int v1), (2, .int v2), (3, .int v3), (4, .int v4)]) dX12_finish_194 (by decide) rfl ?_
  refine ev_aload_n (j := 1) (x := (some a0)) dX12_finish_196 rfl rfl ?_
  obtain ⟨c_1, h⟩ := x_chk_e h
  refine ev_get (C := RX12) (T := TX12) (k := 33) inX12 (xE_12 c_1) rfl (by decide) wd_181 (Or.inl rfl) rfl dX12_finish_197 ?_
  refine ev_iload_n (j := 4) (x := v3) dX12_finish_200 rfl rfl ?_
  refine ev_iload (j := 0) (x := s0) dX12_finish_201 rfl ?_
  refine ev_aload_n (j := 1) (x := (some a0)) dX12_finish_203 rfl rfl ?_
  refine ev_get (C := RX12) (T := TX12) (k := 33) inX12 (xE_12 c_1) rfl (by decide) wd_181 (Or.inl rfl) rfl dX12_finish_204 ?_
  refine ev_iload_n (j := 4) (x := v3) dX12_finish_207 rfl rfl ?_
  obtain ⟨a_2, ea_2, h⟩ := x_some_e h
  refine ev_at (st' := [.int v3, va_rf (some a_2), .int s0, .int v3, va_rf (σ.R 1133 a0)]) rfl (by rw [ea_2]) ?_
  obtain ⟨c_3, h⟩ := x_chk_e h
  refine ev_iald_31 c_3.1 c_3.2 dX12_finish_208 ?_
  by_cases c_4 : s0 ≤ (σ.AI a_2 (Int32.toNatClampNeg v3))
  · rw [if_pos c_4] at h
    refine ev_icmp_le (x := s0) (y := (σ.AI a_2 (Int32.toNatClampNeg v3))) (tgt := 217) dX12_finish_209 (by decide) (fun _ => ?_) (fun q9 => absurd c_4 q9)
    refine ev_aload_n (j := 1) (x := (some a0)) dX12_finish_217 rfl rfl ?_
    refine ev_get (C := RX12) (T := TX12) (k := 33) inX12 (xE_12 c_1) rfl (by decide) wd_181 (Or.inl rfl) rfl dX12_finish_218 ?_
    refine ev_iload_n (j := 4) (x := v3) dX12_finish_221 rfl rfl ?_
    refine ev_at (st' := [.int v3, va_rf (some a_2), .int v3, va_rf (σ.R 1133 a0)]) rfl (by rw [ea_2]) ?_
    refine ev_iald_31 c_3.1 c_3.2 dX12_finish_222 ?_
    exact ev_sub [1, 2, 3, 4, 5] rfl (ev_X12_finish_p223 hO hP hk142 hk116 hk108 h)
  · rw [if_neg c_4] at h
    refine ev_icmp_le (x := s0) (y := (σ.AI a_2 (Int32.toNatClampNeg v3))) (tgt := 217) dX12_finish_209 (by decide) (fun q9 => absurd q9 c_4) (fun _ => ?_)
    refine ev_iload (j := 0) (x := s0) dX12_finish_212 rfl ?_
    refine ev_goto (tgt := 223) dX12_finish_214 (by decide) ?_
    exact ev_sub [1, 2, 3, 4, 5] rfl (ev_X12_finish_p223 hO hP hk142 hk116 hk108 h)
set_option maxHeartbeats 4000000 in
set_option maxRecDepth 100000 in
theorem ev_X12_finish_L142 {l : Launch} {G : xG} (hO : x_OK l G) {P : xP} (hP : x_PG P G) {a0 : Nat} {k116 : Int32 → Int32 → xS → xO Unit} {k108 : Int32 → xS → xO Unit} (hk116 : ∀ {v1 : Int32} {v2 : Int32} {σ σ' : xS} {rr : Unit ⊕ String}, k116 v1 v2 σ = some (rr, σ') → Ev l G mX12_finish 116 [(0, va_rf (some a0)), (1, .int v1), (2, .int v2)] [] σ (xrV rr) σ') (hk108 : ∀ {v1 : Int32} {σ σ' : xS} {rr : Unit ⊕ String}, k108 v1 σ = some (rr, σ') → Ev l G mX12_finish 108 [(0, va_rf (some a0)), (1, .int v1)] [] σ (xrV rr) σ') : ∀ (n : Nat) {v1 : Int32} {v2 : Int32} {v3 : Int32} {v4 : Int32} {σ σ' : xS} {rr : Unit ⊕ String}, dm_X12_finish_L142 P k116 k108 a0 n v1 v2 v3 v4 σ = some (rr, σ') → Ev l G mX12_finish 142 [(0, va_rf (some a0)), (1, .int v1), (2, .int v2), (3, .int v3), (4, .int v4)] [] σ (xrV rr) σ' := by
  intro n
  induction n with
  | zero => intro v1 v2 v3 v4 σ σ' rr h; cases h
  | succ n ih =>
    intro v1 v2 v3 v4 σ σ' rr h
    rw [dm_X12_finish_L142] at h
    refine ev_iload (j := 4) (x := v4) dX12_finish_142 rfl ?_
    refine ev_aload_n (j := 0) (x := (some a0)) dX12_finish_144 rfl rfl ?_
    obtain ⟨c_1, h⟩ := x_chk_e h
    refine ev_get (C := RX12) (T := TX12) (k := 24) inX12 (xE_12 c_1) rfl (by decide) wd_172 (Or.inl rfl) rfl dX12_finish_145 ?_
    refine ev_iload_n (j := 3) (x := v3) dX12_finish_148 rfl rfl ?_
    obtain ⟨a_2, ea_2, h⟩ := x_some_e h
    refine ev_at (st' := [.int v3, va_rf (some a_2), .int v4]) rfl (by rw [ea_2]) ?_
    obtain ⟨c_3, h⟩ := x_chk_e h
    refine ev_iald_31 c_3.1 c_3.2 dX12_finish_149 ?_
    by_cases c_4 : (σ.AI a_2 (Int32.toNatClampNeg v3)) ≤ v4
    · rw [if_pos c_4] at h
      refine ev_icmp_ge (x := v4) (y := (σ.AI a_2 (Int32.toNatClampNeg v3))) (tgt := 230) dX12_finish_150 (by decide) (fun _ => ?_) (fun q9 => absurd c_4 q9)
      obtain ⟨v_5, ev_5, h⟩ := x_let_e h
      refine ev_iinc (j := 2) (x := v2) (v := v_5) (lv' := [(2, .int v_5), (0, va_rf (some a0)), (1, .int v1), (3, .int v3), (4, .int v4)]) dX12_finish_230 rfl (by rw [ev_5]; rfl) (by decide) rfl ?_
      refine ev_goto (tgt := 116) dX12_finish_233 (by decide) ?_
      exact ev_sub [1, 2, 0] rfl (hk116 h)
    · rw [if_neg c_4] at h
      refine ev_icmp_ge (x := v4) (y := (σ.AI a_2 (Int32.toNatClampNeg v3))) (tgt := 230) dX12_finish_150 (by decide) (fun q9 => absurd q9 c_4) (fun _ => ?_)
      refine ev_aload_n (j := 0) (x := (some a0)) dX12_finish_153 rfl rfl ?_
      refine ev_get (C := RX12) (T := TX12) (k := 28) inX12 (xE_12 c_1) rfl (by decide) wd_176 (Or.inl rfl) rfl dX12_finish_154 ?_
      refine ev_bipush (v := 12) dX12_finish_157 (by decide) ?_
      refine ev_iload_n (j := 3) (x := v3) dX12_finish_159 rfl rfl ?_
      refine ev_imul (x := 12) (y := v3) dX12_finish_160 ?_
      refine ev_iload (j := 4) (x := v4) dX12_finish_161 rfl ?_
      refine ev_iadd (x := (12 * v3)) (y := v4) dX12_finish_163 ?_
      obtain ⟨a_6, ea_6, h⟩ := x_some_e h
      refine ev_at (st' := [.int ((12 * v3) + v4), va_rf (some a_6)]) rfl (by rw [ea_6]) ?_
      obtain ⟨c_7, h⟩ := x_chk_e h
      refine ev_iald_31 c_7.1 c_7.2 dX12_finish_164 ?_
      obtain ⟨v_8, ev_8, h⟩ := x_let_e h
      rw [← ev_8]
      refine ev_istore (i := 5) (lv' := [(5, .int v_8), (0, va_rf (some a0)), (1, .int v1), (2, .int v2), (3, .int v3), (4, .int v4)]) dX12_finish_165 (by decide) rfl ?_
      refine ev_iload (j := 0) (x := v_8) dX12_finish_167 rfl ?_
      refine ev_iconst (v := -1) dX12_finish_169 (by decide) ?_
      by_cases c_9 : v_8 = (-1)
      · rw [if_pos c_9] at h
        refine ev_icmp_ne (x := v_8) (y := (-1)) (tgt := 177) dX12_finish_170 (by decide) (fun q9 => absurd c_9 q9) (fun _ => ?_)
        refine ev_iconst (v := 0) dX12_finish_173 (by decide) ?_
        refine ev_goto (tgt := 194) dX12_finish_174 (by decide) ?_
        exact ev_sub [1, 2, 3, 4, 5] rfl (ev_X12_finish_p194 hO hP ih hk116 hk108 h)
      · rw [if_neg c_9] at h
        refine ev_icmp_ne (x := v_8) (y := (-1)) (tgt := 177) dX12_finish_170 (by decide) (fun _ => ?_) (fun q9 => absurd q9 c_9)
        refine ev_aload_n (j := 1) (x := (some a0)) dX12_finish_177 rfl rfl ?_
        refine ev_get (C := RX12) (T := TX12) (k := 33) inX12 (xE_12 c_1) rfl (by decide) wd_181 (Or.inl rfl) rfl dX12_finish_178 ?_
        refine ev_bipush (v := 8) dX12_finish_181 (by decide) ?_
        refine ev_aload_n (j := 1) (x := (some a0)) dX12_finish_183 rfl rfl ?_
        refine ev_get (C := RX12) (T := TX12) (k := 40) inX12 (xE_12 c_1) rfl (by decide) wd_638 (Or.inl rfl) rfl dX12_finish_184 ?_
        refine ev_imul (x := 8) (y := (σ.I 1140 a0)) dX12_finish_187 ?_
        refine ev_iload (j := 0) (x := v_8) dX12_finish_188 rfl ?_
        refine ev_iadd (x := (8 * (σ.I 1140 a0))) (y := v_8) dX12_finish_190 ?_
        obtain ⟨a_10, ea_10, h⟩ := x_some_e h
        refine ev_at (st' := [.int ((8 * (σ.I 1140 a0)) + v_8), va_rf (some a_10)]) rfl (by rw [ea_10]) ?_
        obtain ⟨c_11, h⟩ := x_chk_e h
        refine ev_iald_31 c_11.1 c_11.2 dX12_finish_191 ?_
        refine ev_iconst (v := 1) dX12_finish_192 (by decide) ?_
        refine ev_iadd (x := (σ.AI a_10 (Int32.toNatClampNeg ((8 * (σ.I 1140 a0)) + v_8)))) (y := 1) dX12_finish_193 ?_
        exact ev_sub [1, 2, 3, 4, 5] rfl (ev_X12_finish_p194 hO hP ih hk116 hk108 h)
set_option maxHeartbeats 4000000 in
set_option maxRecDepth 100000 in
theorem ev_X12_finish_L116 {l : Launch} {G : xG} (hO : x_OK l G) {P : xP} (hP : x_PG P G) {a0 : Nat} {k108 : Int32 → xS → xO Unit} (hk108 : ∀ {v1 : Int32} {σ σ' : xS} {rr : Unit ⊕ String}, k108 v1 σ = some (rr, σ') → Ev l G mX12_finish 108 [(0, va_rf (some a0)), (1, .int v1)] [] σ (xrV rr) σ') : ∀ (n : Nat) {v1 : Int32} {v2 : Int32} {σ σ' : xS} {rr : Unit ⊕ String}, dm_X12_finish_L116 P k108 a0 n v1 v2 σ = some (rr, σ') → Ev l G mX12_finish 116 [(0, va_rf (some a0)), (1, .int v1), (2, .int v2)] [] σ (xrV rr) σ' := by
  intro n
  induction n with
  | zero => intro v1 v2 σ σ' rr h; cases h
  | succ n ih =>
    intro v1 v2 σ σ' rr h
    rw [dm_X12_finish_L116] at h
    refine ev_iload_n (j := 2) (x := v2) dX12_finish_116 rfl rfl ?_
    refine ev_aload_n (j := 0) (x := (some a0)) dX12_finish_117 rfl rfl ?_
    obtain ⟨c_1, h⟩ := x_chk_e h
    refine ev_get (C := RX12) (T := TX12) (k := 6) inX12 (xE_12 c_1) rfl (by decide) wd_153 (Or.inl rfl) rfl dX12_finish_118 ?_
    refine ev_aload_n (j := 0) (x := (some a0)) dX12_finish_121 rfl rfl ?_
    refine ev_get (C := RX12) (T := TX12) (k := 40) inX12 (xE_12 c_1) rfl (by decide) wd_638 (Or.inl rfl) rfl dX12_finish_122 ?_
    obtain ⟨a_2, ea_2, h⟩ := x_some_e h
    refine ev_at (st' := [.int (σ.I 1140 a0), va_rf (some a_2), .int v2]) rfl (by rw [ea_2]) ?_
    obtain ⟨c_3, h⟩ := x_chk_e h
    refine ev_iald_31 c_3.1 c_3.2 dX12_finish_125 ?_
    by_cases c_4 : (σ.AI a_2 (Int32.toNatClampNeg (σ.I 1140 a0))) ≤ v2
    · rw [if_pos c_4] at h
      refine ev_icmp_ge (x := v2) (y := (σ.AI a_2 (Int32.toNatClampNeg (σ.I 1140 a0)))) (tgt := 236) dX12_finish_126 (by decide) (fun _ => ?_) (fun q9 => absurd c_4 q9)
      obtain ⟨v_5, ev_5, h⟩ := x_let_e h
      refine ev_iinc (j := 1) (x := v1) (v := v_5) (lv' := [(1, .int v_5), (0, va_rf (some a0)), (2, .int v2)]) dX12_finish_236 rfl (by rw [ev_5]; rfl) (by decide) (by simp [x_cat, x_catI, x_catJ]) ?_
      refine ev_goto (tgt := 108) dX12_finish_239 (by decide) ?_
      exact ev_sub [1, 0] rfl (hk108 h)
    · rw [if_neg c_4] at h
      refine ev_icmp_ge (x := v2) (y := (σ.AI a_2 (Int32.toNatClampNeg (σ.I 1140 a0)))) (tgt := 236) dX12_finish_126 (by decide) (fun q9 => absurd q9 c_4) (fun _ => ?_)
      refine ev_bipush (v := 8) dX12_finish_129 (by decide) ?_
      refine ev_aload_n (j := 0) (x := (some a0)) dX12_finish_131 rfl rfl ?_
      refine ev_get (C := RX12) (T := TX12) (k := 40) inX12 (xE_12 c_1) rfl (by decide) wd_638 (Or.inl rfl) rfl dX12_finish_132 ?_
      refine ev_imul (x := 8) (y := (σ.I 1140 a0)) dX12_finish_135 ?_
      refine ev_iload_n (j := 2) (x := v2) dX12_finish_136 rfl rfl ?_
      refine ev_iadd (x := (8 * (σ.I 1140 a0))) (y := v2) dX12_finish_137 ?_
      obtain ⟨v_6, ev_6, h⟩ := x_let_e h
      rw [← ev_6]
      refine ev_istore_n (i := 3) (lv' := [(3, .int v_6), (0, va_rf (some a0)), (1, .int v1), (2, .int v2)]) dX12_finish_138 rfl (by decide) rfl ?_
      refine ev_iconst (v := 0) dX12_finish_139 (by decide) ?_
      refine ev_istore (i := 4) (lv' := [(4, .int 0), (3, .int v_6), (0, va_rf (some a0)), (1, .int v1), (2, .int v2)]) dX12_finish_140 (by decide) rfl ?_
      exact ev_sub [2, 3, 4, 1, 0] rfl (ev_X12_finish_L142 hO hP ih hk108 P.N h)
set_option maxHeartbeats 4000000 in
set_option maxRecDepth 100000 in
theorem ev_X12_finish_L108 {l : Launch} {G : xG} (hO : x_OK l G) {P : xP} (hP : x_PG P G) {a0 : Nat} : ∀ (n : Nat) {v1 : Int32} {σ σ' : xS} {rr : Unit ⊕ String}, dm_X12_finish_L108 P a0 n v1 σ = some (rr, σ') → Ev l G mX12_finish 108 [(0, va_rf (some a0)), (1, .int v1)] [] σ (xrV rr) σ' := by
  intro n
  induction n with
  | zero => intro v1 σ σ' rr h; cases h
  | succ n ih =>
    intro v1 σ σ' rr h
    rw [dm_X12_finish_L108] at h
    refine ev_iload_n (j := 1) (x := v1) dX12_finish_108 rfl rfl ?_
    refine ev_bipush (v := 8) dX12_finish_109 (by decide) ?_
    by_cases c_1 : 8 ≤ v1
    · rw [if_pos c_1] at h
      refine ev_icmp_ge (x := v1) (y := 8) (tgt := 242) dX12_finish_111 (by decide) (fun _ => ?_) (fun q9 => absurd c_1 q9)
      cases h
      exact ev_vret rfl dX12_finish_242
    · rw [if_neg c_1] at h
      refine ev_icmp_ge (x := v1) (y := 8) (tgt := 242) dX12_finish_111 (by decide) (fun q9 => absurd q9 c_1) (fun _ => ?_)
      refine ev_iconst (v := 0) dX12_finish_114 (by decide) ?_
      refine ev_istore_n (i := 2) (lv' := [(2, .int 0), (0, va_rf (some a0)), (1, .int v1)]) dX12_finish_115 rfl (by decide) rfl ?_
      exact ev_sub [1, 2, 0] rfl (ev_X12_finish_L116 hO hP ih P.N h)
set_option maxHeartbeats 4000000 in
set_option maxRecDepth 100000 in
theorem ev_X12_finish_L2 {l : Launch} {G : xG} (hO : x_OK l G) {P : xP} (hP : x_PG P G) {a0 : Nat} : ∀ (n : Nat) {v1 : Int32} {σ σ' : xS} {rr : Unit ⊕ String}, dm_X12_finish_L2 P a0 n v1 σ = some (rr, σ') → Ev l G mX12_finish 2 [(0, va_rf (some a0)), (1, .int v1)] [] σ (xrV rr) σ' := by
  intro n
  induction n with
  | zero => intro v1 σ σ' rr h; cases h
  | succ n ih =>
    intro v1 σ σ' rr h
    rw [dm_X12_finish_L2] at h
    refine ev_iload_n (j := 1) (x := v1) dX12_finish_2 rfl rfl ?_
    refine ev_aload_n (j := 0) (x := (some a0)) dX12_finish_3 rfl rfl ?_
    obtain ⟨c_1, h⟩ := x_chk_e h
    refine ev_get (C := RX12) (T := TX12) (k := 6) inX12 (xE_12 c_1) rfl (by decide) wd_153 (Or.inl rfl) rfl dX12_finish_4 ?_
    refine ev_aload_n (j := 0) (x := (some a0)) dX12_finish_7 rfl rfl ?_
    refine ev_get (C := RX12) (T := TX12) (k := 40) inX12 (xE_12 c_1) rfl (by decide) wd_638 (Or.inl rfl) rfl dX12_finish_8 ?_
    obtain ⟨a_2, ea_2, h⟩ := x_some_e h
    refine ev_at (st' := [.int (σ.I 1140 a0), va_rf (some a_2), .int v1]) rfl (by rw [ea_2]) ?_
    obtain ⟨c_3, h⟩ := x_chk_e h
    refine ev_iald_31 c_3.1 c_3.2 dX12_finish_11 ?_
    by_cases c_4 : (σ.AI a_2 (Int32.toNatClampNeg (σ.I 1140 a0))) ≤ v1
    · rw [if_pos c_4] at h
      refine ev_icmp_ge (x := v1) (y := (σ.AI a_2 (Int32.toNatClampNeg (σ.I 1140 a0)))) (tgt := 106) dX12_finish_12 (by decide) (fun _ => ?_) (fun q9 => absurd c_4 q9)
      refine ev_iconst (v := 0) dX12_finish_106 (by decide) ?_
      refine ev_istore_n (i := 1) (lv' := [(1, .int 0), (0, va_rf (some a0))]) dX12_finish_107 rfl (by decide) (by simp [x_cat, x_catI, x_catJ]) ?_
      exact ev_sub [1, 0] rfl (ev_X12_finish_L108 hO hP P.N h)
    · rw [if_neg c_4] at h
      refine ev_icmp_ge (x := v1) (y := (σ.AI a_2 (Int32.toNatClampNeg (σ.I 1140 a0)))) (tgt := 106) dX12_finish_12 (by decide) (fun q9 => absurd q9 c_4) (fun _ => ?_)
      refine ev_iconst (v := 0) dX12_finish_15 (by decide) ?_
      refine ev_istore_n (i := 2) (lv' := [(2, .int 0), (0, va_rf (some a0)), (1, .int v1)]) dX12_finish_16 rfl (by decide) rfl ?_
      refine ev_iconst (v := 0) dX12_finish_17 (by decide) ?_
      refine ev_istore_n (i := 3) (lv' := [(3, .int 0), (2, .int 0), (0, va_rf (some a0)), (1, .int v1)]) dX12_finish_18 rfl (by decide) rfl ?_
      exact ev_sub [2, 3, 1, 0] rfl (ev_X12_finish_L19 hO hP ih P.N h)
set_option maxHeartbeats 4000000 in
set_option maxRecDepth 100000 in
theorem ev_X12_finish {l : Launch} {G : xG} (hO : x_OK l G) {P : xP} (hP : x_PG P G) {a0 : Nat} {σ σ' : xS} {rr : Unit ⊕ String} (h : dm_X12_finish P a0 σ = some (rr, σ')) : EvM l G mX12_finish [va_rf (some a0)] σ (xrV rr) σ' := by
  unfold dm_X12_finish at h
  refine evM_of hO (by decide +kernel) (x_lenI (by simp [x_cat, x_catI, x_catJ, mX12_finish, xM.maxL])) ?_
  refine Eq.mp (congrArg (fun z => Ev l G mX12_finish 0 z [] σ (xrV rr) σ') (show [(0, va_rf (some a0))] = lv_args 0 [va_rf (some a0)] by simp [lv_args, x_cat, x_catI, x_catJ])) ?_
  refine ev_iconst (v := 0) dX12_finish_0 (by decide) ?_
  refine ev_istore_n (i := 1) (lv' := [(1, .int 0), (0, va_rf (some a0))]) dX12_finish_1 rfl (by decide) (by simp [x_cat, x_catI, x_catJ]) ?_
  exact ev_sub [1, 0] rfl (ev_X12_finish_L2 hO hP P.N h)
set_option maxHeartbeats 4000000 in
set_option maxRecDepth 100000 in
theorem ev_X12_read_p160 {l : Launch} {G : xG} (hO : x_OK l G) {P : xP} (hP : x_PG P G) {a0 : Nat} {k131 : Int32 → xS → xO Int32} (hk131 : ∀ {v1 : Int32} {σ σ' : xS} {rr : Int32 ⊕ String}, k131 v1 σ = some (rr, σ') → Ev l G mX12_read 131 [(0, va_rf (some a0)), (1, .int v1)] [] σ (xrI rr) σ') {v1 : Int32} {σ σ' : xS} {rr : Int32 ⊕ String} (h : dm_X12_read_p160 P k131 a0 v1 σ = some (rr, σ')) : Ev l G mX12_read 160 [(0, va_rf (some a0)), (1, .int v1)] [] σ (xrI rr) σ' := by
  unfold dm_X12_read_p160 at h
  refine ev_aload_n (j := 0) (x := (some a0)) dX12_read_160 rfl rfl ?_
  refine ev_dup dX12_read_161 (x_cat _) ?_
  obtain ⟨c_1, h⟩ := x_chk_e h
  refine ev_get (C := RX12) (T := TX12) (k := 41) inX12 (xE_12 c_1) rfl (by decide) wd_668 (Or.inl rfl) rfl dX12_read_162 ?_
  refine ev_iconst (v := 1) dX12_read_165 (by decide) ?_
  refine ev_iadd (x := (σ.I 1141 a0)) (y := 1) dX12_read_166 ?_
  obtain ⟨c_2, h⟩ := x_chk_e h
  obtain ⟨σ_3, eσ_3, h⟩ := x_let_e h
  refine ev_put (σ2 := σ_3) (C := RX12) (T := TX12) (k := 41) inX12 tyX12 tyX12_ok nmX12 (xE_12 c_2.1) rfl (by decide) wd_668 (Or.inl rfl) rfl rfl rfl rfl (Nat.le_of_ble_eq_true rfl) (hP.2.2.2.1 ▸ c_2.2) (by rw [eσ_3]; exact xP_12_41 _ c_2.1) (by rw [eσ_3]; exact xPut_I) dX12_read_167 ?_
  refine ev_aload_n (j := 0) (x := (some a0)) dX12_read_170 rfl rfl ?_
  obtain ⟨c_4, h⟩ := x_chk_e h
  refine ev_get (C := RX12) (T := TX12) (k := 6) inX12 (xE_12 c_4) rfl (by decide) wd_153 (Or.inl rfl) rfl dX12_read_171 ?_
  refine ev_aload_n (j := 0) (x := (some a0)) dX12_read_174 rfl rfl ?_
  refine ev_get (C := RX12) (T := TX12) (k := 40) inX12 (xE_12 c_4) rfl (by decide) wd_638 (Or.inl rfl) rfl dX12_read_175 ?_
  refine ev_aload_n (j := 0) (x := (some a0)) dX12_read_178 rfl rfl ?_
  refine ev_get (C := RX12) (T := TX12) (k := 41) inX12 (xE_12 c_4) rfl (by decide) wd_668 (Or.inl rfl) rfl dX12_read_179 ?_
  obtain ⟨a_5, ea_5, h⟩ := x_some_e h
  refine ev_at (st' := [.int (σ_3.I 1141 a0), .int (σ_3.I 1140 a0), va_rf (some a_5)]) rfl (by rw [ea_5]) ?_
  obtain ⟨c_6, h⟩ := x_chk_e h
  obtain ⟨σ_7, eσ_7, h⟩ := x_let_e h
  refine ev_iast_31 c_6.1 c_6.2.1 (hP.2.2.2.1 ▸ c_6.2.2) dX12_read_182 (eσ_7 ▸ ?_)
  refine ev_goto (tgt := 131) dX12_read_183 (by decide) ?_
  exact ev_sub [0, 1] rfl (hk131 h)
set_option maxHeartbeats 4000000 in
set_option maxRecDepth 100000 in
theorem ev_X12_read_p208 {l : Launch} {G : xG} (hO : x_OK l G) {P : xP} (hP : x_PG P G) {a0 : Nat} {σ σ' : xS} {rr : Int32 ⊕ String} (h : dm_X12_read_p208 P a0 σ = some (rr, σ')) : Ev l G mX12_read 208 [(0, va_rf (some a0))] [] σ (xrI rr) σ' := by
  unfold dm_X12_read_p208 at h
  refine ev_aload_n (j := 0) (x := (some a0)) dX12_read_208 rfl rfl ?_
  obtain ⟨c_4, h⟩ := x_chk_e h
  rcases x_bind_e h with ⟨v_1, σ_2, h_3, h⟩ | ⟨E_21, σ_2, h_3, h⟩
  · have z9 := x_call (M := mX12_read) (M' := mX12_ok) (pc := 209) (st := [va_rf (some a0)]) (rest := []) (av := [va_rf (some a0)]) (x_linkV (M := mX12_read) (M' := mX12_ok) (As := []) (index := 121) (C := RX12) (T := TX12) (xE_12 c_4) rfl wd_640 wd_641 (wG_in (List.mem_append_left _ (List.mem_of_getElem? (i := 37) rfl)) rfl) xw_X12_ok rfl (by decide) rfl rfl dX12_read_209) (ev_X12_ok hO hP h_3) xw_X12_ok rfl wd_198 dX12_read_209 (by decide) (by decide) (by simp [x_cat, x_catI, x_catJ])
    refine x_callR z9 ?_
    refine ev_at (st' := [.int v_1]) rfl rfl ?_
    by_cases c_5 : v_1 = 0
    · rw [if_pos c_5] at h
      refine ev_if_ne (x := v_1) (tgt := 229) dX12_read_212 (by decide) (fun q9 => absurd c_5 q9) (fun _ => ?_)
      refine ev_aload_n (j := 0) (x := (some a0)) dX12_read_215 rfl rfl ?_
      obtain ⟨c_17, h⟩ := x_chk_e h
      refine ev_get (C := RX12) (T := TX12) (k := 39) inX12 (xE_12 c_17) rfl (by decide) wd_182 (Or.inl rfl) rfl dX12_read_216 ?_
      obtain ⟨v_18, ev_18, h⟩ := x_let_e h
      rw [← ev_18]
      refine ev_istore_n (i := 2) (lv' := [(2, .int v_18), (0, va_rf (some a0))]) dX12_read_219 rfl (by decide) rfl ?_
      refine ev_aload_n (j := 1) (x := (some a0)) dX12_read_220 rfl rfl ?_
      refine ev_iconst (v := -1) dX12_read_221 (by decide) ?_
      obtain ⟨c_19, h⟩ := x_chk_e h
      obtain ⟨σ_20, eσ_20, h⟩ := x_let_e h
      refine ev_put (σ2 := σ_20) (C := RX12) (T := TX12) (k := 39) inX12 tyX12 tyX12_ok nmX12 (xE_12 c_19.1) rfl (by decide) wd_182 (Or.inl rfl) rfl rfl rfl rfl (Nat.le_of_ble_eq_true rfl) (hP.2.2.2.1 ▸ c_19.2) (by rw [eσ_20]; exact xP_12_39 _ c_19.1) (by rw [eσ_20]; exact xPut_I) dX12_read_222 ?_
      refine ev_iconst (v := -1) dX12_read_225 (by decide) ?_
      refine ev_iload_n (j := 0) (x := v_18) dX12_read_226 rfl rfl ?_
      refine ev_isub (x := (-1)) (y := v_18) dX12_read_227 ?_
      cases h
      exact ev_iret rfl rfl dX12_read_228
    · rw [if_neg c_5] at h
      refine ev_if_ne (x := v_1) (tgt := 229) dX12_read_212 (by decide) (fun _ => ?_) (fun q9 => absurd q9 c_5)
      refine ev_aload_n (j := 0) (x := (some a0)) dX12_read_229 rfl rfl ?_
      obtain ⟨c_9, h⟩ := x_chk_e h
      rcases x_bind_e h with ⟨v_6, σ_7, h_8, h⟩ | ⟨E_16, σ_7, h_8, h⟩
      · have z9 := x_call (M := mX12_read) (M' := mX12_finish) (pc := 230) (st := [va_rf (some a0)]) (rest := []) (av := [va_rf (some a0)]) (x_linkV (M := mX12_read) (M' := mX12_finish) (As := []) (index := 305) (C := RX12) (T := TX12) (xE_12 c_9) rfl wd_797 wd_798 (wG_in (List.mem_append_left _ (List.mem_of_getElem? (i := 84) rfl)) rfl) xw_X12_finish rfl (by decide) rfl rfl dX12_read_230) (ev_X12_finish hO hP h_8) xw_X12_finish rfl wd_198 dX12_read_230 (by decide) (by decide) (by simp [x_cat, x_catI, x_catJ])
        refine x_callR z9 ?_
        refine ev_at (st' := []) rfl rfl ?_
        refine ev_aload_n (j := 0) (x := (some a0)) dX12_read_233 rfl rfl ?_
        refine ev_aload_n (j := 0) (x := (some a0)) dX12_read_234 rfl rfl ?_
        obtain ⟨c_10, h⟩ := x_chk_e h
        refine ev_get (C := RX12) (T := TX12) (k := 40) inX12 (xE_12 c_10) rfl (by decide) wd_638 (Or.inl rfl) rfl dX12_read_235 ?_
        obtain ⟨c_11, h⟩ := x_chk_e h
        obtain ⟨σ_12, eσ_12, h⟩ := x_let_e h
        refine ev_put (σ2 := σ_12) (C := RX12) (T := TX12) (k := 3) inX12 tyX12 tyX12_ok nmX12 (xE_12 c_11.1) rfl (by decide) wd_783 (Or.inl rfl) rfl rfl rfl rfl (Nat.le_of_ble_eq_true rfl) (hP.2.2.2.1 ▸ c_11.2) (by rw [eσ_12]; exact xP_12_3 _ c_11.1) (by rw [eσ_12]; exact xPut_I) dX12_read_238 ?_
        refine ev_aload_n (j := 0) (x := (some a0)) dX12_read_241 rfl rfl ?_
        obtain ⟨c_13, h⟩ := x_chk_e h
        refine ev_get (C := RX12) (T := TX12) (k := 6) inX12 (xE_12 c_13) rfl (by decide) wd_153 (Or.inl rfl) rfl dX12_read_242 ?_
        refine ev_aload_n (j := 0) (x := (some a0)) dX12_read_245 rfl rfl ?_
        refine ev_get (C := RX12) (T := TX12) (k := 3) inX12 (xE_12 c_13) rfl (by decide) wd_783 (Or.inl rfl) rfl dX12_read_246 ?_
        obtain ⟨a_14, ea_14, h⟩ := x_some_e h
        refine ev_at (st' := [.int (σ_12.I 1103 a0), va_rf (some a_14)]) rfl (by rw [ea_14]) ?_
        obtain ⟨c_15, h⟩ := x_chk_e h
        refine ev_iald_31 c_15.1 c_15.2 dX12_read_249 ?_
        cases h
        exact ev_iret rfl rfl dX12_read_250
      · have z9 := x_call (M := mX12_read) (M' := mX12_finish) (pc := 230) (st := [va_rf (some a0)]) (rest := []) (av := [va_rf (some a0)]) (x_linkV (M := mX12_read) (M' := mX12_finish) (As := []) (index := 305) (C := RX12) (T := TX12) (xE_12 c_9) rfl wd_797 wd_798 (wG_in (List.mem_append_left _ (List.mem_of_getElem? (i := 84) rfl)) rfl) xw_X12_finish rfl (by decide) rfl rfl dX12_read_230) (ev_X12_finish hO hP h_8) xw_X12_finish rfl wd_198 dX12_read_230 (by decide) (by decide) (by simp [x_cat, x_catI, x_catJ])
        cases h
        exact x_callX z9 (evX_out rfl)
  · have z9 := x_call (M := mX12_read) (M' := mX12_ok) (pc := 209) (st := [va_rf (some a0)]) (rest := []) (av := [va_rf (some a0)]) (x_linkV (M := mX12_read) (M' := mX12_ok) (As := []) (index := 121) (C := RX12) (T := TX12) (xE_12 c_4) rfl wd_640 wd_641 (wG_in (List.mem_append_left _ (List.mem_of_getElem? (i := 37) rfl)) rfl) xw_X12_ok rfl (by decide) rfl rfl dX12_read_209) (ev_X12_ok hO hP h_3) xw_X12_ok rfl wd_198 dX12_read_209 (by decide) (by decide) (by simp [x_cat, x_catI, x_catJ])
    cases h
    exact x_callX z9 (evX_out rfl)
set_option maxHeartbeats 4000000 in
set_option maxRecDepth 100000 in
theorem ev_X12_read_p197 {l : Launch} {G : xG} (hO : x_OK l G) {P : xP} (hP : x_PG P G) {a0 : Nat} {σ σ' : xS} {rr : Int32 ⊕ String} (h : dm_X12_read_p197 P a0 σ = some (rr, σ')) : Ev l G mX12_read 197 [(0, va_rf (some a0))] [] σ (xrI rr) σ' := by
  unfold dm_X12_read_p197 at h
  refine ev_aload_n (j := 0) (x := (some a0)) dX12_read_197 rfl rfl ?_
  obtain ⟨c_4, h⟩ := x_chk_e h
  rcases x_bind_e h with ⟨v_1, σ_2, h_3, h⟩ | ⟨E_11, σ_2, h_3, h⟩
  · have z9 := x_call (M := mX12_read) (M' := mX12_ok) (pc := 198) (st := [va_rf (some a0)]) (rest := []) (av := [va_rf (some a0)]) (x_linkV (M := mX12_read) (M' := mX12_ok) (As := []) (index := 121) (C := RX12) (T := TX12) (xE_12 c_4) rfl wd_640 wd_641 (wG_in (List.mem_append_left _ (List.mem_of_getElem? (i := 37) rfl)) rfl) xw_X12_ok rfl (by decide) rfl rfl dX12_read_198) (ev_X12_ok hO hP h_3) xw_X12_ok rfl wd_198 dX12_read_198 (by decide) (by decide) (by simp [x_cat, x_catI, x_catJ])
    refine x_callR z9 ?_
    refine ev_at (st' := [.int v_1]) rfl rfl ?_
    by_cases c_5 : v_1 = 0
    · rw [if_pos c_5] at h
      refine ev_if_eq (x := v_1) (tgt := 208) dX12_read_201 (by decide) (fun _ => ?_) (fun q9 => absurd c_5 q9)
      exact ev_sub [0] rfl (ev_X12_read_p208 hO hP h)
    · rw [if_neg c_5] at h
      refine ev_if_eq (x := v_1) (tgt := 208) dX12_read_201 (by decide) (fun q9 => absurd q9 c_5) (fun _ => ?_)
      refine ev_aload_n (j := 0) (x := (some a0)) dX12_read_204 rfl rfl ?_
      obtain ⟨c_9, h⟩ := x_chk_e h
      rcases x_bind_e h with ⟨v_6, σ_7, h_8, h⟩ | ⟨E_10, σ_7, h_8, h⟩
      · have z9 := x_call (M := mX12_read) (M' := mX12_checkRings) (pc := 205) (st := [va_rf (some a0)]) (rest := []) (av := [va_rf (some a0)]) (x_linkV (M := mX12_read) (M' := mX12_checkRings) (As := []) (index := 302) (C := RX12) (T := TX12) (xE_12 c_9) rfl wd_794 wd_795 (wG_in (List.mem_append_left _ (List.mem_of_getElem? (i := 82) rfl)) rfl) xw_X12_checkRings rfl (by decide) rfl rfl dX12_read_205) (ev_X12_checkRings hO hP h_8) xw_X12_checkRings rfl wd_198 dX12_read_205 (by decide) (by decide) (by simp [x_cat, x_catI, x_catJ])
        refine x_callR z9 ?_
        refine ev_at (st' := []) rfl rfl ?_
        exact ev_sub [0] rfl (ev_X12_read_p208 hO hP h)
      · have z9 := x_call (M := mX12_read) (M' := mX12_checkRings) (pc := 205) (st := [va_rf (some a0)]) (rest := []) (av := [va_rf (some a0)]) (x_linkV (M := mX12_read) (M' := mX12_checkRings) (As := []) (index := 302) (C := RX12) (T := TX12) (xE_12 c_9) rfl wd_794 wd_795 (wG_in (List.mem_append_left _ (List.mem_of_getElem? (i := 82) rfl)) rfl) xw_X12_checkRings rfl (by decide) rfl rfl dX12_read_205) (ev_X12_checkRings hO hP h_8) xw_X12_checkRings rfl wd_198 dX12_read_205 (by decide) (by decide) (by simp [x_cat, x_catI, x_catJ])
        cases h
        exact x_callX z9 (evX_out rfl)
  · have z9 := x_call (M := mX12_read) (M' := mX12_ok) (pc := 198) (st := [va_rf (some a0)]) (rest := []) (av := [va_rf (some a0)]) (x_linkV (M := mX12_read) (M' := mX12_ok) (As := []) (index := 121) (C := RX12) (T := TX12) (xE_12 c_4) rfl wd_640 wd_641 (wG_in (List.mem_append_left _ (List.mem_of_getElem? (i := 37) rfl)) rfl) xw_X12_ok rfl (by decide) rfl rfl dX12_read_198) (ev_X12_ok hO hP h_3) xw_X12_ok rfl wd_198 dX12_read_198 (by decide) (by decide) (by simp [x_cat, x_catI, x_catJ])
    cases h
    exact x_callX z9 (evX_out rfl)
set_option maxHeartbeats 4000000 in
set_option maxRecDepth 100000 in
theorem ev_X12_read_p186 {l : Launch} {G : xG} (hO : x_OK l G) {P : xP} (hP : x_PG P G) {a0 : Nat} {σ σ' : xS} {rr : Int32 ⊕ String} (h : dm_X12_read_p186 P a0 σ = some (rr, σ')) : Ev l G mX12_read 186 [(0, va_rf (some a0))] [] σ (xrI rr) σ' := by
  unfold dm_X12_read_p186 at h
  refine ev_aload_n (j := 0) (x := (some a0)) dX12_read_186 rfl rfl ?_
  obtain ⟨c_4, h⟩ := x_chk_e h
  rcases x_bind_e h with ⟨v_1, σ_2, h_3, h⟩ | ⟨E_11, σ_2, h_3, h⟩
  · have z9 := x_call (M := mX12_read) (M' := mX12_ok) (pc := 187) (st := [va_rf (some a0)]) (rest := []) (av := [va_rf (some a0)]) (x_linkV (M := mX12_read) (M' := mX12_ok) (As := []) (index := 121) (C := RX12) (T := TX12) (xE_12 c_4) rfl wd_640 wd_641 (wG_in (List.mem_append_left _ (List.mem_of_getElem? (i := 37) rfl)) rfl) xw_X12_ok rfl (by decide) rfl rfl dX12_read_187) (ev_X12_ok hO hP h_3) xw_X12_ok rfl wd_198 dX12_read_187 (by decide) (by decide) (by simp [x_cat, x_catI, x_catJ])
    refine x_callR z9 ?_
    refine ev_at (st' := [.int v_1]) rfl rfl ?_
    by_cases c_5 : v_1 = 0
    · rw [if_pos c_5] at h
      refine ev_if_eq (x := v_1) (tgt := 197) dX12_read_190 (by decide) (fun _ => ?_) (fun q9 => absurd c_5 q9)
      exact ev_sub [0] rfl (ev_X12_read_p197 hO hP h)
    · rw [if_neg c_5] at h
      refine ev_if_eq (x := v_1) (tgt := 197) dX12_read_190 (by decide) (fun q9 => absurd q9 c_5) (fun _ => ?_)
      refine ev_aload_n (j := 0) (x := (some a0)) dX12_read_193 rfl rfl ?_
      obtain ⟨c_9, h⟩ := x_chk_e h
      rcases x_bind_e h with ⟨v_6, σ_7, h_8, h⟩ | ⟨E_10, σ_7, h_8, h⟩
      · have z9 := x_call (M := mX12_read) (M' := mX12_checkAll) (pc := 194) (st := [va_rf (some a0)]) (rest := []) (av := [va_rf (some a0)]) (x_linkV (M := mX12_read) (M' := mX12_checkAll) (As := []) (index := 299) (C := RX12) (T := TX12) (xE_12 c_9) rfl wd_791 wd_792 (wG_in (List.mem_append_left _ (List.mem_of_getElem? (i := 76) rfl)) rfl) xw_X12_checkAll rfl (by decide) rfl rfl dX12_read_194) (ev_X12_checkAll hO hP h_8) xw_X12_checkAll rfl wd_198 dX12_read_194 (by decide) (by decide) (by simp [x_cat, x_catI, x_catJ])
        refine x_callR z9 ?_
        refine ev_at (st' := []) rfl rfl ?_
        exact ev_sub [0] rfl (ev_X12_read_p197 hO hP h)
      · have z9 := x_call (M := mX12_read) (M' := mX12_checkAll) (pc := 194) (st := [va_rf (some a0)]) (rest := []) (av := [va_rf (some a0)]) (x_linkV (M := mX12_read) (M' := mX12_checkAll) (As := []) (index := 299) (C := RX12) (T := TX12) (xE_12 c_9) rfl wd_791 wd_792 (wG_in (List.mem_append_left _ (List.mem_of_getElem? (i := 76) rfl)) rfl) xw_X12_checkAll rfl (by decide) rfl rfl dX12_read_194) (ev_X12_checkAll hO hP h_8) xw_X12_checkAll rfl wd_198 dX12_read_194 (by decide) (by decide) (by simp [x_cat, x_catI, x_catJ])
        cases h
        exact x_callX z9 (evX_out rfl)
  · have z9 := x_call (M := mX12_read) (M' := mX12_ok) (pc := 187) (st := [va_rf (some a0)]) (rest := []) (av := [va_rf (some a0)]) (x_linkV (M := mX12_read) (M' := mX12_ok) (As := []) (index := 121) (C := RX12) (T := TX12) (xE_12 c_4) rfl wd_640 wd_641 (wG_in (List.mem_append_left _ (List.mem_of_getElem? (i := 37) rfl)) rfl) xw_X12_ok rfl (by decide) rfl rfl dX12_read_187) (ev_X12_ok hO hP h_3) xw_X12_ok rfl wd_198 dX12_read_187 (by decide) (by decide) (by simp [x_cat, x_catI, x_catJ])
    cases h
    exact x_callX z9 (evX_out rfl)
set_option maxHeartbeats 4000000 in
set_option maxRecDepth 100000 in
theorem ev_X12_read_L131 {l : Launch} {G : xG} (hO : x_OK l G) {P : xP} (hP : x_PG P G) {a0 : Nat} : ∀ (n : Nat) {v1 : Int32} {σ σ' : xS} {rr : Int32 ⊕ String}, dm_X12_read_L131 P a0 n v1 σ = some (rr, σ') → Ev l G mX12_read 131 [(0, va_rf (some a0)), (1, .int v1)] [] σ (xrI rr) σ' := by
  intro n
  induction n with
  | zero => intro v1 σ σ' rr h; cases h
  | succ n ih =>
    intro v1 σ σ' rr h
    rw [dm_X12_read_L131] at h
    refine ev_aload_n (j := 0) (x := (some a0)) dX12_read_131 rfl rfl ?_
    obtain ⟨c_4, h⟩ := x_chk_e h
    rcases x_bind_e h with ⟨v_1, σ_2, h_3, h⟩ | ⟨E_17, σ_2, h_3, h⟩
    · have z9 := x_call (M := mX12_read) (M' := mX12_ok) (pc := 132) (st := [va_rf (some a0)]) (rest := []) (av := [va_rf (some a0)]) (x_linkV (M := mX12_read) (M' := mX12_ok) (As := []) (index := 121) (C := RX12) (T := TX12) (xE_12 c_4) rfl wd_640 wd_641 (wG_in (List.mem_append_left _ (List.mem_of_getElem? (i := 37) rfl)) rfl) xw_X12_ok rfl (by decide) rfl rfl dX12_read_132) (ev_X12_ok hO hP h_3) xw_X12_ok rfl wd_198 dX12_read_132 (by decide) (by decide) (by simp [x_cat, x_catI, x_catJ])
      refine x_callR z9 ?_
      refine ev_at (st' := [.int v_1]) rfl rfl ?_
      by_cases c_5 : v_1 = 0
      · rw [if_pos c_5] at h
        refine ev_if_eq (x := v_1) (tgt := 186) dX12_read_135 (by decide) (fun _ => ?_) (fun q9 => absurd c_5 q9)
        exact ev_sub [0] rfl (ev_X12_read_p186 hO hP h)
      · rw [if_neg c_5] at h
        refine ev_if_eq (x := v_1) (tgt := 186) dX12_read_135 (by decide) (fun q9 => absurd q9 c_5) (fun _ => ?_)
        refine ev_aload_n (j := 0) (x := (some a0)) dX12_read_138 rfl rfl ?_
        obtain ⟨c_6, h⟩ := x_chk_e h
        refine ev_get (C := RX12) (T := TX12) (k := 35) inX12 (xE_12 c_6) rfl (by decide) wd_653 (Or.inl rfl) rfl dX12_read_139 ?_
        by_cases c_7 : (σ_2.I 1135 a0) = 0
        · rw [if_pos c_7] at h
          refine ev_if_eq (x := (σ_2.I 1135 a0)) (tgt := 186) dX12_read_142 (by decide) (fun _ => ?_) (fun q9 => absurd c_7 q9)
          exact ev_sub [0] rfl (ev_X12_read_p186 hO hP h)
        · rw [if_neg c_7] at h
          refine ev_if_eq (x := (σ_2.I 1135 a0)) (tgt := 186) dX12_read_142 (by decide) (fun q9 => absurd q9 c_7) (fun _ => ?_)
          refine ev_iload_n (j := 1) (x := v1) dX12_read_145 rfl rfl ?_
          by_cases c_8 : v1 = 0
          · rw [if_pos c_8] at h
            refine ev_if_ne (x := v1) (tgt := 156) dX12_read_146 (by decide) (fun q9 => absurd c_8 q9) (fun _ => ?_)
            refine ev_aload_n (j := 0) (x := (some a0)) dX12_read_149 rfl rfl ?_
            rcases x_bind_e h with ⟨v_13, σ_14, h_15, h⟩ | ⟨E_16, σ_14, h_15, h⟩
            · have z9 := x_call (M := mX12_read) (M' := mX12_longModule) (pc := 150) (st := [va_rf (some a0)]) (rest := []) (av := [va_rf (some a0)]) (x_linkV (M := mX12_read) (M' := mX12_longModule) (As := []) (index := 293) (C := RX12) (T := TX12) (xE_12 c_6) rfl wd_788 wd_789 (wG_in (List.mem_append_left _ (List.mem_of_getElem? (i := 40) rfl)) rfl) xw_X12_longModule rfl (by decide) rfl rfl dX12_read_150) (ev_X12_longModule hO hP h_15) xw_X12_longModule rfl wd_198 dX12_read_150 (by decide) (by decide) (by simp [x_cat, x_catI, x_catJ])
              refine x_callR z9 ?_
              refine ev_at (st' := []) rfl rfl ?_
              refine ev_goto (tgt := 160) dX12_read_153 (by decide) ?_
              exact ev_sub [0, 1] rfl (ev_X12_read_p160 hO hP ih h)
            · have z9 := x_call (M := mX12_read) (M' := mX12_longModule) (pc := 150) (st := [va_rf (some a0)]) (rest := []) (av := [va_rf (some a0)]) (x_linkV (M := mX12_read) (M' := mX12_longModule) (As := []) (index := 293) (C := RX12) (T := TX12) (xE_12 c_6) rfl wd_788 wd_789 (wG_in (List.mem_append_left _ (List.mem_of_getElem? (i := 40) rfl)) rfl) xw_X12_longModule rfl (by decide) rfl rfl dX12_read_150) (ev_X12_longModule hO hP h_15) xw_X12_longModule rfl wd_198 dX12_read_150 (by decide) (by decide) (by simp [x_cat, x_catI, x_catJ])
              cases h
              exact x_callX z9 (evX_out rfl)
          · rw [if_neg c_8] at h
            refine ev_if_ne (x := v1) (tgt := 156) dX12_read_146 (by decide) (fun _ => ?_) (fun q9 => absurd q9 c_8)
            refine ev_aload_n (j := 0) (x := (some a0)) dX12_read_156 rfl rfl ?_
            rcases x_bind_e h with ⟨v_9, σ_10, h_11, h⟩ | ⟨E_12, σ_10, h_11, h⟩
            · have z9 := x_call (M := mX12_read) (M' := mX12_shortModule) (pc := 157) (st := [va_rf (some a0)]) (rest := []) (av := [va_rf (some a0)]) (x_linkV (M := mX12_read) (M' := mX12_shortModule) (As := []) (index := 296) (C := RX12) (T := TX12) (xE_12 c_6) rfl wd_785 wd_786 (wG_in (List.mem_append_left _ (List.mem_of_getElem? (i := 70) rfl)) rfl) xw_X12_shortModule rfl (by decide) rfl rfl dX12_read_157) (ev_X12_shortModule hO hP h_11) xw_X12_shortModule rfl wd_198 dX12_read_157 (by decide) (by decide) (by simp [x_cat, x_catI, x_catJ])
              refine x_callR z9 ?_
              refine ev_at (st' := []) rfl rfl ?_
              exact ev_sub [0, 1] rfl (ev_X12_read_p160 hO hP ih h)
            · have z9 := x_call (M := mX12_read) (M' := mX12_shortModule) (pc := 157) (st := [va_rf (some a0)]) (rest := []) (av := [va_rf (some a0)]) (x_linkV (M := mX12_read) (M' := mX12_shortModule) (As := []) (index := 296) (C := RX12) (T := TX12) (xE_12 c_6) rfl wd_785 wd_786 (wG_in (List.mem_append_left _ (List.mem_of_getElem? (i := 70) rfl)) rfl) xw_X12_shortModule rfl (by decide) rfl rfl dX12_read_157) (ev_X12_shortModule hO hP h_11) xw_X12_shortModule rfl wd_198 dX12_read_157 (by decide) (by decide) (by simp [x_cat, x_catI, x_catJ])
              cases h
              exact x_callX z9 (evX_out rfl)
    · have z9 := x_call (M := mX12_read) (M' := mX12_ok) (pc := 132) (st := [va_rf (some a0)]) (rest := []) (av := [va_rf (some a0)]) (x_linkV (M := mX12_read) (M' := mX12_ok) (As := []) (index := 121) (C := RX12) (T := TX12) (xE_12 c_4) rfl wd_640 wd_641 (wG_in (List.mem_append_left _ (List.mem_of_getElem? (i := 37) rfl)) rfl) xw_X12_ok rfl (by decide) rfl rfl dX12_read_132) (ev_X12_ok hO hP h_3) xw_X12_ok rfl wd_198 dX12_read_132 (by decide) (by decide) (by simp [x_cat, x_catI, x_catJ])
      cases h
      exact x_callX z9 (evX_out rfl)
set_option maxHeartbeats 4000000 in
set_option maxRecDepth 100000 in
theorem ev_X12_read_L52 {l : Launch} {G : xG} (hO : x_OK l G) {P : xP} (hP : x_PG P G) {a0 : Nat} : ∀ (n : Nat) {v1 : Int32} {v2 : Int32} {σ σ' : xS} {rr : Int32 ⊕ String}, dm_X12_read_L52 P a0 n v1 v2 σ = some (rr, σ') → Ev l G mX12_read 52 [(0, va_rf (some a0)), (1, .int v1), (2, .int v2)] [] σ (xrI rr) σ' := by
  intro n
  induction n with
  | zero => intro v1 v2 σ σ' rr h; cases h
  | succ n ih =>
    intro v1 v2 σ σ' rr h
    rw [dm_X12_read_L52] at h
    refine ev_iload_n (j := 2) (x := v2) dX12_read_52 rfl rfl ?_
    refine ev_aload_n (j := 0) (x := (some a0)) dX12_read_53 rfl rfl ?_
    obtain ⟨c_1, h⟩ := x_chk_e h
    refine ev_get (C := RX12) (T := TX12) (k := 2) inX12 (xE_12 c_1) rfl (by decide) wd_199 (Or.inl rfl) rfl dX12_read_54 ?_
    by_cases c_2 : (σ.I 1102 a0) ≤ v2
    · rw [if_pos c_2] at h
      refine ev_icmp_ge (x := v2) (y := (σ.I 1102 a0)) (tgt := 87) dX12_read_57 (by decide) (fun _ => ?_) (fun q9 => absurd c_2 q9)
      refine ev_aload_n (j := 0) (x := (some a0)) dX12_read_87 rfl rfl ?_
      refine ev_iconst (v := 0) dX12_read_88 (by decide) ?_
      obtain ⟨c_3, h⟩ := x_chk_e h
      obtain ⟨σ_4, eσ_4, h⟩ := x_let_e h
      refine ev_put (σ2 := σ_4) (C := RX12) (T := TX12) (k := 2) inX12 tyX12 tyX12_ok nmX12 (xE_12 c_3.1) rfl (by decide) wd_199 (Or.inl rfl) rfl rfl rfl rfl (Nat.le_of_ble_eq_true rfl) (hP.2.2.2.1 ▸ c_3.2) (by rw [eσ_4]; exact xP_12_2 _ c_3.1) (by rw [eσ_4]; exact xPut_I) dX12_read_89 ?_
      refine ev_aload_n (j := 0) (x := (some a0)) dX12_read_92 rfl rfl ?_
      obtain ⟨c_5, h⟩ := x_chk_e h
      refine ev_get (C := RX12) (T := TX12) (k := 15) inX12 (xE_12 c_5) rfl (by decide) wd_163 (Or.inl rfl) rfl dX12_read_93 ?_
      refine ev_aload_n (j := 0) (x := (some a0)) dX12_read_96 rfl rfl ?_
      refine ev_get (C := RX12) (T := TX12) (k := 40) inX12 (xE_12 c_5) rfl (by decide) wd_638 (Or.inl rfl) rfl dX12_read_97 ?_
      refine ev_iconst (v := 0) dX12_read_100 (by decide) ?_
      obtain ⟨a_6, ea_6, h⟩ := x_some_e h
      refine ev_at (st' := [.int 0, .int (σ_4.I 1140 a0), va_rf (some a_6)]) rfl (by rw [ea_6]) ?_
      obtain ⟨c_7, h⟩ := x_chk_e h
      obtain ⟨σ_8, eσ_8, h⟩ := x_let_e h
      refine ev_iast_31 c_7.1 c_7.2.1 (hP.2.2.2.1 ▸ c_7.2.2) dX12_read_101 (eσ_8 ▸ ?_)
      refine ev_aload_n (j := 0) (x := (some a0)) dX12_read_102 rfl rfl ?_
      obtain ⟨c_9, h⟩ := x_chk_e h
      refine ev_get (C := RX12) (T := TX12) (k := 6) inX12 (xE_12 c_9) rfl (by decide) wd_153 (Or.inl rfl) rfl dX12_read_103 ?_
      refine ev_aload_n (j := 0) (x := (some a0)) dX12_read_106 rfl rfl ?_
      refine ev_get (C := RX12) (T := TX12) (k := 40) inX12 (xE_12 c_9) rfl (by decide) wd_638 (Or.inl rfl) rfl dX12_read_107 ?_
      refine ev_iconst (v := 0) dX12_read_110 (by decide) ?_
      obtain ⟨a_10, ea_10, h⟩ := x_some_e h
      refine ev_at (st' := [.int 0, .int (σ_8.I 1140 a0), va_rf (some a_10)]) rfl (by rw [ea_10]) ?_
      obtain ⟨c_11, h⟩ := x_chk_e h
      obtain ⟨σ_12, eσ_12, h⟩ := x_let_e h
      refine ev_iast_31 c_11.1 c_11.2.1 (hP.2.2.2.1 ▸ c_11.2.2) dX12_read_111 (eσ_12 ▸ ?_)
      refine ev_aload_n (j := 0) (x := (some a0)) dX12_read_112 rfl rfl ?_
      refine ev_iconst (v := 0) dX12_read_113 (by decide) ?_
      obtain ⟨c_13, h⟩ := x_chk_e h
      obtain ⟨σ_14, eσ_14, h⟩ := x_let_e h
      refine ev_put (σ2 := σ_14) (C := RX12) (T := TX12) (k := 41) inX12 tyX12 tyX12_ok nmX12 (xE_12 c_13.1) rfl (by decide) wd_668 (Or.inl rfl) rfl rfl rfl rfl (Nat.le_of_ble_eq_true rfl) (hP.2.2.2.1 ▸ c_13.2) (by rw [eσ_14]; exact xP_12_41 _ c_13.1) (by rw [eσ_14]; exact xPut_I) dX12_read_114 ?_
      refine ev_aload_n (j := 0) (x := (some a0)) dX12_read_117 rfl rfl ?_
      refine ev_iconst (v := 0) dX12_read_118 (by decide) ?_
      obtain ⟨c_15, h⟩ := x_chk_e h
      obtain ⟨σ_16, eσ_16, h⟩ := x_let_e h
      refine ev_put (σ2 := σ_16) (C := RX12) (T := TX12) (k := 34) inX12 tyX12 tyX12_ok nmX12 (xE_12 c_15.1) rfl (by decide) wd_642 (Or.inl rfl) rfl rfl rfl rfl (Nat.le_of_ble_eq_true rfl) (hP.2.2.2.1 ▸ c_15.2) (by rw [eσ_16]; exact xP_12_34 _ c_15.1) (by rw [eσ_16]; exact xPut_I) dX12_read_119 ?_
      refine ev_aload_n (j := 0) (x := (some a0)) dX12_read_122 rfl rfl ?_
      refine ev_iconst (v := -1) dX12_read_123 (by decide) ?_
      obtain ⟨c_17, h⟩ := x_chk_e h
      obtain ⟨σ_18, eσ_18, h⟩ := x_let_e h
      refine ev_put (σ2 := σ_18) (C := RX12) (T := TX12) (k := 39) inX12 tyX12 tyX12_ok nmX12 (xE_12 c_17.1) rfl (by decide) wd_182 (Or.inl rfl) rfl rfl rfl rfl (Nat.le_of_ble_eq_true rfl) (hP.2.2.2.1 ▸ c_17.2) (by rw [eσ_18]; exact xP_12_39 _ c_17.1) (by rw [eσ_18]; exact xPut_I) dX12_read_124 ?_
      refine ev_aload_n (j := 0) (x := (some a0)) dX12_read_127 rfl rfl ?_
      obtain ⟨c_22, h⟩ := x_chk_e h
      rcases x_bind_e h with ⟨v_19, σ_20, h_21, h⟩ | ⟨E_23, σ_20, h_21, h⟩
      · have z9 := x_call (M := mX12_read) (M' := mX12_next) (pc := 128) (st := [va_rf (some a0)]) (rest := []) (av := [va_rf (some a0)]) (x_linkV (M := mX12_read) (M' := mX12_next) (As := []) (index := 169) (C := RX12) (T := TX12) (xE_12 c_22) rfl wd_679 wd_680 (wG_in (List.mem_append_left _ (List.mem_of_getElem? (i := 36) rfl)) rfl) xw_X12_next rfl (by decide) rfl rfl dX12_read_128) (ev_X12_next hO hP h_21) xw_X12_next rfl wd_198 dX12_read_128 (by decide) (by decide) (by simp [x_cat, x_catI, x_catJ])
        refine x_callR z9 ?_
        refine ev_at (st' := []) rfl rfl ?_
        exact ev_sub [0, 1] rfl (ev_X12_read_L131 hO hP P.N h)
      · have z9 := x_call (M := mX12_read) (M' := mX12_next) (pc := 128) (st := [va_rf (some a0)]) (rest := []) (av := [va_rf (some a0)]) (x_linkV (M := mX12_read) (M' := mX12_next) (As := []) (index := 169) (C := RX12) (T := TX12) (xE_12 c_22) rfl wd_679 wd_680 (wG_in (List.mem_append_left _ (List.mem_of_getElem? (i := 36) rfl)) rfl) xw_X12_next rfl (by decide) rfl rfl dX12_read_128) (ev_X12_next hO hP h_21) xw_X12_next rfl wd_198 dX12_read_128 (by decide) (by decide) (by simp [x_cat, x_catI, x_catJ])
        cases h
        exact x_callX z9 (evX_out rfl)
    · rw [if_neg c_2] at h
      refine ev_icmp_ge (x := v2) (y := (σ.I 1102 a0)) (tgt := 87) dX12_read_57 (by decide) (fun q9 => absurd q9 c_2) (fun _ => ?_)
      refine ev_aload_n (j := 0) (x := (some a0)) dX12_read_60 rfl rfl ?_
      refine ev_get (C := RX12) (T := TX12) (k := 4) inX12 (xE_12 c_1) rfl (by decide) wd_151 (Or.inl rfl) rfl dX12_read_61 ?_
      refine ev_sipush (v := 1000) dX12_read_64 (by decide) ?_
      refine ev_aload_n (j := 0) (x := (some a0)) dX12_read_67 rfl rfl ?_
      refine ev_get (C := RX12) (T := TX12) (k := 40) inX12 (xE_12 c_1) rfl (by decide) wd_638 (Or.inl rfl) rfl dX12_read_68 ?_
      refine ev_imul (x := 1000) (y := (σ.I 1140 a0)) dX12_read_71 ?_
      refine ev_iload_n (j := 2) (x := v2) dX12_read_72 rfl rfl ?_
      refine ev_iadd (x := (1000 * (σ.I 1140 a0))) (y := v2) dX12_read_73 ?_
      refine ev_aload_n (j := 0) (x := (some a0)) dX12_read_74 rfl rfl ?_
      refine ev_get (C := RX12) (T := TX12) (k := 1) inX12 (xE_12 c_1) rfl (by decide) wd_150 (Or.inl rfl) rfl dX12_read_75 ?_
      refine ev_iload_n (j := 2) (x := v2) dX12_read_78 rfl rfl ?_
      obtain ⟨a_24, ea_24, h⟩ := x_some_e h
      refine ev_at (st' := [.int v2, va_rf (some a_24), .int ((1000 * (σ.I 1140 a0)) + v2), va_rf (σ.R 1104 a0)]) rfl (by rw [ea_24]) ?_
      obtain ⟨c_25, h⟩ := x_chk_e h
      refine ev_iald_31 c_25.1 c_25.2 dX12_read_79 ?_
      obtain ⟨a_26, ea_26, h⟩ := x_some_e h
      refine ev_at (st' := [.int (σ.AI a_24 (Int32.toNatClampNeg v2)), .int ((1000 * (σ.I 1140 a0)) + v2), va_rf (some a_26)]) rfl (by rw [ea_26]) ?_
      obtain ⟨c_27, h⟩ := x_chk_e h
      obtain ⟨σ_28, eσ_28, h⟩ := x_let_e h
      refine ev_iast_31 c_27.1 c_27.2.1 (hP.2.2.2.1 ▸ c_27.2.2) dX12_read_80 (eσ_28 ▸ ?_)
      obtain ⟨v_29, ev_29, h⟩ := x_let_e h
      refine ev_iinc (j := 2) (x := v2) (v := v_29) (lv' := [(2, .int v_29), (0, va_rf (some a0)), (1, .int v1)]) dX12_read_81 rfl (by rw [ev_29]; rfl) (by decide) rfl ?_
      refine ev_goto (tgt := 52) dX12_read_84 (by decide) ?_
      exact ev_sub [1, 2, 0] rfl (ih h)
set_option maxHeartbeats 4000000 in
set_option maxRecDepth 100000 in
theorem ev_X12_read_p15 {l : Launch} {G : xG} (hO : x_OK l G) {P : xP} (hP : x_PG P G) {a0 : Nat} {v1 : Int32} {s0 : Option Nat} {s1 : Int32} {σ σ' : xS} {rr : Int32 ⊕ String} (h : dm_X12_read_p15 P a0 v1 s0 s1 σ = some (rr, σ')) : Ev l G mX12_read 15 [(0, va_rf (some a0)), (1, .int v1)] [.int s1, va_rf s0] σ (xrI rr) σ' := by
  unfold dm_X12_read_p15 at h
  obtain ⟨a_1, ea_1, h⟩ := x_some_e h
  refine ev_at (st' := [.int s1, va_rf (some a_1)]) rfl (by rw [ea_1]) ?_
  obtain ⟨c_2, h⟩ := x_chk_e h
  obtain ⟨σ_3, eσ_3, h⟩ := x_let_e h
  refine ev_put (σ2 := σ_3) (C := RX12) (T := TX12) (k := 0) inX12 tyX12 tyX12_ok nmX12 (xE_12 c_2.1) rfl (by decide) wd_194 (Or.inl rfl) rfl rfl rfl rfl (Nat.le_of_ble_eq_true rfl) (hP.2.2.2.1 ▸ c_2.2) (by rw [eσ_3]; exact xP_12_0 _ c_2.1) (by rw [eσ_3]; exact xPut_I) dX12_read_15 ?_
  refine ev_aload_n (j := 0) (x := (some a0)) dX12_read_18 rfl rfl ?_
  obtain ⟨c_4, h⟩ := x_chk_e h
  refine ev_get (C := RX12) (T := TX12) (k := 0) inX12 (xE_12 c_4) rfl (by decide) wd_194 (Or.inl rfl) rfl dX12_read_19 ?_
  by_cases c_5 : (σ_3.I 1100 a0) ≤ 0
  · rw [if_pos c_5] at h
    refine ev_if_le (x := (σ_3.I 1100 a0)) (tgt := 27) dX12_read_22 (by decide) (fun _ => ?_) (fun q9 => absurd c_5 q9)
    refine ev_aload_n (j := 0) (x := (some a0)) dX12_read_27 rfl rfl ?_
    refine ev_iconst (v := 1) dX12_read_28 (by decide) ?_
    refine ev_aload_n (j := 0) (x := (some a0)) dX12_read_29 rfl rfl ?_
    refine ev_get (C := RX12) (T := TX12) (k := 3) inX12 (xE_12 c_4) rfl (by decide) wd_783 (Or.inl rfl) rfl dX12_read_30 ?_
    refine ev_isub (x := 1) (y := (σ_3.I 1103 a0)) dX12_read_33 ?_
    obtain ⟨c_6, h⟩ := x_chk_e h
    obtain ⟨σ_7, eσ_7, h⟩ := x_let_e h
    refine ev_put (σ2 := σ_7) (C := RX12) (T := TX12) (k := 40) inX12 tyX12 tyX12_ok nmX12 (xE_12 c_6.1) rfl (by decide) wd_638 (Or.inl rfl) rfl rfl rfl rfl (Nat.le_of_ble_eq_true rfl) (hP.2.2.2.1 ▸ c_6.2) (by rw [eσ_7]; exact xP_12_40 _ c_6.1) (by rw [eσ_7]; exact xPut_I) dX12_read_34 ?_
    refine ev_aload_n (j := 0) (x := (some a0)) dX12_read_37 rfl rfl ?_
    obtain ⟨c_8, h⟩ := x_chk_e h
    refine ev_get (C := RX12) (T := TX12) (k := 5) inX12 (xE_12 c_8) rfl (by decide) wd_152 (Or.inl rfl) rfl dX12_read_38 ?_
    refine ev_aload_n (j := 0) (x := (some a0)) dX12_read_41 rfl rfl ?_
    refine ev_get (C := RX12) (T := TX12) (k := 40) inX12 (xE_12 c_8) rfl (by decide) wd_638 (Or.inl rfl) rfl dX12_read_42 ?_
    refine ev_aload_n (j := 0) (x := (some a0)) dX12_read_45 rfl rfl ?_
    refine ev_get (C := RX12) (T := TX12) (k := 2) inX12 (xE_12 c_8) rfl (by decide) wd_199 (Or.inl rfl) rfl dX12_read_46 ?_
    obtain ⟨a_9, ea_9, h⟩ := x_some_e h
    refine ev_at (st' := [.int (σ_7.I 1102 a0), .int (σ_7.I 1140 a0), va_rf (some a_9)]) rfl (by rw [ea_9]) ?_
    obtain ⟨c_10, h⟩ := x_chk_e h
    obtain ⟨σ_11, eσ_11, h⟩ := x_let_e h
    refine ev_iast_31 c_10.1 c_10.2.1 (hP.2.2.2.1 ▸ c_10.2.2) dX12_read_49 (eσ_11 ▸ ?_)
    refine ev_iconst (v := 0) dX12_read_50 (by decide) ?_
    refine ev_istore_n (i := 2) (lv' := [(2, .int 0), (0, va_rf (some a0)), (1, .int v1)]) dX12_read_51 rfl (by decide) rfl ?_
    exact ev_sub [1, 2, 0] rfl (ev_X12_read_L52 hO hP P.N h)
  · rw [if_neg c_5] at h
    refine ev_if_le (x := (σ_3.I 1100 a0)) (tgt := 27) dX12_read_22 (by decide) (fun q9 => absurd q9 c_5) (fun _ => ?_)
    refine ev_iconst (v := 0) dX12_read_25 (by decide) ?_
    cases h
    exact ev_iret rfl rfl dX12_read_26
set_option maxHeartbeats 4000000 in
set_option maxRecDepth 100000 in
theorem ev_X12_read_p10 {l : Launch} {G : xG} (hO : x_OK l G) {P : xP} (hP : x_PG P G) {a0 : Nat} {v1 : Int32} {s0 : Option Nat} {σ σ' : xS} {rr : Int32 ⊕ String} (h : dm_X12_read_p10 P a0 v1 s0 σ = some (rr, σ')) : Ev l G mX12_read 10 [(0, va_rf (some a0)), (1, .int v1)] [va_rf s0] σ (xrI rr) σ' := by
  unfold dm_X12_read_p10 at h
  refine ev_iconst (v := 0) dX12_read_10 (by decide) ?_
  refine ev_goto (tgt := 15) dX12_read_11 (by decide) ?_
  exact ev_sub [0, 1] rfl (ev_X12_read_p15 hO hP h)
set_option maxHeartbeats 4000000 in
set_option maxRecDepth 100000 in
theorem ev_X12_read {l : Launch} {G : xG} (hO : x_OK l G) {P : xP} (hP : x_PG P G) {a0 : Nat} {v1 : Int32} {σ σ' : xS} {rr : Int32 ⊕ String} (h : dm_X12_read P a0 v1 σ = some (rr, σ')) : EvM l G mX12_read [va_rf (some a0), .int v1] σ (xrI rr) σ' := by
  unfold dm_X12_read at h
  refine evM_of hO (by decide +kernel) (x_lenI (by simp [x_cat, x_catI, x_catJ, mX12_read, xM.maxL])) ?_
  refine Eq.mp (congrArg (fun z => Ev l G mX12_read 0 z [] σ (xrI rr) σ') (show [(0, va_rf (some a0)), (1, .int v1)] = lv_args 0 [va_rf (some a0), .int v1] by simp [lv_args, x_cat, x_catI, x_catJ])) ?_
  refine ev_aload_n (j := 0) (x := (some a0)) dX12_read_0 rfl rfl ?_
  refine ev_iload_n (j := 1) (x := v1) dX12_read_1 rfl rfl ?_
  by_cases c_1 : v1 = 0
  · rw [if_pos c_1] at h
    refine ev_if_eq (x := v1) (tgt := 10) dX12_read_2 (by decide) (fun _ => ?_) (fun q9 => absurd c_1 q9)
    exact ev_sub [0, 1] rfl (ev_X12_read_p10 hO hP h)
  · rw [if_neg c_1] at h
    refine ev_if_eq (x := v1) (tgt := 10) dX12_read_2 (by decide) (fun q9 => absurd q9 c_1) (fun _ => ?_)
    refine ev_iload_n (j := 1) (x := v1) dX12_read_5 rfl rfl ?_
    refine ev_iconst (v := 1) dX12_read_6 (by decide) ?_
    by_cases c_2 : v1 = 1
    · rw [if_pos c_2] at h
      refine ev_icmp_ne (x := v1) (y := 1) (tgt := 14) dX12_read_7 (by decide) (fun q9 => absurd c_2 q9) (fun _ => ?_)
      exact ev_sub [0, 1] rfl (ev_X12_read_p10 hO hP h)
    · rw [if_neg c_2] at h
      refine ev_icmp_ne (x := v1) (y := 1) (tgt := 14) dX12_read_7 (by decide) (fun _ => ?_) (fun q9 => absurd q9 c_2)
      refine ev_iconst (v := 1) dX12_read_14 (by decide) ?_
      exact ev_sub [0, 1] rfl (ev_X12_read_p15 hO hP h)
set_option maxHeartbeats 4000000 in
set_option maxRecDepth 100000 in
theorem ev_X12_thrown {l : Launch} {G : xG} (hO : x_OK l G) {P : xP} (hP : x_PG P G) {a0 : Nat} {σ σ' : xS} {rr : Int32 ⊕ String} (h : dm_X12_thrown P a0 σ = some (rr, σ')) : EvM l G mX12_thrown [va_rf (some a0)] σ (xrI rr) σ' := by
  unfold dm_X12_thrown at h
  refine evM_of hO (by decide +kernel) (x_lenI (by simp [x_cat, x_catI, x_catJ, mX12_thrown, xM.maxL])) ?_
  refine Eq.mp (congrArg (fun z => Ev l G mX12_thrown 0 z [] σ (xrI rr) σ') (show [(0, va_rf (some a0))] = lv_args 0 [va_rf (some a0)] by simp [lv_args, x_cat, x_catI, x_catJ])) ?_
  refine ev_aload_n (j := 0) (x := (some a0)) dX12_thrown_0 rfl rfl ?_
  obtain ⟨c_1, h⟩ := x_chk_e h
  refine ev_get (C := RX12) (T := TX12) (k := 0) inX12 (xE_12 c_1) rfl (by decide) wd_194 (Or.inl rfl) rfl dX12_thrown_1 ?_
  cases h
  exact ev_iret rfl rfl dX12_thrown_4
set_option maxHeartbeats 4000000 in
set_option maxRecDepth 100000 in
theorem ev_X11_module {l : Launch} {G : xG} (hO : x_OK l G) {P : xP} (hP : x_PG P G) {a0 : Nat} {v1 : Int32} {v2 : Int32} {σ σ' : xS} {rr : Int32 ⊕ String} (h : dm_X11_module P a0 v1 v2 σ = some (rr, σ')) : EvM l G mX11_module [va_rf (some a0), .int v1, .int v2] σ (xrI rr) σ' := by
  unfold dm_X11_module at h
  refine evM_of hO (by decide +kernel) (x_lenI (by simp [x_cat, x_catI, x_catJ, mX11_module, xM.maxL])) ?_
  refine Eq.mp (congrArg (fun z => Ev l G mX11_module 0 z [] σ (xrI rr) σ') (show [(0, va_rf (some a0)), (1, .int v1), (2, .int v2)] = lv_args 0 [va_rf (some a0), .int v1, .int v2] by simp [lv_args, x_cat, x_catI, x_catJ])) ?_
  refine ev_aload_n (j := 0) (x := (some a0)) dX11_module_0 rfl rfl ?_
  refine ev_iload_n (j := 1) (x := v1) dX11_module_1 rfl rfl ?_
  obtain ⟨c_4, h⟩ := x_chk_e h
  rcases x_bind_e h with ⟨v_1, σ_2, h_3, h⟩ | ⟨E_25, σ_2, h_3, h⟩
  · have z9 := x_call (M := mX11_module) (M' := mX11_moduleAt) (pc := 2) (st := [.int v1, va_rf (some a0)]) (rest := []) (av := [va_rf (some a0), .int v1]) (x_linkV (M := mX11_module) (M' := mX11_moduleAt) (As := [.int v1]) (index := 77) (C := RX11) (T := TX11) (xE_11 c_4) rfl wd_13 wd_14 (wG_in (List.mem_append_left _ (List.mem_of_getElem? (i := 18) rfl)) rfl) xw_X11_moduleAt rfl (by decide) rfl rfl dX11_module_2) (ev_X11_moduleAt hO hP h_3) xw_X11_moduleAt rfl wd_5 dX11_module_2 (by decide) (by decide) (by simp [x_cat, x_catI, x_catJ])
    refine x_callR z9 ?_
    refine ev_at (st' := [va_rf v_1]) rfl rfl ?_
    refine ev_astore_n (i := 3) (lv' := [(3, va_rf v_1), (0, va_rf (some a0)), (1, .int v1), (2, .int v2)]) dX11_module_5 rfl (by decide) rfl ?_
    refine ev_iload_n (j := 3) (x := v2) dX11_module_6 rfl rfl ?_
    obtain ⟨v_5, ev_5, h⟩ := x_let_e h
    rw [← ev_5]
    by_cases c_6 : v_5 = 0
    · rw [if_pos c_6] at h
      refine ev_at (st' := .int 0 :: []) rfl (by rw [c_6]) ?_
      refine ev_tableIn (tgt := 44) (off := 37) dX11_module_7 (by decide) (by decide) rfl (by decide) ?_
      refine ev_aload_n (j := 0) (x := v_1) dX11_module_44 rfl rfl ?_
      obtain ⟨a_7, ea_7, h⟩ := x_some_e h
      refine ev_at (st' := [va_rf (some a_7)]) rfl (by rw [ea_7]) ?_
      obtain ⟨c_8, h⟩ := x_chk_e h
      refine ev_get (C := RX5) (T := TX5) (k := 5) inX5 (xE_6 c_8) rfl (by decide) wd_799 (Or.inl rfl) rfl dX11_module_45 ?_
      cases h
      exact ev_iret rfl rfl dX11_module_48
    rw [if_neg c_6] at h
    by_cases c_9 : v_5 = 1
    · rw [if_pos c_9] at h
      refine ev_at (st' := .int 1 :: []) rfl (by rw [c_9]) ?_
      refine ev_tableIn (tgt := 49) (off := 42) dX11_module_7 (by decide) (by decide) rfl (by decide) ?_
      refine ev_aload_n (j := 0) (x := v_1) dX11_module_49 rfl rfl ?_
      obtain ⟨a_10, ea_10, h⟩ := x_some_e h
      refine ev_at (st' := [va_rf (some a_10)]) rfl (by rw [ea_10]) ?_
      obtain ⟨c_11, h⟩ := x_chk_e h
      refine ev_get (C := RX5) (T := TX5) (k := 4) inX5 (xE_6 c_11) rfl (by decide) wd_800 (Or.inl rfl) rfl dX11_module_50 ?_
      cases h
      exact ev_iret rfl rfl dX11_module_53
    rw [if_neg c_9] at h
    by_cases c_12 : v_5 = 2
    · rw [if_pos c_12] at h
      refine ev_at (st' := .int 2 :: []) rfl (by rw [c_12]) ?_
      refine ev_tableIn (tgt := 54) (off := 47) dX11_module_7 (by decide) (by decide) rfl (by decide) ?_
      refine ev_aload_n (j := 0) (x := v_1) dX11_module_54 rfl rfl ?_
      obtain ⟨a_13, ea_13, h⟩ := x_some_e h
      refine ev_at (st' := [va_rf (some a_13)]) rfl (by rw [ea_13]) ?_
      obtain ⟨c_14, h⟩ := x_chk_e h
      refine ev_get (C := RX5) (T := TX5) (k := 6) inX5 (xE_6 c_14) rfl (by decide) wd_801 (Or.inl rfl) rfl dX11_module_55 ?_
      cases h
      exact ev_iret rfl rfl dX11_module_58
    rw [if_neg c_12] at h
    by_cases c_15 : v_5 = 3
    · rw [if_pos c_15] at h
      refine ev_at (st' := .int 3 :: []) rfl (by rw [c_15]) ?_
      refine ev_tableIn (tgt := 59) (off := 52) dX11_module_7 (by decide) (by decide) rfl (by decide) ?_
      refine ev_aload_n (j := 0) (x := v_1) dX11_module_59 rfl rfl ?_
      obtain ⟨a_16, ea_16, h⟩ := x_some_e h
      refine ev_at (st' := [va_rf (some a_16)]) rfl (by rw [ea_16]) ?_
      obtain ⟨c_17, h⟩ := x_chk_e h
      refine ev_get (C := RX5) (T := TX5) (k := 9) inX5 (xE_6 c_17) rfl (by decide) wd_15 (Or.inl rfl) rfl dX11_module_60 ?_
      cases h
      exact ev_iret rfl rfl dX11_module_63
    rw [if_neg c_15] at h
    by_cases c_18 : v_5 = 4
    · rw [if_pos c_18] at h
      refine ev_at (st' := .int 4 :: []) rfl (by rw [c_18]) ?_
      refine ev_tableIn (tgt := 64) (off := 57) dX11_module_7 (by decide) (by decide) rfl (by decide) ?_
      refine ev_aload_n (j := 0) (x := v_1) dX11_module_64 rfl rfl ?_
      obtain ⟨a_19, ea_19, h⟩ := x_some_e h
      refine ev_at (st' := [va_rf (some a_19)]) rfl (by rw [ea_19]) ?_
      obtain ⟨c_20, h⟩ := x_chk_e h
      refine ev_get (C := RX5) (T := TX5) (k := 11) inX5 (xE_6 c_20) rfl (by decide) wd_39 (Or.inl rfl) rfl dX11_module_65 ?_
      cases h
      exact ev_iret rfl rfl dX11_module_68
    rw [if_neg c_18] at h
    by_cases c_21 : v_5 = 5
    · rw [if_pos c_21] at h
      refine ev_at (st' := .int 5 :: []) rfl (by rw [c_21]) ?_
      refine ev_tableIn (tgt := 69) (off := 62) dX11_module_7 (by decide) (by decide) rfl (by decide) ?_
      refine ev_aload_n (j := 0) (x := v_1) dX11_module_69 rfl rfl ?_
      obtain ⟨a_22, ea_22, h⟩ := x_some_e h
      refine ev_at (st' := [va_rf (some a_22)]) rfl (by rw [ea_22]) ?_
      obtain ⟨c_23, h⟩ := x_chk_e h
      refine ev_get (C := RX5) (T := TX5) (k := 12) inX5 (xE_6 c_23) rfl (by decide) wd_802 (Or.inl rfl) rfl dX11_module_70 ?_
      cases h
      exact ev_iret rfl rfl dX11_module_73
    rw [if_neg c_21] at h
    refine ev_tableOut (tgt := 74) dX11_module_7 (x_sw 5 (fun k9 h9 => by match k9, h9 with | 0, _ => exact c_6 | 1, _ => exact c_9 | 2, _ => exact c_12 | 3, _ => exact c_15 | 4, _ => exact c_18 | 5, _ => exact c_21 | k9 + 6, h9 => omega)) (by decide) ?_
    obtain ⟨c_24, h⟩ := x_chk_e h
    cases h
    exact ev_throw (names := x_ex) (by decide +kernel) x_exf th_X11_101_103 dX11_module_74 dX11_module_77 dX11_module_78 dX11_module_81 rfl (by decide) (by decide) (hP.2.1 ▸ c_24.1) (hP.2.2.1 ▸ c_24.2)
  · have z9 := x_call (M := mX11_module) (M' := mX11_moduleAt) (pc := 2) (st := [.int v1, va_rf (some a0)]) (rest := []) (av := [va_rf (some a0), .int v1]) (x_linkV (M := mX11_module) (M' := mX11_moduleAt) (As := [.int v1]) (index := 77) (C := RX11) (T := TX11) (xE_11 c_4) rfl wd_13 wd_14 (wG_in (List.mem_append_left _ (List.mem_of_getElem? (i := 18) rfl)) rfl) xw_X11_moduleAt rfl (by decide) rfl rfl dX11_module_2) (ev_X11_moduleAt hO hP h_3) xw_X11_moduleAt rfl wd_5 dX11_module_2 (by decide) (by decide) (by simp [x_cat, x_catI, x_catJ])
    cases h
    exact x_callX z9 (evX_out rfl)
set_option maxHeartbeats 4000000 in
set_option maxRecDepth 100000 in
theorem ev_L_module {l : Launch} {G : xG} (hO : x_OK l G) {P : xP} (hP : x_PG P G) {v0 : Option Nat} {v1 : Int32} {v2 : Int32} {v3 : Option Nat} {σ σ' : xS} {rr : Int32 ⊕ String} (h : dm_L_module P v0 v1 v2 v3 σ = some (rr, σ')) : EvM l G mL_module [va_rf v0, .int v1, .int v2, va_rf v3] σ (xrI rr) σ' := by
  unfold dm_L_module at h
  refine evM_of hO (by decide +kernel) (x_lenI (by simp [x_cat, x_catI, x_catJ, mL_module, xM.maxL])) ?_
  refine Eq.mp (congrArg (fun z => Ev l G mL_module 0 z [] σ (xrI rr) σ') (show [(0, va_rf v0), (1, .int v1), (2, .int v2), (3, va_rf v3)] = lv_args 0 [va_rf v0, .int v1, .int v2, va_rf v3] by simp [lv_args, x_cat, x_catI, x_catJ])) ?_
  refine ev_aload_n (j := 3) (x := v3) dL_module_0 rfl rfl ?_
  refine ev_iconst (v := 0) dL_module_1 (by decide) ?_
  refine ev_aload_n (j := 0) (x := v0) dL_module_2 rfl rfl ?_
  refine ev_iload_n (j := 1) (x := v1) dL_module_3 rfl rfl ?_
  refine ev_iload_n (j := 2) (x := v2) dL_module_4 rfl rfl ?_
  obtain ⟨a_1, ea_1, h⟩ := x_some_e h
  refine ev_at (st' := [.int v2, .int v1, va_rf (some a_1), .int 0, va_rf v3]) rfl (by rw [ea_1]) ?_
  obtain ⟨c_5, h⟩ := x_chk_e h
  rcases x_bind_e h with ⟨v_2, σ_3, h_4, h⟩ | ⟨E_9, σ_3, h_4, h⟩
  · have z9 := x_call (M := mL_module) (M' := mX11_module) (pc := 5) (st := [.int v2, .int v1, va_rf (some a_1), .int 0, va_rf v3]) (rest := [.int 0, va_rf v3]) (av := [va_rf (some a_1), .int v1, .int v2]) (x_linkV (M := mL_module) (M' := mX11_module) (As := [.int v1, .int v2]) (index := 15) (C := RX11) (T := TX11) (xE_11 c_5) rfl wd_805 wd_806 wd_804 xw_X11_module rfl (by decide) rfl rfl dL_module_5) (ev_X11_module hO hP h_4) xw_X11_module rfl wd_5 dL_module_5 (by decide) (by decide) (by simp [x_cat, x_catI, x_catJ])
    refine x_callR z9 ?_
    refine ev_at (st' := [.int v_2, .int 0, va_rf v3]) rfl rfl ?_
    refine ev_i2l (x := v_2) dL_module_8 ?_
    obtain ⟨a_6, ea_6, h⟩ := x_some_e h
    refine ev_at (st' := [.long (Int32.toInt64 v_2), .int 0, va_rf (some a_6)]) rfl (by rw [ea_6]) ?_
    obtain ⟨c_7, h⟩ := x_chk_e h
    obtain ⟨σ_8, eσ_8, h⟩ := x_let_e h
    refine ev_last_42 c_7.1 c_7.2.1 (hP.2.2.2.1 ▸ c_7.2.2) dL_module_9 (eσ_8 ▸ ?_)
    refine ev_goto (tgt := 17) dL_module_10 (by decide) ?_
    refine ev_iconst (v := 0) dL_module_17 (by decide) ?_
    cases h
    exact ev_iret rfl rfl dL_module_18
  · have z9 := x_call (M := mL_module) (M' := mX11_module) (pc := 5) (st := [.int v2, .int v1, va_rf (some a_1), .int 0, va_rf v3]) (rest := [.int 0, va_rf v3]) (av := [va_rf (some a_1), .int v1, .int v2]) (x_linkV (M := mL_module) (M' := mX11_module) (As := [.int v1, .int v2]) (index := 15) (C := RX11) (T := TX11) (xE_11 c_5) rfl wd_805 wd_806 wd_804 xw_X11_module rfl (by decide) rfl rfl dL_module_5) (ev_X11_module hO hP h_4) xw_X11_module rfl wd_5 dL_module_5 (by decide) (by decide) (by simp [x_cat, x_catI, x_catJ])
    obtain ⟨c_11, h9⟩ := x_chk_e h
    clear h
    subst c_11
    have h := h9
    clear h9
    refine x_callX z9 (evX_catch (name := "java/lang/IndexOutOfBoundsException") (x := (0, 10, 13, 13)) (xs := []) rfl (by decide) (by decide) wd_31 wd_32 (fun q_10 => ?_))
    refine ev_astore (i := 4) (lv' := [(4, va_rf (some q_10)), (0, va_rf v0), (1, .int v1), (2, .int v2), (3, va_rf v3)]) dL_module_13 (by decide) (by simp [x_cat, x_catI, x_catJ]) ?_
    refine ev_iconst (v := 1) dL_module_15 (by decide) ?_
    cases h
    exact ev_iret rfl rfl dL_module_16
set_option maxHeartbeats 4000000 in
set_option maxRecDepth 100000 in
theorem ev_X12_isModule_p22 {l : Launch} {G : xG} (hO : x_OK l G) {P : xP} (hP : x_PG P G) {a0 : Nat} {s0 : Int32} {σ σ' : xS} {rr : Int32 ⊕ String} (h : dm_X12_isModule_p22 P a0 s0 σ = some (rr, σ')) : Ev l G mX12_isModule 22 [] [.int s0] σ (xrI rr) σ' := by
  unfold dm_X12_isModule_p22 at h
  obtain ⟨c_1, h⟩ := x_chk_e h
  cases h
  exact ev_iret rfl (x_boolN c_1) dX12_isModule_22
set_option maxHeartbeats 4000000 in
set_option maxRecDepth 100000 in
theorem ev_X12_isModule_p21 {l : Launch} {G : xG} (hO : x_OK l G) {P : xP} (hP : x_PG P G) {a0 : Nat} {σ σ' : xS} {rr : Int32 ⊕ String} (h : dm_X12_isModule_p21 P a0 σ = some (rr, σ')) : Ev l G mX12_isModule 21 [] [] σ (xrI rr) σ' := by
  unfold dm_X12_isModule_p21 at h
  refine ev_iconst (v := 0) dX12_isModule_21 (by decide) ?_
  exact ev_sub [] rfl (ev_X12_isModule_p22 hO hP h)
set_option maxHeartbeats 4000000 in
set_option maxRecDepth 100000 in
theorem ev_X12_isModule {l : Launch} {G : xG} (hO : x_OK l G) {P : xP} (hP : x_PG P G) {a0 : Nat} {v1 : Int32} {σ σ' : xS} {rr : Int32 ⊕ String} (h : dm_X12_isModule P a0 v1 σ = some (rr, σ')) : EvM l G mX12_isModule [va_rf (some a0), .int v1] σ (xrI rr) σ' := by
  unfold dm_X12_isModule at h
  refine evM_of hO (by decide +kernel) (x_lenI (by simp [x_cat, x_catI, x_catJ, mX12_isModule, xM.maxL])) ?_
  refine Eq.mp (congrArg (fun z => Ev l G mX12_isModule 0 z [] σ (xrI rr) σ') (show [(0, va_rf (some a0)), (1, .int v1)] = lv_args 0 [va_rf (some a0), .int v1] by simp [lv_args, x_cat, x_catI, x_catJ])) ?_
  refine ev_iload_n (j := 1) (x := v1) dX12_isModule_0 rfl rfl ?_
  by_cases c_1 : v1 < 0
  · rw [if_pos c_1] at h
    refine ev_if_lt (x := v1) (tgt := 21) dX12_isModule_1 (by decide) (fun _ => ?_) (fun q9 => absurd c_1 q9)
    exact ev_sub [] rfl (ev_X12_isModule_p21 hO hP h)
  · rw [if_neg c_1] at h
    refine ev_if_lt (x := v1) (tgt := 21) dX12_isModule_1 (by decide) (fun q9 => absurd q9 c_1) (fun _ => ?_)
    refine ev_iload_n (j := 1) (x := v1) dX12_isModule_4 rfl rfl ?_
    refine ev_aload_n (j := 0) (x := (some a0)) dX12_isModule_5 rfl rfl ?_
    obtain ⟨c_2, h⟩ := x_chk_e h
    refine ev_get (C := RX12) (T := TX12) (k := 6) inX12 (xE_12 c_2) rfl (by decide) wd_153 (Or.inl rfl) rfl dX12_isModule_6 ?_
    refine ev_aload_n (j := 0) (x := (some a0)) dX12_isModule_9 rfl rfl ?_
    refine ev_get (C := RX12) (T := TX12) (k := 3) inX12 (xE_12 c_2) rfl (by decide) wd_783 (Or.inl rfl) rfl dX12_isModule_10 ?_
    obtain ⟨a_3, ea_3, h⟩ := x_some_e h
    refine ev_at (st' := [.int (σ.I 1103 a0), va_rf (some a_3), .int v1]) rfl (by rw [ea_3]) ?_
    obtain ⟨c_4, h⟩ := x_chk_e h
    refine ev_iald_31 c_4.1 c_4.2 dX12_isModule_13 ?_
    by_cases c_5 : (σ.AI a_3 (Int32.toNatClampNeg (σ.I 1103 a0))) ≤ v1
    · rw [if_pos c_5] at h
      refine ev_icmp_ge (x := v1) (y := (σ.AI a_3 (Int32.toNatClampNeg (σ.I 1103 a0)))) (tgt := 21) dX12_isModule_14 (by decide) (fun _ => ?_) (fun q9 => absurd c_5 q9)
      exact ev_sub [] rfl (ev_X12_isModule_p21 hO hP h)
    · rw [if_neg c_5] at h
      refine ev_icmp_ge (x := v1) (y := (σ.AI a_3 (Int32.toNatClampNeg (σ.I 1103 a0)))) (tgt := 21) dX12_isModule_14 (by decide) (fun q9 => absurd q9 c_5) (fun _ => ?_)
      refine ev_iconst (v := 1) dX12_isModule_17 (by decide) ?_
      refine ev_goto (tgt := 22) dX12_isModule_18 (by decide) ?_
      exact ev_sub [] rfl (ev_X12_isModule_p22 hO hP h)
set_option maxHeartbeats 4000000 in
set_option maxRecDepth 100000 in
theorem ev_X12_of {l : Launch} {G : xG} (hO : x_OK l G) {P : xP} (hP : x_PG P G) {a0 : Nat} {v1 : Int32} {σ σ' : xS} {rr : Int32 ⊕ String} (h : dm_X12_of P a0 v1 σ = some (rr, σ')) : EvM l G mX12_of [va_rf (some a0), .int v1] σ (xrI rr) σ' := by
  unfold dm_X12_of at h
  refine evM_of hO (by decide +kernel) (x_lenI (by simp [x_cat, x_catI, x_catJ, mX12_of, xM.maxL])) ?_
  refine Eq.mp (congrArg (fun z => Ev l G mX12_of 0 z [] σ (xrI rr) σ') (show [(0, va_rf (some a0)), (1, .int v1)] = lv_args 0 [va_rf (some a0), .int v1] by simp [lv_args, x_cat, x_catI, x_catJ])) ?_
  refine ev_bipush (v := 8) dX12_of_0 (by decide) ?_
  refine ev_aload_n (j := 0) (x := (some a0)) dX12_of_2 rfl rfl ?_
  obtain ⟨c_1, h⟩ := x_chk_e h
  refine ev_get (C := RX12) (T := TX12) (k := 3) inX12 (xE_12 c_1) rfl (by decide) wd_783 (Or.inl rfl) rfl dX12_of_3 ?_
  refine ev_imul (x := 8) (y := (σ.I 1103 a0)) dX12_of_6 ?_
  refine ev_iload_n (j := 1) (x := v1) dX12_of_7 rfl rfl ?_
  refine ev_iadd (x := (8 * (σ.I 1103 a0))) (y := v1) dX12_of_8 ?_
  cases h
  exact ev_iret rfl rfl dX12_of_9
set_option maxHeartbeats 4000000 in
set_option maxRecDepth 100000 in
theorem ev_X12_bitsOf_L4 {l : Launch} {G : xG} (hO : x_OK l G) {P : xP} (hP : x_PG P G) {a0 : Nat} : ∀ (n : Nat) {v1 : Int32} {v2 : Int32} {v3 : Int32} {σ σ' : xS} {rr : Int32 ⊕ String}, dm_X12_bitsOf_L4 P a0 n v1 v2 v3 σ = some (rr, σ') → Ev l G mX12_bitsOf 4 [(0, va_rf (some a0)), (1, .int v1), (2, .int v2), (3, .int v3)] [] σ (xrI rr) σ' := by
  intro n
  induction n with
  | zero => intro v1 v2 v3 σ σ' rr h; cases h
  | succ n ih =>
    intro v1 v2 v3 σ σ' rr h
    rw [dm_X12_bitsOf_L4] at h
    refine ev_iload_n (j := 3) (x := v3) dX12_bitsOf_4 rfl rfl ?_
    refine ev_aload_n (j := 0) (x := (some a0)) dX12_bitsOf_5 rfl rfl ?_
    obtain ⟨c_1, h⟩ := x_chk_e h
    refine ev_get (C := RX12) (T := TX12) (k := 9) inX12 (xE_12 c_1) rfl (by decide) wd_156 (Or.inl rfl) rfl dX12_bitsOf_6 ?_
    refine ev_iload_n (j := 1) (x := v1) dX12_bitsOf_9 rfl rfl ?_
    obtain ⟨a_2, ea_2, h⟩ := x_some_e h
    refine ev_at (st' := [.int v1, va_rf (some a_2), .int v3]) rfl (by rw [ea_2]) ?_
    obtain ⟨c_3, h⟩ := x_chk_e h
    refine ev_iald_31 c_3.1 c_3.2 dX12_bitsOf_10 ?_
    by_cases c_4 : (σ.AI a_2 (Int32.toNatClampNeg v1)) ≤ v3
    · rw [if_pos c_4] at h
      refine ev_icmp_ge (x := v3) (y := (σ.AI a_2 (Int32.toNatClampNeg v1))) (tgt := 34) dX12_bitsOf_11 (by decide) (fun _ => ?_) (fun q9 => absurd c_4 q9)
      refine ev_iload_n (j := 2) (x := v2) dX12_bitsOf_34 rfl rfl ?_
      cases h
      exact ev_iret rfl rfl dX12_bitsOf_35
    · rw [if_neg c_4] at h
      refine ev_icmp_ge (x := v3) (y := (σ.AI a_2 (Int32.toNatClampNeg v1))) (tgt := 34) dX12_bitsOf_11 (by decide) (fun q9 => absurd q9 c_4) (fun _ => ?_)
      refine ev_iload_n (j := 2) (x := v2) dX12_bitsOf_14 rfl rfl ?_
      refine ev_aload_n (j := 0) (x := (some a0)) dX12_bitsOf_15 rfl rfl ?_
      refine ev_get (C := RX12) (T := TX12) (k := 12) inX12 (xE_12 c_1) rfl (by decide) wd_159 (Or.inl rfl) rfl dX12_bitsOf_16 ?_
      refine ev_bipush (v := 16) dX12_bitsOf_19 (by decide) ?_
      refine ev_iload_n (j := 1) (x := v1) dX12_bitsOf_21 rfl rfl ?_
      refine ev_imul (x := 16) (y := v1) dX12_bitsOf_22 ?_
      refine ev_iload_n (j := 3) (x := v3) dX12_bitsOf_23 rfl rfl ?_
      refine ev_iadd (x := (16 * v1)) (y := v3) dX12_bitsOf_24 ?_
      obtain ⟨a_5, ea_5, h⟩ := x_some_e h
      refine ev_at (st' := [.int ((16 * v1) + v3), va_rf (some a_5), .int v2]) rfl (by rw [ea_5]) ?_
      obtain ⟨c_6, h⟩ := x_chk_e h
      refine ev_iald_31 c_6.1 c_6.2 dX12_bitsOf_25 ?_
      refine ev_iadd (x := v2) (y := (σ.AI a_5 (Int32.toNatClampNeg ((16 * v1) + v3)))) dX12_bitsOf_26 ?_
      obtain ⟨v_7, ev_7, h⟩ := x_let_e h
      rw [← ev_7]
      refine ev_istore_n (i := 2) (lv' := [(2, .int v_7), (0, va_rf (some a0)), (1, .int v1), (3, .int v3)]) dX12_bitsOf_27 rfl (by decide) rfl ?_
      obtain ⟨v_8, ev_8, h⟩ := x_let_e h
      refine ev_iinc (j := 3) (x := v3) (v := v_8) (lv' := [(3, .int v_8), (2, .int v_7), (0, va_rf (some a0)), (1, .int v1)]) dX12_bitsOf_28 rfl (by rw [ev_8]; rfl) (by decide) rfl ?_
      refine ev_goto (tgt := 4) dX12_bitsOf_31 (by decide) ?_
      exact ev_sub [2, 3, 1, 0] rfl (ih h)
set_option maxHeartbeats 4000000 in
set_option maxRecDepth 100000 in
theorem ev_X12_bitsOf {l : Launch} {G : xG} (hO : x_OK l G) {P : xP} (hP : x_PG P G) {a0 : Nat} {v1 : Int32} {σ σ' : xS} {rr : Int32 ⊕ String} (h : dm_X12_bitsOf P a0 v1 σ = some (rr, σ')) : EvM l G mX12_bitsOf [va_rf (some a0), .int v1] σ (xrI rr) σ' := by
  unfold dm_X12_bitsOf at h
  refine evM_of hO (by decide +kernel) (x_lenI (by simp [x_cat, x_catI, x_catJ, mX12_bitsOf, xM.maxL])) ?_
  refine Eq.mp (congrArg (fun z => Ev l G mX12_bitsOf 0 z [] σ (xrI rr) σ') (show [(0, va_rf (some a0)), (1, .int v1)] = lv_args 0 [va_rf (some a0), .int v1] by simp [lv_args, x_cat, x_catI, x_catJ])) ?_
  refine ev_iconst (v := 0) dX12_bitsOf_0 (by decide) ?_
  refine ev_istore_n (i := 2) (lv' := [(2, .int 0), (0, va_rf (some a0)), (1, .int v1)]) dX12_bitsOf_1 rfl (by decide) rfl ?_
  refine ev_iconst (v := 0) dX12_bitsOf_2 (by decide) ?_
  refine ev_istore_n (i := 3) (lv' := [(3, .int 0), (2, .int 0), (0, va_rf (some a0)), (1, .int v1)]) dX12_bitsOf_3 rfl (by decide) rfl ?_
  exact ev_sub [2, 3, 1, 0] rfl (ev_X12_bitsOf_L4 hO hP P.N h)
set_option maxHeartbeats 4000000 in
set_option maxRecDepth 100000 in
theorem ev_X12_module_p23 {l : Launch} {G : xG} (hO : x_OK l G) {P : xP} (hP : x_PG P G) {a0 : Nat} {v1 : Int32} {v2 : Int32} {s0 : Option Nat} {s1 : Int32} {σ σ' : xS} {rr : Int32 ⊕ String} (h : dm_X12_module_p23 P a0 v1 v2 s0 s1 σ = some (rr, σ')) : Ev l G mX12_module 23 [(0, va_rf (some a0)), (1, .int v1), (2, .int v2)] [.int s1, va_rf s0] σ (xrI rr) σ' := by
  unfold dm_X12_module_p23 at h
  obtain ⟨a_1, ea_1, h⟩ := x_some_e h
  refine ev_at (st' := [.int s1, va_rf (some a_1)]) rfl (by rw [ea_1]) ?_
  obtain ⟨c_2, h⟩ := x_chk_e h
  obtain ⟨σ_3, eσ_3, h⟩ := x_let_e h
  refine ev_put (σ2 := σ_3) (C := RX12) (T := TX12) (k := 0) inX12 tyX12 tyX12_ok nmX12 (xE_12 c_2.1) rfl (by decide) wd_194 (Or.inl rfl) rfl rfl rfl rfl (Nat.le_of_ble_eq_true rfl) (hP.2.2.2.1 ▸ c_2.2) (by rw [eσ_3]; exact xP_12_0 _ c_2.1) (by rw [eσ_3]; exact xPut_I) dX12_module_23 ?_
  refine ev_aload_n (j := 0) (x := (some a0)) dX12_module_26 rfl rfl ?_
  obtain ⟨c_4, h⟩ := x_chk_e h
  refine ev_get (C := RX12) (T := TX12) (k := 0) inX12 (xE_12 c_4) rfl (by decide) wd_194 (Or.inl rfl) rfl dX12_module_27 ?_
  by_cases c_5 : (σ_3.I 1100 a0) ≤ 0
  · rw [if_pos c_5] at h
    refine ev_if_le (x := (σ_3.I 1100 a0)) (tgt := 35) dX12_module_30 (by decide) (fun _ => ?_) (fun q9 => absurd c_5 q9)
    refine ev_aload_n (j := 0) (x := (some a0)) dX12_module_35 rfl rfl ?_
    refine ev_iload_n (j := 1) (x := v1) dX12_module_36 rfl rfl ?_
    rcases x_bind_e h with ⟨v_6, σ_7, h_8, h⟩ | ⟨E_35, σ_7, h_8, h⟩
    · have z9 := x_call (M := mX12_module) (M' := mX12_of) (pc := 37) (st := [.int v1, va_rf (some a0)]) (rest := []) (av := [va_rf (some a0), .int v1]) (x_linkV (M := mX12_module) (M' := mX12_of) (As := [.int v1]) (index := 311) (C := RX12) (T := TX12) (xE_12 c_4) rfl wd_811 wd_812 (wG_in (List.mem_append_left _ (List.mem_of_getElem? (i := 86) rfl)) rfl) xw_X12_of rfl (by decide) rfl rfl dX12_module_37) (ev_X12_of hO hP h_8) xw_X12_of rfl wd_198 dX12_module_37 (by decide) (by decide) (by simp [x_cat, x_catI, x_catJ])
      refine x_callR z9 ?_
      refine ev_at (st' := [.int v_6]) rfl rfl ?_
      refine ev_istore_n (i := 3) (lv' := [(3, .int v_6), (0, va_rf (some a0)), (1, .int v1), (2, .int v2)]) dX12_module_40 rfl (by decide) rfl ?_
      refine ev_iload_n (j := 3) (x := v2) dX12_module_41 rfl rfl ?_
      obtain ⟨v_9, ev_9, h⟩ := x_let_e h
      rw [← ev_9]
      by_cases c_10 : v_9 = 0
      · rw [if_pos c_10] at h
        refine ev_at (st' := .int 0 :: []) rfl (by rw [c_10]) ?_
        refine ev_tableIn (tgt := 76) (off := 34) dX12_module_42 (by decide) (by decide) rfl (by decide) ?_
        refine ev_aload_n (j := 1) (x := (some a0)) dX12_module_76 rfl rfl ?_
        obtain ⟨c_11, h⟩ := x_chk_e h
        refine ev_get (C := RX12) (T := TX12) (k := 8) inX12 (xE_12 c_11) rfl (by decide) wd_155 (Or.inl rfl) rfl dX12_module_77 ?_
        refine ev_iload_n (j := 0) (x := v_6) dX12_module_80 rfl rfl ?_
        obtain ⟨a_12, ea_12, h⟩ := x_some_e h
        refine ev_at (st' := [.int v_6, va_rf (some a_12)]) rfl (by rw [ea_12]) ?_
        obtain ⟨c_13, h⟩ := x_chk_e h
        refine ev_iald_31 c_13.1 c_13.2 dX12_module_81 ?_
        cases h
        exact ev_iret rfl rfl dX12_module_82
      rw [if_neg c_10] at h
      by_cases c_14 : v_9 = 1
      · rw [if_pos c_14] at h
        refine ev_at (st' := .int 1 :: []) rfl (by rw [c_14]) ?_
        refine ev_tableIn (tgt := 83) (off := 41) dX12_module_42 (by decide) (by decide) rfl (by decide) ?_
        refine ev_aload_n (j := 1) (x := (some a0)) dX12_module_83 rfl rfl ?_
        obtain ⟨c_15, h⟩ := x_chk_e h
        refine ev_get (C := RX12) (T := TX12) (k := 9) inX12 (xE_12 c_15) rfl (by decide) wd_156 (Or.inl rfl) rfl dX12_module_84 ?_
        refine ev_iload_n (j := 0) (x := v_6) dX12_module_87 rfl rfl ?_
        obtain ⟨a_16, ea_16, h⟩ := x_some_e h
        refine ev_at (st' := [.int v_6, va_rf (some a_16)]) rfl (by rw [ea_16]) ?_
        obtain ⟨c_17, h⟩ := x_chk_e h
        refine ev_iald_31 c_17.1 c_17.2 dX12_module_88 ?_
        cases h
        exact ev_iret rfl rfl dX12_module_89
      rw [if_neg c_14] at h
      by_cases c_18 : v_9 = 2
      · rw [if_pos c_18] at h
        refine ev_at (st' := .int 2 :: []) rfl (by rw [c_18]) ?_
        refine ev_tableIn (tgt := 90) (off := 48) dX12_module_42 (by decide) (by decide) rfl (by decide) ?_
        refine ev_aload_n (j := 1) (x := (some a0)) dX12_module_90 rfl rfl ?_
        refine ev_iload_n (j := 0) (x := v_6) dX12_module_91 rfl rfl ?_
        obtain ⟨c_22, h⟩ := x_chk_e h
        rcases x_bind_e h with ⟨v_19, σ_20, h_21, h⟩ | ⟨E_23, σ_20, h_21, h⟩
        · have z9 := x_call (M := mX12_module) (M' := mX12_bitsOf) (pc := 92) (st := [.int v_6, va_rf (some a0)]) (rest := []) (av := [va_rf (some a0), .int v_6]) (x_linkV (M := mX12_module) (M' := mX12_bitsOf) (As := [.int v_6]) (index := 314) (C := RX12) (T := TX12) (xE_12 c_22) rfl wd_814 wd_815 (wG_in (List.mem_append_left _ (List.mem_of_getElem? (i := 87) rfl)) rfl) xw_X12_bitsOf rfl (by decide) rfl rfl dX12_module_92) (ev_X12_bitsOf hO hP h_21) xw_X12_bitsOf rfl wd_198 dX12_module_92 (by decide) (by decide) (by simp [x_cat, x_catI, x_catJ])
          refine x_callR z9 ?_
          refine ev_at (st' := [.int v_19]) rfl rfl ?_
          cases h
          exact ev_iret rfl rfl dX12_module_95
        · have z9 := x_call (M := mX12_module) (M' := mX12_bitsOf) (pc := 92) (st := [.int v_6, va_rf (some a0)]) (rest := []) (av := [va_rf (some a0), .int v_6]) (x_linkV (M := mX12_module) (M' := mX12_bitsOf) (As := [.int v_6]) (index := 314) (C := RX12) (T := TX12) (xE_12 c_22) rfl wd_814 wd_815 (wG_in (List.mem_append_left _ (List.mem_of_getElem? (i := 87) rfl)) rfl) xw_X12_bitsOf rfl (by decide) rfl rfl dX12_module_92) (ev_X12_bitsOf hO hP h_21) xw_X12_bitsOf rfl wd_198 dX12_module_92 (by decide) (by decide) (by simp [x_cat, x_catI, x_catJ])
          cases h
          exact x_callX z9 (evX_out rfl)
      rw [if_neg c_18] at h
      by_cases c_24 : v_9 = 3
      · rw [if_pos c_24] at h
        refine ev_at (st' := .int 3 :: []) rfl (by rw [c_24]) ?_
        refine ev_tableIn (tgt := 96) (off := 54) dX12_module_42 (by decide) (by decide) rfl (by decide) ?_
        refine ev_aload_n (j := 1) (x := (some a0)) dX12_module_96 rfl rfl ?_
        obtain ⟨c_25, h⟩ := x_chk_e h
        refine ev_get (C := RX12) (T := TX12) (k := 21) inX12 (xE_12 c_25) rfl (by decide) wd_169 (Or.inl rfl) rfl dX12_module_97 ?_
        refine ev_iload_n (j := 0) (x := v_6) dX12_module_100 rfl rfl ?_
        obtain ⟨a_26, ea_26, h⟩ := x_some_e h
        refine ev_at (st' := [.int v_6, va_rf (some a_26)]) rfl (by rw [ea_26]) ?_
        obtain ⟨c_27, h⟩ := x_chk_e h
        refine ev_iald_31 c_27.1 c_27.2 dX12_module_101 ?_
        cases h
        exact ev_iret rfl rfl dX12_module_102
      rw [if_neg c_24] at h
      by_cases c_28 : v_9 = 4
      · rw [if_pos c_28] at h
        refine ev_at (st' := .int 4 :: []) rfl (by rw [c_28]) ?_
        refine ev_tableIn (tgt := 103) (off := 61) dX12_module_42 (by decide) (by decide) rfl (by decide) ?_
        refine ev_aload_n (j := 1) (x := (some a0)) dX12_module_103 rfl rfl ?_
        obtain ⟨c_29, h⟩ := x_chk_e h
        refine ev_get (C := RX12) (T := TX12) (k := 24) inX12 (xE_12 c_29) rfl (by decide) wd_172 (Or.inl rfl) rfl dX12_module_104 ?_
        refine ev_iload_n (j := 0) (x := v_6) dX12_module_107 rfl rfl ?_
        obtain ⟨a_30, ea_30, h⟩ := x_some_e h
        refine ev_at (st' := [.int v_6, va_rf (some a_30)]) rfl (by rw [ea_30]) ?_
        obtain ⟨c_31, h⟩ := x_chk_e h
        refine ev_iald_31 c_31.1 c_31.2 dX12_module_108 ?_
        cases h
        exact ev_iret rfl rfl dX12_module_109
      rw [if_neg c_28] at h
      refine ev_tableOut (tgt := 110) dX12_module_42 (x_sw 4 (fun k9 h9 => by match k9, h9 with | 0, _ => exact c_10 | 1, _ => exact c_14 | 2, _ => exact c_18 | 3, _ => exact c_24 | 4, _ => exact c_28 | k9 + 5, h9 => omega)) (by decide) ?_
      refine ev_aload_n (j := 1) (x := (some a0)) dX12_module_110 rfl rfl ?_
      obtain ⟨c_32, h⟩ := x_chk_e h
      refine ev_get (C := RX12) (T := TX12) (k := 33) inX12 (xE_12 c_32) rfl (by decide) wd_181 (Or.inl rfl) rfl dX12_module_111 ?_
      refine ev_iload_n (j := 0) (x := v_6) dX12_module_114 rfl rfl ?_
      obtain ⟨a_33, ea_33, h⟩ := x_some_e h
      refine ev_at (st' := [.int v_6, va_rf (some a_33)]) rfl (by rw [ea_33]) ?_
      obtain ⟨c_34, h⟩ := x_chk_e h
      refine ev_iald_31 c_34.1 c_34.2 dX12_module_115 ?_
      cases h
      exact ev_iret rfl rfl dX12_module_116
    · have z9 := x_call (M := mX12_module) (M' := mX12_of) (pc := 37) (st := [.int v1, va_rf (some a0)]) (rest := []) (av := [va_rf (some a0), .int v1]) (x_linkV (M := mX12_module) (M' := mX12_of) (As := [.int v1]) (index := 311) (C := RX12) (T := TX12) (xE_12 c_4) rfl wd_811 wd_812 (wG_in (List.mem_append_left _ (List.mem_of_getElem? (i := 86) rfl)) rfl) xw_X12_of rfl (by decide) rfl rfl dX12_module_37) (ev_X12_of hO hP h_8) xw_X12_of rfl wd_198 dX12_module_37 (by decide) (by decide) (by simp [x_cat, x_catI, x_catJ])
      cases h
      exact x_callX z9 (evX_out rfl)
  · rw [if_neg c_5] at h
    refine ev_if_le (x := (σ_3.I 1100 a0)) (tgt := 35) dX12_module_30 (by decide) (fun q9 => absurd q9 c_5) (fun _ => ?_)
    refine ev_iconst (v := 0) dX12_module_33 (by decide) ?_
    cases h
    exact ev_iret rfl rfl dX12_module_34
set_option maxHeartbeats 4000000 in
set_option maxRecDepth 100000 in
theorem ev_X12_module_p22 {l : Launch} {G : xG} (hO : x_OK l G) {P : xP} (hP : x_PG P G) {a0 : Nat} {v1 : Int32} {v2 : Int32} {s0 : Option Nat} {σ σ' : xS} {rr : Int32 ⊕ String} (h : dm_X12_module_p22 P a0 v1 v2 s0 σ = some (rr, σ')) : Ev l G mX12_module 22 [(0, va_rf (some a0)), (1, .int v1), (2, .int v2)] [va_rf s0] σ (xrI rr) σ' := by
  unfold dm_X12_module_p22 at h
  refine ev_iconst (v := 1) dX12_module_22 (by decide) ?_
  exact ev_sub [0, 1, 2] rfl (ev_X12_module_p23 hO hP h)
set_option maxHeartbeats 4000000 in
set_option maxRecDepth 100000 in
theorem ev_X12_module {l : Launch} {G : xG} (hO : x_OK l G) {P : xP} (hP : x_PG P G) {a0 : Nat} {v1 : Int32} {v2 : Int32} {σ σ' : xS} {rr : Int32 ⊕ String} (h : dm_X12_module P a0 v1 v2 σ = some (rr, σ')) : EvM l G mX12_module [va_rf (some a0), .int v1, .int v2] σ (xrI rr) σ' := by
  unfold dm_X12_module at h
  refine evM_of hO (by decide +kernel) (x_lenI (by simp [x_cat, x_catI, x_catJ, mX12_module, xM.maxL])) ?_
  refine Eq.mp (congrArg (fun z => Ev l G mX12_module 0 z [] σ (xrI rr) σ') (show [(0, va_rf (some a0)), (1, .int v1), (2, .int v2)] = lv_args 0 [va_rf (some a0), .int v1, .int v2] by simp [lv_args, x_cat, x_catI, x_catJ])) ?_
  refine ev_aload_n (j := 0) (x := (some a0)) dX12_module_0 rfl rfl ?_
  refine ev_aload_n (j := 0) (x := (some a0)) dX12_module_1 rfl rfl ?_
  refine ev_iload_n (j := 1) (x := v1) dX12_module_2 rfl rfl ?_
  obtain ⟨c_4, h⟩ := x_chk_e h
  rcases x_bind_e h with ⟨v_1, σ_2, h_3, h⟩ | ⟨E_8, σ_2, h_3, h⟩
  · have z9 := x_call (M := mX12_module) (M' := mX12_isModule) (pc := 3) (st := [.int v1, va_rf (some a0), va_rf (some a0)]) (rest := [va_rf (some a0)]) (av := [va_rf (some a0), .int v1]) (x_linkV (M := mX12_module) (M' := mX12_isModule) (As := [.int v1]) (index := 308) (C := RX12) (T := TX12) (xE_12 c_4) rfl wd_808 wd_809 (wG_in (List.mem_append_left _ (List.mem_of_getElem? (i := 85) rfl)) rfl) xw_X12_isModule rfl (by decide) rfl rfl dX12_module_3) (ev_X12_isModule hO hP h_3) xw_X12_isModule rfl wd_198 dX12_module_3 (by decide) (by decide) (by simp [x_cat, x_catI, x_catJ])
    refine x_callR z9 ?_
    refine ev_at (st' := [.int v_1, va_rf (some a0)]) rfl rfl ?_
    by_cases c_5 : v_1 = 0
    · rw [if_pos c_5] at h
      refine ev_if_eq (x := v_1) (tgt := 22) dX12_module_6 (by decide) (fun _ => ?_) (fun q9 => absurd c_5 q9)
      exact ev_sub [0, 1, 2] rfl (ev_X12_module_p22 hO hP h)
    · rw [if_neg c_5] at h
      refine ev_if_eq (x := v_1) (tgt := 22) dX12_module_6 (by decide) (fun q9 => absurd q9 c_5) (fun _ => ?_)
      refine ev_iload_n (j := 2) (x := v2) dX12_module_9 rfl rfl ?_
      by_cases c_6 : v2 < 0
      · rw [if_pos c_6] at h
        refine ev_if_lt (x := v2) (tgt := 22) dX12_module_10 (by decide) (fun _ => ?_) (fun q9 => absurd c_6 q9)
        exact ev_sub [0, 1, 2] rfl (ev_X12_module_p22 hO hP h)
      · rw [if_neg c_6] at h
        refine ev_if_lt (x := v2) (tgt := 22) dX12_module_10 (by decide) (fun q9 => absurd q9 c_6) (fun _ => ?_)
        refine ev_iload_n (j := 2) (x := v2) dX12_module_13 rfl rfl ?_
        refine ev_iconst (v := 5) dX12_module_14 (by decide) ?_
        by_cases c_7 : 5 < v2
        · rw [if_pos c_7] at h
          refine ev_icmp_gt (x := v2) (y := 5) (tgt := 22) dX12_module_15 (by decide) (fun _ => ?_) (fun q9 => absurd c_7 q9)
          exact ev_sub [0, 1, 2] rfl (ev_X12_module_p22 hO hP h)
        · rw [if_neg c_7] at h
          refine ev_icmp_gt (x := v2) (y := 5) (tgt := 22) dX12_module_15 (by decide) (fun q9 => absurd q9 c_7) (fun _ => ?_)
          refine ev_iconst (v := 0) dX12_module_18 (by decide) ?_
          refine ev_goto (tgt := 23) dX12_module_19 (by decide) ?_
          exact ev_sub [0, 1, 2] rfl (ev_X12_module_p23 hO hP h)
  · have z9 := x_call (M := mX12_module) (M' := mX12_isModule) (pc := 3) (st := [.int v1, va_rf (some a0), va_rf (some a0)]) (rest := [va_rf (some a0)]) (av := [va_rf (some a0), .int v1]) (x_linkV (M := mX12_module) (M' := mX12_isModule) (As := [.int v1]) (index := 308) (C := RX12) (T := TX12) (xE_12 c_4) rfl wd_808 wd_809 (wG_in (List.mem_append_left _ (List.mem_of_getElem? (i := 85) rfl)) rfl) xw_X12_isModule rfl (by decide) rfl rfl dX12_module_3) (ev_X12_isModule hO hP h_3) xw_X12_isModule rfl wd_198 dX12_module_3 (by decide) (by decide) (by simp [x_cat, x_catI, x_catJ])
    cases h
    exact x_callX z9 (evX_out rfl)
set_option maxHeartbeats 4000000 in
set_option maxRecDepth 100000 in
theorem ev_X11_netAt_p23 {l : Launch} {G : xG} (hO : x_OK l G) {P : xP} (hP : x_PG P G) {a0 : Nat} {v2 : Int32} {v3 : Option Nat} {s0 : Int32} {σ σ' : xS} {rr : Option Nat ⊕ String} (h : dm_X11_netAt_p23 P a0 v2 v3 s0 σ = some (rr, σ')) : Ev l G mX11_netAt 23 [(2, .int v2), (3, va_rf v3)] [.int s0] σ (xrR rr) σ' := by
  unfold dm_X11_netAt_p23 at h
  rcases x_bind_e h with ⟨v_1, σ_2, h_3, h⟩ | ⟨E_8, σ_2, h_3, h⟩
  · have z9 := x_call (M := mX11_netAt) (M' := mX11_refuseUnless) (pc := 23) (st := [.int s0]) (rest := []) (av := [.int s0]) (x_linkS (M := mX11_netAt) (M' := mX11_refuseUnless) (As := [.int s0]) (index := 57) wd_3 wd_4 wd_5 xw_X11_refuseUnless rfl ⟨_, _, _, Or.inl wd_2⟩ (by decide) rfl rfl dX11_netAt_23) (ev_X11_refuseUnless hO hP h_3) xw_X11_refuseUnless rfl wd_5 dX11_netAt_23 (by decide) (by decide) (by simp [x_cat, x_catI, x_catJ])
    refine x_callR z9 ?_
    refine ev_at (st' := []) rfl rfl ?_
    refine ev_aload_n (j := 1) (x := v3) dX11_netAt_26 rfl rfl ?_
    obtain ⟨a_4, ea_4, h⟩ := x_some_e h
    refine ev_at (st' := [va_rf (some a_4)]) rfl (by rw [ea_4]) ?_
    obtain ⟨c_5, h⟩ := x_chk_e h
    refine ev_get (C := RX5) (T := TX5) (k := 3) inX5 (xE_6 c_5) rfl (by decide) wd_816 (Or.inl rfl) rfl dX11_netAt_27 ?_
    refine ev_iload_n (j := 0) (x := v2) dX11_netAt_30 rfl rfl ?_
    obtain ⟨a_6, ea_6, h⟩ := x_some_e h
    refine ev_at (st' := [.int v2, va_rf (some a_6)]) rfl (by rw [ea_6]) ?_
    obtain ⟨c_7, h⟩ := x_chk_e h
    refine ev_aald_26 c_7.1 c_7.2 dX11_netAt_31 ?_
    cases h
    exact ev_aret rfl dX11_netAt_32
  · have z9 := x_call (M := mX11_netAt) (M' := mX11_refuseUnless) (pc := 23) (st := [.int s0]) (rest := []) (av := [.int s0]) (x_linkS (M := mX11_netAt) (M' := mX11_refuseUnless) (As := [.int s0]) (index := 57) wd_3 wd_4 wd_5 xw_X11_refuseUnless rfl ⟨_, _, _, Or.inl wd_2⟩ (by decide) rfl rfl dX11_netAt_23) (ev_X11_refuseUnless hO hP h_3) xw_X11_refuseUnless rfl wd_5 dX11_netAt_23 (by decide) (by decide) (by simp [x_cat, x_catI, x_catJ])
    cases h
    exact x_callX z9 (evX_out rfl)
set_option maxHeartbeats 4000000 in
set_option maxRecDepth 100000 in
theorem ev_X11_netAt_p22 {l : Launch} {G : xG} (hO : x_OK l G) {P : xP} (hP : x_PG P G) {a0 : Nat} {v2 : Int32} {v3 : Option Nat} {σ σ' : xS} {rr : Option Nat ⊕ String} (h : dm_X11_netAt_p22 P a0 v2 v3 σ = some (rr, σ')) : Ev l G mX11_netAt 22 [(2, .int v2), (3, va_rf v3)] [] σ (xrR rr) σ' := by
  unfold dm_X11_netAt_p22 at h
  refine ev_iconst (v := 0) dX11_netAt_22 (by decide) ?_
  exact ev_sub [0, 1] rfl (ev_X11_netAt_p23 hO hP h)
set_option maxHeartbeats 4000000 in
set_option maxRecDepth 100000 in
theorem ev_X11_netAt {l : Launch} {G : xG} (hO : x_OK l G) {P : xP} (hP : x_PG P G) {a0 : Nat} {v1 : Int32} {v2 : Int32} {σ σ' : xS} {rr : Option Nat ⊕ String} (h : dm_X11_netAt P a0 v1 v2 σ = some (rr, σ')) : EvM l G mX11_netAt [va_rf (some a0), .int v1, .int v2] σ (xrR rr) σ' := by
  unfold dm_X11_netAt at h
  refine evM_of hO (by decide +kernel) (x_lenI (by simp [x_cat, x_catI, x_catJ, mX11_netAt, xM.maxL])) ?_
  refine Eq.mp (congrArg (fun z => Ev l G mX11_netAt 0 z [] σ (xrR rr) σ') (show [(0, va_rf (some a0)), (1, .int v1), (2, .int v2)] = lv_args 0 [va_rf (some a0), .int v1, .int v2] by simp [lv_args, x_cat, x_catI, x_catJ])) ?_
  refine ev_aload_n (j := 0) (x := (some a0)) dX11_netAt_0 rfl rfl ?_
  refine ev_iload_n (j := 1) (x := v1) dX11_netAt_1 rfl rfl ?_
  obtain ⟨c_4, h⟩ := x_chk_e h
  rcases x_bind_e h with ⟨v_1, σ_2, h_3, h⟩ | ⟨E_9, σ_2, h_3, h⟩
  · have z9 := x_call (M := mX11_netAt) (M' := mX11_moduleAt) (pc := 2) (st := [.int v1, va_rf (some a0)]) (rest := []) (av := [va_rf (some a0), .int v1]) (x_linkV (M := mX11_netAt) (M' := mX11_moduleAt) (As := [.int v1]) (index := 77) (C := RX11) (T := TX11) (xE_11 c_4) rfl wd_13 wd_14 (wG_in (List.mem_append_left _ (List.mem_of_getElem? (i := 18) rfl)) rfl) xw_X11_moduleAt rfl (by decide) rfl rfl dX11_netAt_2) (ev_X11_moduleAt hO hP h_3) xw_X11_moduleAt rfl wd_5 dX11_netAt_2 (by decide) (by decide) (by simp [x_cat, x_catI, x_catJ])
    refine x_callR z9 ?_
    refine ev_at (st' := [va_rf v_1]) rfl rfl ?_
    refine ev_astore_n (i := 3) (lv' := [(3, va_rf v_1), (0, va_rf (some a0)), (1, .int v1), (2, .int v2)]) dX11_netAt_5 rfl (by decide) rfl ?_
    refine ev_iload_n (j := 3) (x := v2) dX11_netAt_6 rfl rfl ?_
    by_cases c_5 : v2 < 0
    · rw [if_pos c_5] at h
      refine ev_if_lt (x := v2) (tgt := 22) dX11_netAt_7 (by decide) (fun _ => ?_) (fun q9 => absurd c_5 q9)
      exact ev_sub [3, 0] rfl (ev_X11_netAt_p22 hO hP h)
    · rw [if_neg c_5] at h
      refine ev_if_lt (x := v2) (tgt := 22) dX11_netAt_7 (by decide) (fun q9 => absurd q9 c_5) (fun _ => ?_)
      refine ev_iload_n (j := 3) (x := v2) dX11_netAt_10 rfl rfl ?_
      refine ev_aload_n (j := 0) (x := v_1) dX11_netAt_11 rfl rfl ?_
      obtain ⟨a_6, ea_6, h⟩ := x_some_e h
      refine ev_at (st' := [va_rf (some a_6), .int v2]) rfl (by rw [ea_6]) ?_
      obtain ⟨c_7, h⟩ := x_chk_e h
      refine ev_get (C := RX5) (T := TX5) (k := 4) inX5 (xE_6 c_7) rfl (by decide) wd_800 (Or.inl rfl) rfl dX11_netAt_12 ?_
      by_cases c_8 : (σ_2.I 504 a_6) ≤ v2
      · rw [if_pos c_8] at h
        refine ev_icmp_ge (x := v2) (y := (σ_2.I 504 a_6)) (tgt := 22) dX11_netAt_15 (by decide) (fun _ => ?_) (fun q9 => absurd c_8 q9)
        exact ev_sub [3, 0] rfl (ev_X11_netAt_p22 hO hP h)
      · rw [if_neg c_8] at h
        refine ev_icmp_ge (x := v2) (y := (σ_2.I 504 a_6)) (tgt := 22) dX11_netAt_15 (by decide) (fun q9 => absurd q9 c_8) (fun _ => ?_)
        refine ev_iconst (v := 1) dX11_netAt_18 (by decide) ?_
        refine ev_goto (tgt := 23) dX11_netAt_19 (by decide) ?_
        exact ev_sub [3, 0] rfl (ev_X11_netAt_p23 hO hP h)
  · have z9 := x_call (M := mX11_netAt) (M' := mX11_moduleAt) (pc := 2) (st := [.int v1, va_rf (some a0)]) (rest := []) (av := [va_rf (some a0), .int v1]) (x_linkV (M := mX11_netAt) (M' := mX11_moduleAt) (As := [.int v1]) (index := 77) (C := RX11) (T := TX11) (xE_11 c_4) rfl wd_13 wd_14 (wG_in (List.mem_append_left _ (List.mem_of_getElem? (i := 18) rfl)) rfl) xw_X11_moduleAt rfl (by decide) rfl rfl dX11_netAt_2) (ev_X11_moduleAt hO hP h_3) xw_X11_moduleAt rfl wd_5 dX11_netAt_2 (by decide) (by decide) (by simp [x_cat, x_catI, x_catJ])
    cases h
    exact x_callX z9 (evX_out rfl)
set_option maxHeartbeats 4000000 in
set_option maxRecDepth 100000 in
theorem ev_X11_net {l : Launch} {G : xG} (hO : x_OK l G) {P : xP} (hP : x_PG P G) {a0 : Nat} {v1 : Int32} {v2 : Int32} {v3 : Int32} {σ σ' : xS} {rr : Int32 ⊕ String} (h : dm_X11_net P a0 v1 v2 v3 σ = some (rr, σ')) : EvM l G mX11_net [va_rf (some a0), .int v1, .int v2, .int v3] σ (xrI rr) σ' := by
  unfold dm_X11_net at h
  refine evM_of hO (by decide +kernel) (x_lenI (by simp [x_cat, x_catI, x_catJ, mX11_net, xM.maxL])) ?_
  refine Eq.mp (congrArg (fun z => Ev l G mX11_net 0 z [] σ (xrI rr) σ') (show [(0, va_rf (some a0)), (1, .int v1), (2, .int v2), (3, .int v3)] = lv_args 0 [va_rf (some a0), .int v1, .int v2, .int v3] by simp [lv_args, x_cat, x_catI, x_catJ])) ?_
  refine ev_aload_n (j := 0) (x := (some a0)) dX11_net_0 rfl rfl ?_
  refine ev_iload_n (j := 1) (x := v1) dX11_net_1 rfl rfl ?_
  refine ev_iload_n (j := 2) (x := v2) dX11_net_2 rfl rfl ?_
  obtain ⟨c_4, h⟩ := x_chk_e h
  rcases x_bind_e h with ⟨v_1, σ_2, h_3, h⟩ | ⟨E_16, σ_2, h_3, h⟩
  · have z9 := x_call (M := mX11_net) (M' := mX11_netAt) (pc := 3) (st := [.int v2, .int v1, va_rf (some a0)]) (rest := []) (av := [va_rf (some a0), .int v1, .int v2]) (x_linkV (M := mX11_net) (M' := mX11_netAt) (As := [.int v1, .int v2]) (index := 104) (C := RX11) (T := TX11) (xE_11 c_4) rfl wd_818 wd_819 (wG_in (List.mem_append_left _ (List.mem_of_getElem? (i := 19) rfl)) rfl) xw_X11_netAt rfl (by decide) rfl rfl dX11_net_3) (ev_X11_netAt hO hP h_3) xw_X11_netAt rfl wd_5 dX11_net_3 (by decide) (by decide) (by simp [x_cat, x_catI, x_catJ])
    refine x_callR z9 ?_
    refine ev_at (st' := [va_rf v_1]) rfl rfl ?_
    refine ev_astore (i := 4) (lv' := [(4, va_rf v_1), (0, va_rf (some a0)), (1, .int v1), (2, .int v2), (3, .int v3)]) dX11_net_6 (by decide) rfl ?_
    refine ev_iload_n (j := 4) (x := v3) dX11_net_8 rfl rfl ?_
    obtain ⟨v_5, ev_5, h⟩ := x_let_e h
    rw [← ev_5]
    by_cases c_6 : v_5 = 0
    · rw [if_pos c_6] at h
      refine ev_at (st' := .int 0 :: []) rfl (by rw [c_6]) ?_
      refine ev_tableIn (tgt := 36) (off := 27) dX11_net_9 (by decide) (by decide) rfl (by decide) ?_
      refine ev_aload (j := 0) (x := v_1) dX11_net_36 rfl ?_
      obtain ⟨a_7, ea_7, h⟩ := x_some_e h
      refine ev_at (st' := [va_rf (some a_7)]) rfl (by rw [ea_7]) ?_
      obtain ⟨c_8, h⟩ := x_chk_e h
      refine ev_get (C := RX4) (T := TX4) (k := 1) inX4 (xE_5 c_8) rfl (by decide) wd_820 (Or.inl rfl) rfl dX11_net_38 ?_
      cases h
      exact ev_iret rfl rfl dX11_net_41
    rw [if_neg c_6] at h
    by_cases c_9 : v_5 = 1
    · rw [if_pos c_9] at h
      refine ev_at (st' := .int 1 :: []) rfl (by rw [c_9]) ?_
      refine ev_tableIn (tgt := 42) (off := 33) dX11_net_9 (by decide) (by decide) rfl (by decide) ?_
      refine ev_aload (j := 0) (x := v_1) dX11_net_42 rfl ?_
      obtain ⟨a_10, ea_10, h⟩ := x_some_e h
      refine ev_at (st' := [va_rf (some a_10)]) rfl (by rw [ea_10]) ?_
      obtain ⟨c_11, h⟩ := x_chk_e h
      refine ev_get (C := RX4) (T := TX4) (k := 2) inX4 (xE_5 c_11) rfl (by decide) wd_821 (Or.inl rfl) rfl dX11_net_44 ?_
      cases h
      exact ev_iret rfl rfl dX11_net_47
    rw [if_neg c_9] at h
    by_cases c_12 : v_5 = 2
    · rw [if_pos c_12] at h
      refine ev_at (st' := .int 2 :: []) rfl (by rw [c_12]) ?_
      refine ev_tableIn (tgt := 48) (off := 39) dX11_net_9 (by decide) (by decide) rfl (by decide) ?_
      refine ev_aload (j := 0) (x := v_1) dX11_net_48 rfl ?_
      obtain ⟨a_13, ea_13, h⟩ := x_some_e h
      refine ev_at (st' := [va_rf (some a_13)]) rfl (by rw [ea_13]) ?_
      obtain ⟨c_14, h⟩ := x_chk_e h
      refine ev_get (C := RX4) (T := TX4) (k := 3) inX4 (xE_5 c_14) rfl (by decide) wd_822 (Or.inl rfl) rfl dX11_net_50 ?_
      cases h
      exact ev_iret rfl rfl dX11_net_53
    rw [if_neg c_12] at h
    refine ev_tableOut (tgt := 54) dX11_net_9 (x_sw 2 (fun k9 h9 => by match k9, h9 with | 0, _ => exact c_6 | 1, _ => exact c_9 | 2, _ => exact c_12 | k9 + 3, h9 => omega)) (by decide) ?_
    obtain ⟨c_15, h⟩ := x_chk_e h
    cases h
    exact ev_throw (names := x_ex) (by decide +kernel) x_exf th_X11_101_103 dX11_net_54 dX11_net_57 dX11_net_58 dX11_net_61 rfl (by decide) (by decide) (hP.2.1 ▸ c_15.1) (hP.2.2.1 ▸ c_15.2)
  · have z9 := x_call (M := mX11_net) (M' := mX11_netAt) (pc := 3) (st := [.int v2, .int v1, va_rf (some a0)]) (rest := []) (av := [va_rf (some a0), .int v1, .int v2]) (x_linkV (M := mX11_net) (M' := mX11_netAt) (As := [.int v1, .int v2]) (index := 104) (C := RX11) (T := TX11) (xE_11 c_4) rfl wd_818 wd_819 (wG_in (List.mem_append_left _ (List.mem_of_getElem? (i := 19) rfl)) rfl) xw_X11_netAt rfl (by decide) rfl rfl dX11_net_3) (ev_X11_netAt hO hP h_3) xw_X11_netAt rfl wd_5 dX11_net_3 (by decide) (by decide) (by simp [x_cat, x_catI, x_catJ])
    cases h
    exact x_callX z9 (evX_out rfl)
set_option maxHeartbeats 4000000 in
set_option maxRecDepth 100000 in
theorem ev_L_net {l : Launch} {G : xG} (hO : x_OK l G) {P : xP} (hP : x_PG P G) {v0 : Option Nat} {v1 : Int32} {v2 : Int32} {v3 : Int32} {v4 : Option Nat} {σ σ' : xS} {rr : Int32 ⊕ String} (h : dm_L_net P v0 v1 v2 v3 v4 σ = some (rr, σ')) : EvM l G mL_net [va_rf v0, .int v1, .int v2, .int v3, va_rf v4] σ (xrI rr) σ' := by
  unfold dm_L_net at h
  refine evM_of hO (by decide +kernel) (x_lenI (by simp [x_cat, x_catI, x_catJ, mL_net, xM.maxL])) ?_
  refine Eq.mp (congrArg (fun z => Ev l G mL_net 0 z [] σ (xrI rr) σ') (show [(0, va_rf v0), (1, .int v1), (2, .int v2), (3, .int v3), (4, va_rf v4)] = lv_args 0 [va_rf v0, .int v1, .int v2, .int v3, va_rf v4] by simp [lv_args, x_cat, x_catI, x_catJ])) ?_
  refine ev_aload (j := 4) (x := v4) dL_net_0 rfl ?_
  refine ev_iconst (v := 0) dL_net_2 (by decide) ?_
  refine ev_aload_n (j := 0) (x := v0) dL_net_3 rfl rfl ?_
  refine ev_iload_n (j := 1) (x := v1) dL_net_4 rfl rfl ?_
  refine ev_iload_n (j := 2) (x := v2) dL_net_5 rfl rfl ?_
  refine ev_iload_n (j := 3) (x := v3) dL_net_6 rfl rfl ?_
  obtain ⟨a_1, ea_1, h⟩ := x_some_e h
  refine ev_at (st' := [.int v3, .int v2, .int v1, va_rf (some a_1), .int 0, va_rf v4]) rfl (by rw [ea_1]) ?_
  obtain ⟨c_5, h⟩ := x_chk_e h
  rcases x_bind_e h with ⟨v_2, σ_3, h_4, h⟩ | ⟨E_9, σ_3, h_4, h⟩
  · have z9 := x_call (M := mL_net) (M' := mX11_net) (pc := 7) (st := [.int v3, .int v2, .int v1, va_rf (some a_1), .int 0, va_rf v4]) (rest := [.int 0, va_rf v4]) (av := [va_rf (some a_1), .int v1, .int v2, .int v3]) (x_linkV (M := mL_net) (M' := mX11_net) (As := [.int v1, .int v2, .int v3]) (index := 19) (C := RX11) (T := TX11) (xE_11 c_5) rfl wd_825 wd_826 wd_824 xw_X11_net rfl (by decide) rfl rfl dL_net_7) (ev_X11_net hO hP h_4) xw_X11_net rfl wd_5 dL_net_7 (by decide) (by decide) (by simp [x_cat, x_catI, x_catJ])
    refine x_callR z9 ?_
    refine ev_at (st' := [.int v_2, .int 0, va_rf v4]) rfl rfl ?_
    refine ev_i2l (x := v_2) dL_net_10 ?_
    obtain ⟨a_6, ea_6, h⟩ := x_some_e h
    refine ev_at (st' := [.long (Int32.toInt64 v_2), .int 0, va_rf (some a_6)]) rfl (by rw [ea_6]) ?_
    obtain ⟨c_7, h⟩ := x_chk_e h
    obtain ⟨σ_8, eσ_8, h⟩ := x_let_e h
    refine ev_last_42 c_7.1 c_7.2.1 (hP.2.2.2.1 ▸ c_7.2.2) dL_net_11 (eσ_8 ▸ ?_)
    refine ev_goto (tgt := 19) dL_net_12 (by decide) ?_
    refine ev_iconst (v := 0) dL_net_19 (by decide) ?_
    cases h
    exact ev_iret rfl rfl dL_net_20
  · have z9 := x_call (M := mL_net) (M' := mX11_net) (pc := 7) (st := [.int v3, .int v2, .int v1, va_rf (some a_1), .int 0, va_rf v4]) (rest := [.int 0, va_rf v4]) (av := [va_rf (some a_1), .int v1, .int v2, .int v3]) (x_linkV (M := mL_net) (M' := mX11_net) (As := [.int v1, .int v2, .int v3]) (index := 19) (C := RX11) (T := TX11) (xE_11 c_5) rfl wd_825 wd_826 wd_824 xw_X11_net rfl (by decide) rfl rfl dL_net_7) (ev_X11_net hO hP h_4) xw_X11_net rfl wd_5 dL_net_7 (by decide) (by decide) (by simp [x_cat, x_catI, x_catJ])
    obtain ⟨c_11, h9⟩ := x_chk_e h
    clear h
    subst c_11
    have h := h9
    clear h9
    refine x_callX z9 (evX_catch (name := "java/lang/IndexOutOfBoundsException") (x := (0, 12, 15, 13)) (xs := []) rfl (by decide) (by decide) wd_31 wd_32 (fun q_10 => ?_))
    refine ev_astore (i := 5) (lv' := [(5, va_rf (some q_10)), (0, va_rf v0), (1, .int v1), (2, .int v2), (3, .int v3), (4, va_rf v4)]) dL_net_15 (by decide) (by simp [x_cat, x_catI, x_catJ]) ?_
    refine ev_iconst (v := 1) dL_net_17 (by decide) ?_
    cases h
    exact ev_iret rfl rfl dL_net_18
set_option maxHeartbeats 4000000 in
set_option maxRecDepth 100000 in
theorem ev_X12_net_p125 {l : Launch} {G : xG} (hO : x_OK l G) {P : xP} (hP : x_PG P G) {a0 : Nat} {s0 : Int32} {σ σ' : xS} {rr : Int32 ⊕ String} (h : dm_X12_net_p125 P a0 s0 σ = some (rr, σ')) : Ev l G mX12_net 125 [] [.int s0] σ (xrI rr) σ' := by
  unfold dm_X12_net_p125 at h
  cases h
  exact ev_iret rfl rfl dX12_net_125
set_option maxHeartbeats 4000000 in
set_option maxRecDepth 100000 in
theorem ev_X12_net_p65 {l : Launch} {G : xG} (hO : x_OK l G) {P : xP} (hP : x_PG P G) {a0 : Nat} {v1 : Int32} {v2 : Int32} {v3 : Int32} {s0 : Option Nat} {s1 : Int32} {σ σ' : xS} {rr : Int32 ⊕ String} (h : dm_X12_net_p65 P a0 v1 v2 v3 s0 s1 σ = some (rr, σ')) : Ev l G mX12_net 65 [(0, va_rf (some a0)), (1, .int v1), (2, .int v2), (3, .int v3)] [.int s1, va_rf s0] σ (xrI rr) σ' := by
  unfold dm_X12_net_p65 at h
  obtain ⟨a_1, ea_1, h⟩ := x_some_e h
  refine ev_at (st' := [.int s1, va_rf (some a_1)]) rfl (by rw [ea_1]) ?_
  obtain ⟨c_2, h⟩ := x_chk_e h
  obtain ⟨σ_3, eσ_3, h⟩ := x_let_e h
  refine ev_put (σ2 := σ_3) (C := RX12) (T := TX12) (k := 0) inX12 tyX12 tyX12_ok nmX12 (xE_12 c_2.1) rfl (by decide) wd_194 (Or.inl rfl) rfl rfl rfl rfl (Nat.le_of_ble_eq_true rfl) (hP.2.2.2.1 ▸ c_2.2) (by rw [eσ_3]; exact xP_12_0 _ c_2.1) (by rw [eσ_3]; exact xPut_I) dX12_net_65 ?_
  refine ev_aload_n (j := 0) (x := (some a0)) dX12_net_68 rfl rfl ?_
  obtain ⟨c_4, h⟩ := x_chk_e h
  refine ev_get (C := RX12) (T := TX12) (k := 0) inX12 (xE_12 c_4) rfl (by decide) wd_194 (Or.inl rfl) rfl dX12_net_69 ?_
  by_cases c_5 : (σ_3.I 1100 a0) ≤ 0
  · rw [if_pos c_5] at h
    refine ev_if_le (x := (σ_3.I 1100 a0)) (tgt := 77) dX12_net_72 (by decide) (fun _ => ?_) (fun q9 => absurd c_5 q9)
    refine ev_bipush (v := 16) dX12_net_77 (by decide) ?_
    refine ev_aload_n (j := 0) (x := (some a0)) dX12_net_79 rfl rfl ?_
    refine ev_iload_n (j := 1) (x := v1) dX12_net_80 rfl rfl ?_
    rcases x_bind_e h with ⟨v_6, σ_7, h_8, h⟩ | ⟨E_21, σ_7, h_8, h⟩
    · have z9 := x_call (M := mX12_net) (M' := mX12_of) (pc := 81) (st := [.int v1, va_rf (some a0), .int 16]) (rest := [.int 16]) (av := [va_rf (some a0), .int v1]) (x_linkV (M := mX12_net) (M' := mX12_of) (As := [.int v1]) (index := 311) (C := RX12) (T := TX12) (xE_12 c_4) rfl wd_811 wd_812 (wG_in (List.mem_append_left _ (List.mem_of_getElem? (i := 86) rfl)) rfl) xw_X12_of rfl (by decide) rfl rfl dX12_net_81) (ev_X12_of hO hP h_8) xw_X12_of rfl wd_198 dX12_net_81 (by decide) (by decide) (by simp [x_cat, x_catI, x_catJ])
      refine x_callR z9 ?_
      refine ev_at (st' := [.int v_6, .int 16]) rfl rfl ?_
      refine ev_imul (x := 16) (y := v_6) dX12_net_84 ?_
      refine ev_iload_n (j := 2) (x := v2) dX12_net_85 rfl rfl ?_
      refine ev_iadd (x := (16 * v_6)) (y := v2) dX12_net_86 ?_
      obtain ⟨v_9, ev_9, h⟩ := x_let_e h
      rw [← ev_9]
      refine ev_istore (i := 5) (lv' := [(5, .int v_9), (0, va_rf (some a0)), (1, .int v1), (2, .int v2), (3, .int v3)]) dX12_net_87 (by decide) rfl ?_
      refine ev_iload_n (j := 4) (x := v3) dX12_net_89 rfl rfl ?_
      by_cases c_10 : v3 = 0
      · rw [if_pos c_10] at h
        refine ev_if_ne (x := v3) (tgt := 103) dX12_net_90 (by decide) (fun q9 => absurd c_10 q9) (fun _ => ?_)
        refine ev_aload_n (j := 1) (x := (some a0)) dX12_net_93 rfl rfl ?_
        obtain ⟨c_18, h⟩ := x_chk_e h
        refine ev_get (C := RX12) (T := TX12) (k := 11) inX12 (xE_12 c_18) rfl (by decide) wd_158 (Or.inl rfl) rfl dX12_net_94 ?_
        refine ev_iload (j := 0) (x := v_9) dX12_net_97 rfl ?_
        obtain ⟨a_19, ea_19, h⟩ := x_some_e h
        refine ev_at (st' := [.int v_9, va_rf (some a_19)]) rfl (by rw [ea_19]) ?_
        obtain ⟨c_20, h⟩ := x_chk_e h
        refine ev_iald_31 c_20.1 c_20.2 dX12_net_99 ?_
        refine ev_goto (tgt := 125) dX12_net_100 (by decide) ?_
        exact ev_sub [] rfl (ev_X12_net_p125 hO hP h)
      · rw [if_neg c_10] at h
        refine ev_if_ne (x := v3) (tgt := 103) dX12_net_90 (by decide) (fun _ => ?_) (fun q9 => absurd q9 c_10)
        refine ev_iload_n (j := 4) (x := v3) dX12_net_103 rfl rfl ?_
        refine ev_iconst (v := 1) dX12_net_104 (by decide) ?_
        by_cases c_11 : v3 = 1
        · rw [if_pos c_11] at h
          refine ev_icmp_ne (x := v3) (y := 1) (tgt := 118) dX12_net_105 (by decide) (fun q9 => absurd c_11 q9) (fun _ => ?_)
          refine ev_aload_n (j := 1) (x := (some a0)) dX12_net_108 rfl rfl ?_
          obtain ⟨c_15, h⟩ := x_chk_e h
          refine ev_get (C := RX12) (T := TX12) (k := 12) inX12 (xE_12 c_15) rfl (by decide) wd_159 (Or.inl rfl) rfl dX12_net_109 ?_
          refine ev_iload (j := 0) (x := v_9) dX12_net_112 rfl ?_
          obtain ⟨a_16, ea_16, h⟩ := x_some_e h
          refine ev_at (st' := [.int v_9, va_rf (some a_16)]) rfl (by rw [ea_16]) ?_
          obtain ⟨c_17, h⟩ := x_chk_e h
          refine ev_iald_31 c_17.1 c_17.2 dX12_net_114 ?_
          refine ev_goto (tgt := 125) dX12_net_115 (by decide) ?_
          exact ev_sub [] rfl (ev_X12_net_p125 hO hP h)
        · rw [if_neg c_11] at h
          refine ev_icmp_ne (x := v3) (y := 1) (tgt := 118) dX12_net_105 (by decide) (fun _ => ?_) (fun q9 => absurd q9 c_11)
          refine ev_aload_n (j := 1) (x := (some a0)) dX12_net_118 rfl rfl ?_
          obtain ⟨c_12, h⟩ := x_chk_e h
          refine ev_get (C := RX12) (T := TX12) (k := 13) inX12 (xE_12 c_12) rfl (by decide) wd_160 (Or.inl rfl) rfl dX12_net_119 ?_
          refine ev_iload (j := 0) (x := v_9) dX12_net_122 rfl ?_
          obtain ⟨a_13, ea_13, h⟩ := x_some_e h
          refine ev_at (st' := [.int v_9, va_rf (some a_13)]) rfl (by rw [ea_13]) ?_
          obtain ⟨c_14, h⟩ := x_chk_e h
          refine ev_iald_31 c_14.1 c_14.2 dX12_net_124 ?_
          exact ev_sub [] rfl (ev_X12_net_p125 hO hP h)
    · have z9 := x_call (M := mX12_net) (M' := mX12_of) (pc := 81) (st := [.int v1, va_rf (some a0), .int 16]) (rest := [.int 16]) (av := [va_rf (some a0), .int v1]) (x_linkV (M := mX12_net) (M' := mX12_of) (As := [.int v1]) (index := 311) (C := RX12) (T := TX12) (xE_12 c_4) rfl wd_811 wd_812 (wG_in (List.mem_append_left _ (List.mem_of_getElem? (i := 86) rfl)) rfl) xw_X12_of rfl (by decide) rfl rfl dX12_net_81) (ev_X12_of hO hP h_8) xw_X12_of rfl wd_198 dX12_net_81 (by decide) (by decide) (by simp [x_cat, x_catI, x_catJ])
      cases h
      exact x_callX z9 (evX_out rfl)
  · rw [if_neg c_5] at h
    refine ev_if_le (x := (σ_3.I 1100 a0)) (tgt := 77) dX12_net_72 (by decide) (fun q9 => absurd q9 c_5) (fun _ => ?_)
    refine ev_iconst (v := 0) dX12_net_75 (by decide) ?_
    cases h
    exact ev_iret rfl rfl dX12_net_76
set_option maxHeartbeats 4000000 in
set_option maxRecDepth 100000 in
theorem ev_X12_net_p64 {l : Launch} {G : xG} (hO : x_OK l G) {P : xP} (hP : x_PG P G) {a0 : Nat} {v1 : Int32} {v2 : Int32} {v3 : Int32} {s0 : Option Nat} {σ σ' : xS} {rr : Int32 ⊕ String} (h : dm_X12_net_p64 P a0 v1 v2 v3 s0 σ = some (rr, σ')) : Ev l G mX12_net 64 [(0, va_rf (some a0)), (1, .int v1), (2, .int v2), (3, .int v3)] [va_rf s0] σ (xrI rr) σ' := by
  unfold dm_X12_net_p64 at h
  refine ev_iconst (v := 1) dX12_net_64 (by decide) ?_
  exact ev_sub [0, 1, 2, 3] rfl (ev_X12_net_p65 hO hP h)
set_option maxHeartbeats 4000000 in
set_option maxRecDepth 100000 in
theorem ev_X12_net_p43 {l : Launch} {G : xG} (hO : x_OK l G) {P : xP} (hP : x_PG P G) {a0 : Nat} {v1 : Int32} {v2 : Int32} {v3 : Int32} {s0 : Int32} {σ σ' : xS} {rr : Int32 ⊕ String} (h : dm_X12_net_p43 P a0 v1 v2 v3 s0 σ = some (rr, σ')) : Ev l G mX12_net 43 [(0, va_rf (some a0)), (1, .int v1), (2, .int v2), (3, .int v3)] [.int s0] σ (xrI rr) σ' := by
  unfold dm_X12_net_p43 at h
  refine ev_istore (i := 4) (lv' := [(4, .int s0), (0, va_rf (some a0)), (1, .int v1), (2, .int v2), (3, .int v3)]) dX12_net_43 (by decide) rfl ?_
  refine ev_aload_n (j := 1) (x := (some a0)) dX12_net_45 rfl rfl ?_
  refine ev_iload (j := 0) (x := s0) dX12_net_46 rfl ?_
  by_cases c_1 : s0 = 0
  · rw [if_pos c_1] at h
    refine ev_if_eq (x := s0) (tgt := 64) dX12_net_48 (by decide) (fun _ => ?_) (fun q9 => absurd c_1 q9)
    exact ev_sub [1, 2, 3, 4] rfl (ev_X12_net_p64 hO hP h)
  · rw [if_neg c_1] at h
    refine ev_if_eq (x := s0) (tgt := 64) dX12_net_48 (by decide) (fun q9 => absurd q9 c_1) (fun _ => ?_)
    refine ev_iload_n (j := 4) (x := v3) dX12_net_51 rfl rfl ?_
    by_cases c_2 : v3 < 0
    · rw [if_pos c_2] at h
      refine ev_if_lt (x := v3) (tgt := 64) dX12_net_52 (by decide) (fun _ => ?_) (fun q9 => absurd c_2 q9)
      exact ev_sub [1, 2, 3, 4] rfl (ev_X12_net_p64 hO hP h)
    · rw [if_neg c_2] at h
      refine ev_if_lt (x := v3) (tgt := 64) dX12_net_52 (by decide) (fun q9 => absurd q9 c_2) (fun _ => ?_)
      refine ev_iload_n (j := 4) (x := v3) dX12_net_55 rfl rfl ?_
      refine ev_iconst (v := 2) dX12_net_56 (by decide) ?_
      by_cases c_3 : 2 < v3
      · rw [if_pos c_3] at h
        refine ev_icmp_gt (x := v3) (y := 2) (tgt := 64) dX12_net_57 (by decide) (fun _ => ?_) (fun q9 => absurd c_3 q9)
        exact ev_sub [1, 2, 3, 4] rfl (ev_X12_net_p64 hO hP h)
      · rw [if_neg c_3] at h
        refine ev_icmp_gt (x := v3) (y := 2) (tgt := 64) dX12_net_57 (by decide) (fun q9 => absurd q9 c_3) (fun _ => ?_)
        refine ev_iconst (v := 0) dX12_net_60 (by decide) ?_
        refine ev_goto (tgt := 65) dX12_net_61 (by decide) ?_
        exact ev_sub [1, 2, 3, 4] rfl (ev_X12_net_p65 hO hP h)
set_option maxHeartbeats 4000000 in
set_option maxRecDepth 100000 in
theorem ev_X12_net_p42 {l : Launch} {G : xG} (hO : x_OK l G) {P : xP} (hP : x_PG P G) {a0 : Nat} {v1 : Int32} {v2 : Int32} {v3 : Int32} {σ σ' : xS} {rr : Int32 ⊕ String} (h : dm_X12_net_p42 P a0 v1 v2 v3 σ = some (rr, σ')) : Ev l G mX12_net 42 [(0, va_rf (some a0)), (1, .int v1), (2, .int v2), (3, .int v3)] [] σ (xrI rr) σ' := by
  unfold dm_X12_net_p42 at h
  refine ev_iconst (v := 0) dX12_net_42 (by decide) ?_
  exact ev_sub [0, 1, 2, 3] rfl (ev_X12_net_p43 hO hP h)
set_option maxHeartbeats 4000000 in
set_option maxRecDepth 100000 in
theorem ev_X12_net_p31 {l : Launch} {G : xG} (hO : x_OK l G) {P : xP} (hP : x_PG P G) {a0 : Nat} {v1 : Int32} {v2 : Int32} {v3 : Int32} {s0 : Int32} {s1 : Option Nat} {s2 : Option Nat} {s3 : Int32} {σ σ' : xS} {rr : Int32 ⊕ String} (h : dm_X12_net_p31 P a0 v1 v2 v3 s0 s1 s2 s3 σ = some (rr, σ')) : Ev l G mX12_net 31 [(0, va_rf (some a0)), (1, .int v1), (2, .int v2), (3, .int v3)] [.int s3, va_rf s2, va_rf s1, .int s0] σ (xrI rr) σ' := by
  unfold dm_X12_net_p31 at h
  obtain ⟨a_1, ea_1, h⟩ := x_some_e h
  refine ev_at (st' := [.int s3, va_rf (some a_1), va_rf s1, .int s0]) rfl (by rw [ea_1]) ?_
  obtain ⟨c_5, h⟩ := x_chk_e h
  rcases x_bind_e h with ⟨v_2, σ_3, h_4, h⟩ | ⟨E_9, σ_3, h_4, h⟩
  · have z9 := x_call (M := mX12_net) (M' := mX12_of) (pc := 31) (st := [.int s3, va_rf (some a_1), va_rf s1, .int s0]) (rest := [va_rf s1, .int s0]) (av := [va_rf (some a_1), .int s3]) (x_linkV (M := mX12_net) (M' := mX12_of) (As := [.int s3]) (index := 311) (C := RX12) (T := TX12) (xE_12 c_5) rfl wd_811 wd_812 (wG_in (List.mem_append_left _ (List.mem_of_getElem? (i := 86) rfl)) rfl) xw_X12_of rfl (by decide) rfl rfl dX12_net_31) (ev_X12_of hO hP h_4) xw_X12_of rfl wd_198 dX12_net_31 (by decide) (by decide) (by simp [x_cat, x_catI, x_catJ])
    refine x_callR z9 ?_
    refine ev_at (st' := [.int v_2, va_rf s1, .int s0]) rfl rfl ?_
    obtain ⟨a_6, ea_6, h⟩ := x_some_e h
    refine ev_at (st' := [.int v_2, va_rf (some a_6), .int s0]) rfl (by rw [ea_6]) ?_
    obtain ⟨c_7, h⟩ := x_chk_e h
    refine ev_iald_31 c_7.1 c_7.2 dX12_net_34 ?_
    by_cases c_8 : (σ_3.AI a_6 (Int32.toNatClampNeg v_2)) ≤ s0
    · rw [if_pos c_8] at h
      refine ev_icmp_ge (x := s0) (y := (σ_3.AI a_6 (Int32.toNatClampNeg v_2))) (tgt := 42) dX12_net_35 (by decide) (fun _ => ?_) (fun q9 => absurd c_8 q9)
      exact ev_sub [0, 1, 2, 3] rfl (ev_X12_net_p42 hO hP h)
    · rw [if_neg c_8] at h
      refine ev_icmp_ge (x := s0) (y := (σ_3.AI a_6 (Int32.toNatClampNeg v_2))) (tgt := 42) dX12_net_35 (by decide) (fun q9 => absurd q9 c_8) (fun _ => ?_)
      refine ev_iconst (v := 1) dX12_net_38 (by decide) ?_
      refine ev_goto (tgt := 43) dX12_net_39 (by decide) ?_
      exact ev_sub [0, 1, 2, 3] rfl (ev_X12_net_p43 hO hP h)
  · have z9 := x_call (M := mX12_net) (M' := mX12_of) (pc := 31) (st := [.int s3, va_rf (some a_1), va_rf s1, .int s0]) (rest := [va_rf s1, .int s0]) (av := [va_rf (some a_1), .int s3]) (x_linkV (M := mX12_net) (M' := mX12_of) (As := [.int s3]) (index := 311) (C := RX12) (T := TX12) (xE_12 c_5) rfl wd_811 wd_812 (wG_in (List.mem_append_left _ (List.mem_of_getElem? (i := 86) rfl)) rfl) xw_X12_of rfl (by decide) rfl rfl dX12_net_31) (ev_X12_of hO hP h_4) xw_X12_of rfl wd_198 dX12_net_31 (by decide) (by decide) (by simp [x_cat, x_catI, x_catJ])
    cases h
    exact x_callX z9 (evX_out rfl)
set_option maxHeartbeats 4000000 in
set_option maxRecDepth 100000 in
theorem ev_X12_net {l : Launch} {G : xG} (hO : x_OK l G) {P : xP} (hP : x_PG P G) {a0 : Nat} {v1 : Int32} {v2 : Int32} {v3 : Int32} {σ σ' : xS} {rr : Int32 ⊕ String} (h : dm_X12_net P a0 v1 v2 v3 σ = some (rr, σ')) : EvM l G mX12_net [va_rf (some a0), .int v1, .int v2, .int v3] σ (xrI rr) σ' := by
  unfold dm_X12_net at h
  refine evM_of hO (by decide +kernel) (x_lenI (by simp [x_cat, x_catI, x_catJ, mX12_net, xM.maxL])) ?_
  refine Eq.mp (congrArg (fun z => Ev l G mX12_net 0 z [] σ (xrI rr) σ') (show [(0, va_rf (some a0)), (1, .int v1), (2, .int v2), (3, .int v3)] = lv_args 0 [va_rf (some a0), .int v1, .int v2, .int v3] by simp [lv_args, x_cat, x_catI, x_catJ])) ?_
  refine ev_aload_n (j := 0) (x := (some a0)) dX12_net_0 rfl rfl ?_
  refine ev_iload_n (j := 1) (x := v1) dX12_net_1 rfl rfl ?_
  obtain ⟨c_4, h⟩ := x_chk_e h
  rcases x_bind_e h with ⟨v_1, σ_2, h_3, h⟩ | ⟨E_13, σ_2, h_3, h⟩
  · have z9 := x_call (M := mX12_net) (M' := mX12_isModule) (pc := 2) (st := [.int v1, va_rf (some a0)]) (rest := []) (av := [va_rf (some a0), .int v1]) (x_linkV (M := mX12_net) (M' := mX12_isModule) (As := [.int v1]) (index := 308) (C := RX12) (T := TX12) (xE_12 c_4) rfl wd_808 wd_809 (wG_in (List.mem_append_left _ (List.mem_of_getElem? (i := 85) rfl)) rfl) xw_X12_isModule rfl (by decide) rfl rfl dX12_net_2) (ev_X12_isModule hO hP h_3) xw_X12_isModule rfl wd_198 dX12_net_2 (by decide) (by decide) (by simp [x_cat, x_catI, x_catJ])
    refine x_callR z9 ?_
    refine ev_at (st' := [.int v_1]) rfl rfl ?_
    by_cases c_5 : v_1 = 0
    · rw [if_pos c_5] at h
      refine ev_if_eq (x := v_1) (tgt := 42) dX12_net_5 (by decide) (fun _ => ?_) (fun q9 => absurd c_5 q9)
      exact ev_sub [0, 1, 2, 3] rfl (ev_X12_net_p42 hO hP h)
    · rw [if_neg c_5] at h
      refine ev_if_eq (x := v_1) (tgt := 42) dX12_net_5 (by decide) (fun q9 => absurd q9 c_5) (fun _ => ?_)
      refine ev_iload_n (j := 2) (x := v2) dX12_net_8 rfl rfl ?_
      by_cases c_6 : v2 < 0
      · rw [if_pos c_6] at h
        refine ev_if_lt (x := v2) (tgt := 42) dX12_net_9 (by decide) (fun _ => ?_) (fun q9 => absurd c_6 q9)
        exact ev_sub [0, 1, 2, 3] rfl (ev_X12_net_p42 hO hP h)
      · rw [if_neg c_6] at h
        refine ev_if_lt (x := v2) (tgt := 42) dX12_net_9 (by decide) (fun q9 => absurd q9 c_6) (fun _ => ?_)
        refine ev_iload_n (j := 2) (x := v2) dX12_net_12 rfl rfl ?_
        refine ev_aload_n (j := 0) (x := (some a0)) dX12_net_13 rfl rfl ?_
        obtain ⟨c_7, h⟩ := x_chk_e h
        refine ev_get (C := RX12) (T := TX12) (k := 9) inX12 (xE_12 c_7) rfl (by decide) wd_156 (Or.inl rfl) rfl dX12_net_14 ?_
        refine ev_aload_n (j := 0) (x := (some a0)) dX12_net_17 rfl rfl ?_
        refine ev_aload_n (j := 0) (x := (some a0)) dX12_net_18 rfl rfl ?_
        refine ev_iload_n (j := 1) (x := v1) dX12_net_19 rfl rfl ?_
        rcases x_bind_e h with ⟨v_8, σ_9, h_10, h⟩ | ⟨E_12, σ_9, h_10, h⟩
        · have z9 := x_call (M := mX12_net) (M' := mX12_isModule) (pc := 20) (st := [.int v1, va_rf (some a0), va_rf (some a0), va_rf (σ_2.R 1109 a0), .int v2]) (rest := [va_rf (some a0), va_rf (σ_2.R 1109 a0), .int v2]) (av := [va_rf (some a0), .int v1]) (x_linkV (M := mX12_net) (M' := mX12_isModule) (As := [.int v1]) (index := 308) (C := RX12) (T := TX12) (xE_12 c_7) rfl wd_808 wd_809 (wG_in (List.mem_append_left _ (List.mem_of_getElem? (i := 85) rfl)) rfl) xw_X12_isModule rfl (by decide) rfl rfl dX12_net_20) (ev_X12_isModule hO hP h_10) xw_X12_isModule rfl wd_198 dX12_net_20 (by decide) (by decide) (by simp [x_cat, x_catI, x_catJ])
          refine x_callR z9 ?_
          refine ev_at (st' := [.int v_8, va_rf (some a0), va_rf (σ_2.R 1109 a0), .int v2]) rfl rfl ?_
          by_cases c_11 : v_8 = 0
          · rw [if_pos c_11] at h
            refine ev_if_eq (x := v_8) (tgt := 30) dX12_net_23 (by decide) (fun _ => ?_) (fun q9 => absurd c_11 q9)
            refine ev_iconst (v := 0) dX12_net_30 (by decide) ?_
            exact ev_sub [0, 1, 2, 3] rfl (ev_X12_net_p31 hO hP h)
          · rw [if_neg c_11] at h
            refine ev_if_eq (x := v_8) (tgt := 30) dX12_net_23 (by decide) (fun q9 => absurd q9 c_11) (fun _ => ?_)
            refine ev_iload_n (j := 1) (x := v1) dX12_net_26 rfl rfl ?_
            refine ev_goto (tgt := 31) dX12_net_27 (by decide) ?_
            exact ev_sub [0, 1, 2, 3] rfl (ev_X12_net_p31 hO hP h)
        · have z9 := x_call (M := mX12_net) (M' := mX12_isModule) (pc := 20) (st := [.int v1, va_rf (some a0), va_rf (some a0), va_rf (σ_2.R 1109 a0), .int v2]) (rest := [va_rf (some a0), va_rf (σ_2.R 1109 a0), .int v2]) (av := [va_rf (some a0), .int v1]) (x_linkV (M := mX12_net) (M' := mX12_isModule) (As := [.int v1]) (index := 308) (C := RX12) (T := TX12) (xE_12 c_7) rfl wd_808 wd_809 (wG_in (List.mem_append_left _ (List.mem_of_getElem? (i := 85) rfl)) rfl) xw_X12_isModule rfl (by decide) rfl rfl dX12_net_20) (ev_X12_isModule hO hP h_10) xw_X12_isModule rfl wd_198 dX12_net_20 (by decide) (by decide) (by simp [x_cat, x_catI, x_catJ])
          cases h
          exact x_callX z9 (evX_out rfl)
  · have z9 := x_call (M := mX12_net) (M' := mX12_isModule) (pc := 2) (st := [.int v1, va_rf (some a0)]) (rest := []) (av := [va_rf (some a0), .int v1]) (x_linkV (M := mX12_net) (M' := mX12_isModule) (As := [.int v1]) (index := 308) (C := RX12) (T := TX12) (xE_12 c_4) rfl wd_808 wd_809 (wG_in (List.mem_append_left _ (List.mem_of_getElem? (i := 85) rfl)) rfl) xw_X12_isModule rfl (by decide) rfl rfl dX12_net_2) (ev_X12_isModule hO hP h_3) xw_X12_isModule rfl wd_198 dX12_net_2 (by decide) (by decide) (by simp [x_cat, x_catI, x_catJ])
    cases h
    exact x_callX z9 (evX_out rfl)
set_option maxHeartbeats 4000000 in
set_option maxRecDepth 100000 in
theorem ev_X12_isInstance_p31 {l : Launch} {G : xG} (hO : x_OK l G) {P : xP} (hP : x_PG P G) {a0 : Nat} {s0 : Int32} {σ σ' : xS} {rr : Int32 ⊕ String} (h : dm_X12_isInstance_p31 P a0 s0 σ = some (rr, σ')) : Ev l G mX12_isInstance 31 [] [.int s0] σ (xrI rr) σ' := by
  unfold dm_X12_isInstance_p31 at h
  obtain ⟨c_1, h⟩ := x_chk_e h
  cases h
  exact ev_iret rfl (x_boolN c_1) dX12_isInstance_31
set_option maxHeartbeats 4000000 in
set_option maxRecDepth 100000 in
theorem ev_X12_isInstance_p30 {l : Launch} {G : xG} (hO : x_OK l G) {P : xP} (hP : x_PG P G) {a0 : Nat} {σ σ' : xS} {rr : Int32 ⊕ String} (h : dm_X12_isInstance_p30 P a0 σ = some (rr, σ')) : Ev l G mX12_isInstance 30 [] [] σ (xrI rr) σ' := by
  unfold dm_X12_isInstance_p30 at h
  refine ev_iconst (v := 0) dX12_isInstance_30 (by decide) ?_
  exact ev_sub [] rfl (ev_X12_isInstance_p31 hO hP h)
set_option maxHeartbeats 4000000 in
set_option maxRecDepth 100000 in
theorem ev_X12_isInstance {l : Launch} {G : xG} (hO : x_OK l G) {P : xP} (hP : x_PG P G) {a0 : Nat} {v1 : Int32} {v2 : Int32} {σ σ' : xS} {rr : Int32 ⊕ String} (h : dm_X12_isInstance P a0 v1 v2 σ = some (rr, σ')) : EvM l G mX12_isInstance [va_rf (some a0), .int v1, .int v2] σ (xrI rr) σ' := by
  unfold dm_X12_isInstance at h
  refine evM_of hO (by decide +kernel) (x_lenI (by simp [x_cat, x_catI, x_catJ, mX12_isInstance, xM.maxL])) ?_
  refine Eq.mp (congrArg (fun z => Ev l G mX12_isInstance 0 z [] σ (xrI rr) σ') (show [(0, va_rf (some a0)), (1, .int v1), (2, .int v2)] = lv_args 0 [va_rf (some a0), .int v1, .int v2] by simp [lv_args, x_cat, x_catI, x_catJ])) ?_
  refine ev_aload_n (j := 0) (x := (some a0)) dX12_isInstance_0 rfl rfl ?_
  refine ev_iload_n (j := 1) (x := v1) dX12_isInstance_1 rfl rfl ?_
  obtain ⟨c_4, h⟩ := x_chk_e h
  rcases x_bind_e h with ⟨v_1, σ_2, h_3, h⟩ | ⟨E_15, σ_2, h_3, h⟩
  · have z9 := x_call (M := mX12_isInstance) (M' := mX12_isModule) (pc := 2) (st := [.int v1, va_rf (some a0)]) (rest := []) (av := [va_rf (some a0), .int v1]) (x_linkV (M := mX12_isInstance) (M' := mX12_isModule) (As := [.int v1]) (index := 308) (C := RX12) (T := TX12) (xE_12 c_4) rfl wd_808 wd_809 (wG_in (List.mem_append_left _ (List.mem_of_getElem? (i := 85) rfl)) rfl) xw_X12_isModule rfl (by decide) rfl rfl dX12_isInstance_2) (ev_X12_isModule hO hP h_3) xw_X12_isModule rfl wd_198 dX12_isInstance_2 (by decide) (by decide) (by simp [x_cat, x_catI, x_catJ])
    refine x_callR z9 ?_
    refine ev_at (st' := [.int v_1]) rfl rfl ?_
    by_cases c_5 : v_1 = 0
    · rw [if_pos c_5] at h
      refine ev_if_eq (x := v_1) (tgt := 30) dX12_isInstance_5 (by decide) (fun _ => ?_) (fun q9 => absurd c_5 q9)
      exact ev_sub [] rfl (ev_X12_isInstance_p30 hO hP h)
    · rw [if_neg c_5] at h
      refine ev_if_eq (x := v_1) (tgt := 30) dX12_isInstance_5 (by decide) (fun q9 => absurd q9 c_5) (fun _ => ?_)
      refine ev_iload_n (j := 2) (x := v2) dX12_isInstance_8 rfl rfl ?_
      by_cases c_6 : v2 < 0
      · rw [if_pos c_6] at h
        refine ev_if_lt (x := v2) (tgt := 30) dX12_isInstance_9 (by decide) (fun _ => ?_) (fun q9 => absurd c_6 q9)
        exact ev_sub [] rfl (ev_X12_isInstance_p30 hO hP h)
      · rw [if_neg c_6] at h
        refine ev_if_lt (x := v2) (tgt := 30) dX12_isInstance_9 (by decide) (fun q9 => absurd q9 c_6) (fun _ => ?_)
        refine ev_iload_n (j := 2) (x := v2) dX12_isInstance_12 rfl rfl ?_
        refine ev_aload_n (j := 0) (x := (some a0)) dX12_isInstance_13 rfl rfl ?_
        obtain ⟨c_7, h⟩ := x_chk_e h
        refine ev_get (C := RX12) (T := TX12) (k := 24) inX12 (xE_12 c_7) rfl (by decide) wd_172 (Or.inl rfl) rfl dX12_isInstance_14 ?_
        refine ev_aload_n (j := 0) (x := (some a0)) dX12_isInstance_17 rfl rfl ?_
        refine ev_iload_n (j := 1) (x := v1) dX12_isInstance_18 rfl rfl ?_
        rcases x_bind_e h with ⟨v_8, σ_9, h_10, h⟩ | ⟨E_14, σ_9, h_10, h⟩
        · have z9 := x_call (M := mX12_isInstance) (M' := mX12_of) (pc := 19) (st := [.int v1, va_rf (some a0), va_rf (σ_2.R 1124 a0), .int v2]) (rest := [va_rf (σ_2.R 1124 a0), .int v2]) (av := [va_rf (some a0), .int v1]) (x_linkV (M := mX12_isInstance) (M' := mX12_of) (As := [.int v1]) (index := 311) (C := RX12) (T := TX12) (xE_12 c_7) rfl wd_811 wd_812 (wG_in (List.mem_append_left _ (List.mem_of_getElem? (i := 86) rfl)) rfl) xw_X12_of rfl (by decide) rfl rfl dX12_isInstance_19) (ev_X12_of hO hP h_10) xw_X12_of rfl wd_198 dX12_isInstance_19 (by decide) (by decide) (by simp [x_cat, x_catI, x_catJ])
          refine x_callR z9 ?_
          refine ev_at (st' := [.int v_8, va_rf (σ_2.R 1124 a0), .int v2]) rfl rfl ?_
          obtain ⟨a_11, ea_11, h⟩ := x_some_e h
          refine ev_at (st' := [.int v_8, va_rf (some a_11), .int v2]) rfl (by rw [ea_11]) ?_
          obtain ⟨c_12, h⟩ := x_chk_e h
          refine ev_iald_31 c_12.1 c_12.2 dX12_isInstance_22 ?_
          by_cases c_13 : (σ_9.AI a_11 (Int32.toNatClampNeg v_8)) ≤ v2
          · rw [if_pos c_13] at h
            refine ev_icmp_ge (x := v2) (y := (σ_9.AI a_11 (Int32.toNatClampNeg v_8))) (tgt := 30) dX12_isInstance_23 (by decide) (fun _ => ?_) (fun q9 => absurd c_13 q9)
            exact ev_sub [] rfl (ev_X12_isInstance_p30 hO hP h)
          · rw [if_neg c_13] at h
            refine ev_icmp_ge (x := v2) (y := (σ_9.AI a_11 (Int32.toNatClampNeg v_8))) (tgt := 30) dX12_isInstance_23 (by decide) (fun q9 => absurd q9 c_13) (fun _ => ?_)
            refine ev_iconst (v := 1) dX12_isInstance_26 (by decide) ?_
            refine ev_goto (tgt := 31) dX12_isInstance_27 (by decide) ?_
            exact ev_sub [] rfl (ev_X12_isInstance_p31 hO hP h)
        · have z9 := x_call (M := mX12_isInstance) (M' := mX12_of) (pc := 19) (st := [.int v1, va_rf (some a0), va_rf (σ_2.R 1124 a0), .int v2]) (rest := [va_rf (σ_2.R 1124 a0), .int v2]) (av := [va_rf (some a0), .int v1]) (x_linkV (M := mX12_isInstance) (M' := mX12_of) (As := [.int v1]) (index := 311) (C := RX12) (T := TX12) (xE_12 c_7) rfl wd_811 wd_812 (wG_in (List.mem_append_left _ (List.mem_of_getElem? (i := 86) rfl)) rfl) xw_X12_of rfl (by decide) rfl rfl dX12_isInstance_19) (ev_X12_of hO hP h_10) xw_X12_of rfl wd_198 dX12_isInstance_19 (by decide) (by decide) (by simp [x_cat, x_catI, x_catJ])
          cases h
          exact x_callX z9 (evX_out rfl)
  · have z9 := x_call (M := mX12_isInstance) (M' := mX12_isModule) (pc := 2) (st := [.int v1, va_rf (some a0)]) (rest := []) (av := [va_rf (some a0), .int v1]) (x_linkV (M := mX12_isInstance) (M' := mX12_isModule) (As := [.int v1]) (index := 308) (C := RX12) (T := TX12) (xE_12 c_4) rfl wd_808 wd_809 (wG_in (List.mem_append_left _ (List.mem_of_getElem? (i := 85) rfl)) rfl) xw_X12_isModule rfl (by decide) rfl rfl dX12_isInstance_2) (ev_X12_isModule hO hP h_3) xw_X12_isModule rfl wd_198 dX12_isInstance_2 (by decide) (by decide) (by simp [x_cat, x_catI, x_catJ])
    cases h
    exact x_callX z9 (evX_out rfl)
set_option maxHeartbeats 4000000 in
set_option maxRecDepth 100000 in
theorem ev_X12_pins_p34 {l : Launch} {G : xG} (hO : x_OK l G) {P : xP} (hP : x_PG P G) {a0 : Nat} {s0 : Int32} {σ σ' : xS} {rr : Int32 ⊕ String} (h : dm_X12_pins_p34 P a0 s0 σ = some (rr, σ')) : Ev l G mX12_pins 34 [] [.int s0] σ (xrI rr) σ' := by
  unfold dm_X12_pins_p34 at h
  cases h
  exact ev_iret rfl rfl dX12_pins_34
set_option maxHeartbeats 4000000 in
set_option maxRecDepth 100000 in
theorem ev_X12_pins {l : Launch} {G : xG} (hO : x_OK l G) {P : xP} (hP : x_PG P G) {a0 : Nat} {v1 : Int32} {σ σ' : xS} {rr : Int32 ⊕ String} (h : dm_X12_pins P a0 v1 σ = some (rr, σ')) : EvM l G mX12_pins [va_rf (some a0), .int v1] σ (xrI rr) σ' := by
  unfold dm_X12_pins at h
  refine evM_of hO (by decide +kernel) (x_lenI (by simp [x_cat, x_catI, x_catJ, mX12_pins, xM.maxL])) ?_
  refine Eq.mp (congrArg (fun z => Ev l G mX12_pins 0 z [] σ (xrI rr) σ') (show [(0, va_rf (some a0)), (1, .int v1)] = lv_args 0 [va_rf (some a0), .int v1] by simp [lv_args, x_cat, x_catI, x_catJ])) ?_
  refine ev_aload_n (j := 0) (x := (some a0)) dX12_pins_0 rfl rfl ?_
  obtain ⟨c_1, h⟩ := x_chk_e h
  refine ev_get (C := RX12) (T := TX12) (k := 28) inX12 (xE_12 c_1) rfl (by decide) wd_176 (Or.inl rfl) rfl dX12_pins_1 ?_
  refine ev_iload_n (j := 1) (x := v1) dX12_pins_4 rfl rfl ?_
  obtain ⟨a_2, ea_2, h⟩ := x_some_e h
  refine ev_at (st' := [.int v1, va_rf (some a_2)]) rfl (by rw [ea_2]) ?_
  obtain ⟨c_3, h⟩ := x_chk_e h
  refine ev_iald_31 c_3.1 c_3.2 dX12_pins_5 ?_
  refine ev_iconst (v := -1) dX12_pins_6 (by decide) ?_
  by_cases c_4 : (σ.AI a_2 (Int32.toNatClampNeg v1)) = (-1)
  · rw [if_pos c_4] at h
    refine ev_icmp_ne (x := (σ.AI a_2 (Int32.toNatClampNeg v1))) (y := (-1)) (tgt := 19) dX12_pins_7 (by decide) (fun q9 => absurd c_4 q9) (fun _ => ?_)
    refine ev_aload_n (j := 0) (x := (some a0)) dX12_pins_10 rfl rfl ?_
    refine ev_get (C := RX12) (T := TX12) (k := 29) inX12 (xE_12 c_1) rfl (by decide) wd_177 (Or.inl rfl) rfl dX12_pins_11 ?_
    refine ev_iload_n (j := 1) (x := v1) dX12_pins_14 rfl rfl ?_
    obtain ⟨a_11, ea_11, h⟩ := x_some_e h
    refine ev_at (st' := [.int v1, va_rf (some a_11)]) rfl (by rw [ea_11]) ?_
    obtain ⟨c_12, h⟩ := x_chk_e h
    refine ev_iald_31 c_12.1 c_12.2 dX12_pins_15 ?_
    refine ev_goto (tgt := 34) dX12_pins_16 (by decide) ?_
    exact ev_sub [] rfl (ev_X12_pins_p34 hO hP h)
  · rw [if_neg c_4] at h
    refine ev_icmp_ne (x := (σ.AI a_2 (Int32.toNatClampNeg v1))) (y := (-1)) (tgt := 19) dX12_pins_7 (by decide) (fun _ => ?_) (fun q9 => absurd q9 c_4)
    refine ev_aload_n (j := 0) (x := (some a0)) dX12_pins_19 rfl rfl ?_
    refine ev_get (C := RX12) (T := TX12) (k := 8) inX12 (xE_12 c_1) rfl (by decide) wd_155 (Or.inl rfl) rfl dX12_pins_20 ?_
    refine ev_aload_n (j := 0) (x := (some a0)) dX12_pins_23 rfl rfl ?_
    refine ev_aload_n (j := 0) (x := (some a0)) dX12_pins_24 rfl rfl ?_
    refine ev_get (C := RX12) (T := TX12) (k := 28) inX12 (xE_12 c_1) rfl (by decide) wd_176 (Or.inl rfl) rfl dX12_pins_25 ?_
    refine ev_iload_n (j := 1) (x := v1) dX12_pins_28 rfl rfl ?_
    refine ev_at (st' := [.int v1, va_rf (some a_2), va_rf (some a0), va_rf (σ.R 1108 a0)]) rfl (by rw [ea_2]) ?_
    refine ev_iald_31 c_3.1 c_3.2 dX12_pins_29 ?_
    rcases x_bind_e h with ⟨v_5, σ_6, h_7, h⟩ | ⟨E_10, σ_6, h_7, h⟩
    · have z9 := x_call (M := mX12_pins) (M' := mX12_of) (pc := 30) (st := [.int (σ.AI a_2 (Int32.toNatClampNeg v1)), va_rf (some a0), va_rf (σ.R 1108 a0)]) (rest := [va_rf (σ.R 1108 a0)]) (av := [va_rf (some a0), .int (σ.AI a_2 (Int32.toNatClampNeg v1))]) (x_linkV (M := mX12_pins) (M' := mX12_of) (As := [.int (σ.AI a_2 (Int32.toNatClampNeg v1))]) (index := 311) (C := RX12) (T := TX12) (xE_12 c_1) rfl wd_811 wd_812 (wG_in (List.mem_append_left _ (List.mem_of_getElem? (i := 86) rfl)) rfl) xw_X12_of rfl (by decide) rfl rfl dX12_pins_30) (ev_X12_of hO hP h_7) xw_X12_of rfl wd_198 dX12_pins_30 (by decide) (by decide) (by simp [x_cat, x_catI, x_catJ])
      refine x_callR z9 ?_
      refine ev_at (st' := [.int v_5, va_rf (σ.R 1108 a0)]) rfl rfl ?_
      obtain ⟨a_8, ea_8, h⟩ := x_some_e h
      refine ev_at (st' := [.int v_5, va_rf (some a_8)]) rfl (by rw [ea_8]) ?_
      obtain ⟨c_9, h⟩ := x_chk_e h
      refine ev_iald_31 c_9.1 c_9.2 dX12_pins_33 ?_
      exact ev_sub [] rfl (ev_X12_pins_p34 hO hP h)
    · have z9 := x_call (M := mX12_pins) (M' := mX12_of) (pc := 30) (st := [.int (σ.AI a_2 (Int32.toNatClampNeg v1)), va_rf (some a0), va_rf (σ.R 1108 a0)]) (rest := [va_rf (σ.R 1108 a0)]) (av := [va_rf (some a0), .int (σ.AI a_2 (Int32.toNatClampNeg v1))]) (x_linkV (M := mX12_pins) (M' := mX12_of) (As := [.int (σ.AI a_2 (Int32.toNatClampNeg v1))]) (index := 311) (C := RX12) (T := TX12) (xE_12 c_1) rfl wd_811 wd_812 (wG_in (List.mem_append_left _ (List.mem_of_getElem? (i := 86) rfl)) rfl) xw_X12_of rfl (by decide) rfl rfl dX12_pins_30) (ev_X12_of hO hP h_7) xw_X12_of rfl wd_198 dX12_pins_30 (by decide) (by decide) (by simp [x_cat, x_catI, x_catJ])
      cases h
      exact x_callX z9 (evX_out rfl)
set_option maxHeartbeats 4000000 in
set_option maxRecDepth 100000 in
theorem ev_X12_instance_p106 {l : Launch} {G : xG} (hO : x_OK l G) {P : xP} (hP : x_PG P G) {a0 : Nat} {s0 : Int32} {σ σ' : xS} {rr : Int32 ⊕ String} (h : dm_X12_instance_p106 P a0 s0 σ = some (rr, σ')) : Ev l G mX12_instance 106 [] [.int s0] σ (xrI rr) σ' := by
  unfold dm_X12_instance_p106 at h
  cases h
  exact ev_iret rfl rfl dX12_instance_106
set_option maxHeartbeats 4000000 in
set_option maxRecDepth 100000 in
theorem ev_X12_instance_p24 {l : Launch} {G : xG} (hO : x_OK l G) {P : xP} (hP : x_PG P G) {a0 : Nat} {v1 : Int32} {v2 : Int32} {v3 : Int32} {s0 : Option Nat} {s1 : Int32} {σ σ' : xS} {rr : Int32 ⊕ String} (h : dm_X12_instance_p24 P a0 v1 v2 v3 s0 s1 σ = some (rr, σ')) : Ev l G mX12_instance 24 [(0, va_rf (some a0)), (1, .int v1), (2, .int v2), (3, .int v3)] [.int s1, va_rf s0] σ (xrI rr) σ' := by
  unfold dm_X12_instance_p24 at h
  obtain ⟨a_1, ea_1, h⟩ := x_some_e h
  refine ev_at (st' := [.int s1, va_rf (some a_1)]) rfl (by rw [ea_1]) ?_
  obtain ⟨c_2, h⟩ := x_chk_e h
  obtain ⟨σ_3, eσ_3, h⟩ := x_let_e h
  refine ev_put (σ2 := σ_3) (C := RX12) (T := TX12) (k := 0) inX12 tyX12 tyX12_ok nmX12 (xE_12 c_2.1) rfl (by decide) wd_194 (Or.inl rfl) rfl rfl rfl rfl (Nat.le_of_ble_eq_true rfl) (hP.2.2.2.1 ▸ c_2.2) (by rw [eσ_3]; exact xP_12_0 _ c_2.1) (by rw [eσ_3]; exact xPut_I) dX12_instance_24 ?_
  refine ev_aload_n (j := 0) (x := (some a0)) dX12_instance_27 rfl rfl ?_
  obtain ⟨c_4, h⟩ := x_chk_e h
  refine ev_get (C := RX12) (T := TX12) (k := 0) inX12 (xE_12 c_4) rfl (by decide) wd_194 (Or.inl rfl) rfl dX12_instance_28 ?_
  by_cases c_5 : (σ_3.I 1100 a0) ≤ 0
  · rw [if_pos c_5] at h
    refine ev_if_le (x := (σ_3.I 1100 a0)) (tgt := 36) dX12_instance_31 (by decide) (fun _ => ?_) (fun q9 => absurd c_5 q9)
    refine ev_bipush (v := 12) dX12_instance_36 (by decide) ?_
    refine ev_aload_n (j := 0) (x := (some a0)) dX12_instance_38 rfl rfl ?_
    refine ev_iload_n (j := 1) (x := v1) dX12_instance_39 rfl rfl ?_
    rcases x_bind_e h with ⟨v_6, σ_7, h_8, h⟩ | ⟨E_28, σ_7, h_8, h⟩
    · have z9 := x_call (M := mX12_instance) (M' := mX12_of) (pc := 40) (st := [.int v1, va_rf (some a0), .int 12]) (rest := [.int 12]) (av := [va_rf (some a0), .int v1]) (x_linkV (M := mX12_instance) (M' := mX12_of) (As := [.int v1]) (index := 311) (C := RX12) (T := TX12) (xE_12 c_4) rfl wd_811 wd_812 (wG_in (List.mem_append_left _ (List.mem_of_getElem? (i := 86) rfl)) rfl) xw_X12_of rfl (by decide) rfl rfl dX12_instance_40) (ev_X12_of hO hP h_8) xw_X12_of rfl wd_198 dX12_instance_40 (by decide) (by decide) (by simp [x_cat, x_catI, x_catJ])
      refine x_callR z9 ?_
      refine ev_at (st' := [.int v_6, .int 12]) rfl rfl ?_
      refine ev_imul (x := 12) (y := v_6) dX12_instance_43 ?_
      refine ev_iload_n (j := 2) (x := v2) dX12_instance_44 rfl rfl ?_
      refine ev_iadd (x := (12 * v_6)) (y := v2) dX12_instance_45 ?_
      obtain ⟨v_9, ev_9, h⟩ := x_let_e h
      rw [← ev_9]
      refine ev_istore (i := 4) (lv' := [(4, .int v_9), (0, va_rf (some a0)), (1, .int v1), (2, .int v2), (3, .int v3)]) dX12_instance_46 (by decide) rfl ?_
      refine ev_iload_n (j := 4) (x := v3) dX12_instance_48 rfl rfl ?_
      by_cases c_10 : v3 = 0
      · rw [if_pos c_10] at h
        refine ev_if_ne (x := v3) (tgt := 62) dX12_instance_49 (by decide) (fun q9 => absurd c_10 q9) (fun _ => ?_)
        refine ev_aload_n (j := 1) (x := (some a0)) dX12_instance_52 rfl rfl ?_
        obtain ⟨c_25, h⟩ := x_chk_e h
        refine ev_get (C := RX12) (T := TX12) (k := 28) inX12 (xE_12 c_25) rfl (by decide) wd_176 (Or.inl rfl) rfl dX12_instance_53 ?_
        refine ev_iload (j := 0) (x := v_9) dX12_instance_56 rfl ?_
        obtain ⟨a_26, ea_26, h⟩ := x_some_e h
        refine ev_at (st' := [.int v_9, va_rf (some a_26)]) rfl (by rw [ea_26]) ?_
        obtain ⟨c_27, h⟩ := x_chk_e h
        refine ev_iald_31 c_27.1 c_27.2 dX12_instance_58 ?_
        refine ev_goto (tgt := 106) dX12_instance_59 (by decide) ?_
        exact ev_sub [] rfl (ev_X12_instance_p106 hO hP h)
      · rw [if_neg c_10] at h
        refine ev_if_ne (x := v3) (tgt := 62) dX12_instance_49 (by decide) (fun _ => ?_) (fun q9 => absurd q9 c_10)
        refine ev_iload_n (j := 4) (x := v3) dX12_instance_62 rfl rfl ?_
        refine ev_iconst (v := 1) dX12_instance_63 (by decide) ?_
        by_cases c_11 : v3 = 1
        · rw [if_pos c_11] at h
          refine ev_icmp_ne (x := v3) (y := 1) (tgt := 76) dX12_instance_64 (by decide) (fun q9 => absurd c_11 q9) (fun _ => ?_)
          refine ev_aload_n (j := 1) (x := (some a0)) dX12_instance_67 rfl rfl ?_
          refine ev_iload (j := 0) (x := v_9) dX12_instance_68 rfl ?_
          obtain ⟨c_23, h⟩ := x_chk_e h
          rcases x_bind_e h with ⟨v_20, σ_21, h_22, h⟩ | ⟨E_24, σ_21, h_22, h⟩
          · have z9 := x_call (M := mX12_instance) (M' := mX12_pins) (pc := 70) (st := [.int v_9, va_rf (some a0)]) (rest := []) (av := [va_rf (some a0), .int v_9]) (x_linkV (M := mX12_instance) (M' := mX12_pins) (As := [.int v_9]) (index := 320) (C := RX12) (T := TX12) (xE_12 c_23) rfl wd_831 wd_832 (wG_in (List.mem_append_left _ (List.mem_of_getElem? (i := 89) rfl)) rfl) xw_X12_pins rfl (by decide) rfl rfl dX12_instance_70) (ev_X12_pins hO hP h_22) xw_X12_pins rfl wd_198 dX12_instance_70 (by decide) (by decide) (by simp [x_cat, x_catI, x_catJ])
            refine x_callR z9 ?_
            refine ev_at (st' := [.int v_20]) rfl rfl ?_
            refine ev_goto (tgt := 106) dX12_instance_73 (by decide) ?_
            exact ev_sub [] rfl (ev_X12_instance_p106 hO hP h)
          · have z9 := x_call (M := mX12_instance) (M' := mX12_pins) (pc := 70) (st := [.int v_9, va_rf (some a0)]) (rest := []) (av := [va_rf (some a0), .int v_9]) (x_linkV (M := mX12_instance) (M' := mX12_pins) (As := [.int v_9]) (index := 320) (C := RX12) (T := TX12) (xE_12 c_23) rfl wd_831 wd_832 (wG_in (List.mem_append_left _ (List.mem_of_getElem? (i := 89) rfl)) rfl) xw_X12_pins rfl (by decide) rfl rfl dX12_instance_70) (ev_X12_pins hO hP h_22) xw_X12_pins rfl wd_198 dX12_instance_70 (by decide) (by decide) (by simp [x_cat, x_catI, x_catJ])
            cases h
            exact x_callX z9 (evX_out rfl)
        · rw [if_neg c_11] at h
          refine ev_icmp_ne (x := v3) (y := 1) (tgt := 76) dX12_instance_64 (by decide) (fun _ => ?_) (fun q9 => absurd q9 c_11)
          refine ev_iload_n (j := 4) (x := v3) dX12_instance_76 rfl rfl ?_
          refine ev_iconst (v := 2) dX12_instance_77 (by decide) ?_
          by_cases c_12 : v3 = 2
          · rw [if_pos c_12] at h
            refine ev_icmp_ne (x := v3) (y := 2) (tgt := 91) dX12_instance_78 (by decide) (fun q9 => absurd c_12 q9) (fun _ => ?_)
            refine ev_aload_n (j := 1) (x := (some a0)) dX12_instance_81 rfl rfl ?_
            obtain ⟨c_17, h⟩ := x_chk_e h
            refine ev_get (C := RX12) (T := TX12) (k := 26) inX12 (xE_12 c_17) rfl (by decide) wd_174 (Or.inl rfl) rfl dX12_instance_82 ?_
            refine ev_iload (j := 0) (x := v_9) dX12_instance_85 rfl ?_
            obtain ⟨a_18, ea_18, h⟩ := x_some_e h
            refine ev_at (st' := [.int v_9, va_rf (some a_18)]) rfl (by rw [ea_18]) ?_
            obtain ⟨c_19, h⟩ := x_chk_e h
            refine ev_iald_31 c_19.1 c_19.2 dX12_instance_87 ?_
            refine ev_goto (tgt := 106) dX12_instance_88 (by decide) ?_
            exact ev_sub [] rfl (ev_X12_instance_p106 hO hP h)
          · rw [if_neg c_12] at h
            refine ev_icmp_ne (x := v3) (y := 2) (tgt := 91) dX12_instance_78 (by decide) (fun _ => ?_) (fun q9 => absurd q9 c_12)
            refine ev_aload_n (j := 1) (x := (some a0)) dX12_instance_91 rfl rfl ?_
            obtain ⟨c_13, h⟩ := x_chk_e h
            refine ev_get (C := RX12) (T := TX12) (k := 27) inX12 (xE_12 c_13) rfl (by decide) wd_175 (Or.inl rfl) rfl dX12_instance_92 ?_
            refine ev_iload (j := 0) (x := v_9) dX12_instance_95 rfl ?_
            obtain ⟨a_14, ea_14, h⟩ := x_some_e h
            refine ev_at (st' := [.int v_9, va_rf (some a_14)]) rfl (by rw [ea_14]) ?_
            obtain ⟨c_15, h⟩ := x_chk_e h
            refine ev_zald_33 c_15.1 c_15.2 dX12_instance_97 ?_
            by_cases c_16 : (σ_7.AI a_14 (Int32.toNatClampNeg v_9)) = 0
            · rw [if_pos c_16] at h
              refine ev_if_eq (x := (σ_7.AI a_14 (Int32.toNatClampNeg v_9))) (tgt := 105) dX12_instance_98 (by decide) (fun _ => ?_) (fun q9 => absurd c_16 q9)
              refine ev_iconst (v := 0) dX12_instance_105 (by decide) ?_
              exact ev_sub [] rfl (ev_X12_instance_p106 hO hP h)
            · rw [if_neg c_16] at h
              refine ev_if_eq (x := (σ_7.AI a_14 (Int32.toNatClampNeg v_9))) (tgt := 105) dX12_instance_98 (by decide) (fun q9 => absurd q9 c_16) (fun _ => ?_)
              refine ev_iconst (v := 1) dX12_instance_101 (by decide) ?_
              refine ev_goto (tgt := 106) dX12_instance_102 (by decide) ?_
              exact ev_sub [] rfl (ev_X12_instance_p106 hO hP h)
    · have z9 := x_call (M := mX12_instance) (M' := mX12_of) (pc := 40) (st := [.int v1, va_rf (some a0), .int 12]) (rest := [.int 12]) (av := [va_rf (some a0), .int v1]) (x_linkV (M := mX12_instance) (M' := mX12_of) (As := [.int v1]) (index := 311) (C := RX12) (T := TX12) (xE_12 c_4) rfl wd_811 wd_812 (wG_in (List.mem_append_left _ (List.mem_of_getElem? (i := 86) rfl)) rfl) xw_X12_of rfl (by decide) rfl rfl dX12_instance_40) (ev_X12_of hO hP h_8) xw_X12_of rfl wd_198 dX12_instance_40 (by decide) (by decide) (by simp [x_cat, x_catI, x_catJ])
      cases h
      exact x_callX z9 (evX_out rfl)
  · rw [if_neg c_5] at h
    refine ev_if_le (x := (σ_3.I 1100 a0)) (tgt := 36) dX12_instance_31 (by decide) (fun q9 => absurd q9 c_5) (fun _ => ?_)
    refine ev_iconst (v := 0) dX12_instance_34 (by decide) ?_
    cases h
    exact ev_iret rfl rfl dX12_instance_35
set_option maxHeartbeats 4000000 in
set_option maxRecDepth 100000 in
theorem ev_X12_instance_p23 {l : Launch} {G : xG} (hO : x_OK l G) {P : xP} (hP : x_PG P G) {a0 : Nat} {v1 : Int32} {v2 : Int32} {v3 : Int32} {s0 : Option Nat} {σ σ' : xS} {rr : Int32 ⊕ String} (h : dm_X12_instance_p23 P a0 v1 v2 v3 s0 σ = some (rr, σ')) : Ev l G mX12_instance 23 [(0, va_rf (some a0)), (1, .int v1), (2, .int v2), (3, .int v3)] [va_rf s0] σ (xrI rr) σ' := by
  unfold dm_X12_instance_p23 at h
  refine ev_iconst (v := 1) dX12_instance_23 (by decide) ?_
  exact ev_sub [0, 1, 2, 3] rfl (ev_X12_instance_p24 hO hP h)
set_option maxHeartbeats 4000000 in
set_option maxRecDepth 100000 in
theorem ev_X12_instance {l : Launch} {G : xG} (hO : x_OK l G) {P : xP} (hP : x_PG P G) {a0 : Nat} {v1 : Int32} {v2 : Int32} {v3 : Int32} {σ σ' : xS} {rr : Int32 ⊕ String} (h : dm_X12_instance P a0 v1 v2 v3 σ = some (rr, σ')) : EvM l G mX12_instance [va_rf (some a0), .int v1, .int v2, .int v3] σ (xrI rr) σ' := by
  unfold dm_X12_instance at h
  refine evM_of hO (by decide +kernel) (x_lenI (by simp [x_cat, x_catI, x_catJ, mX12_instance, xM.maxL])) ?_
  refine Eq.mp (congrArg (fun z => Ev l G mX12_instance 0 z [] σ (xrI rr) σ') (show [(0, va_rf (some a0)), (1, .int v1), (2, .int v2), (3, .int v3)] = lv_args 0 [va_rf (some a0), .int v1, .int v2, .int v3] by simp [lv_args, x_cat, x_catI, x_catJ])) ?_
  refine ev_aload_n (j := 0) (x := (some a0)) dX12_instance_0 rfl rfl ?_
  refine ev_aload_n (j := 0) (x := (some a0)) dX12_instance_1 rfl rfl ?_
  refine ev_iload_n (j := 1) (x := v1) dX12_instance_2 rfl rfl ?_
  refine ev_iload_n (j := 2) (x := v2) dX12_instance_3 rfl rfl ?_
  obtain ⟨c_4, h⟩ := x_chk_e h
  rcases x_bind_e h with ⟨v_1, σ_2, h_3, h⟩ | ⟨E_8, σ_2, h_3, h⟩
  · have z9 := x_call (M := mX12_instance) (M' := mX12_isInstance) (pc := 4) (st := [.int v2, .int v1, va_rf (some a0), va_rf (some a0)]) (rest := [va_rf (some a0)]) (av := [va_rf (some a0), .int v1, .int v2]) (x_linkV (M := mX12_instance) (M' := mX12_isInstance) (As := [.int v1, .int v2]) (index := 317) (C := RX12) (T := TX12) (xE_12 c_4) rfl wd_828 wd_829 (wG_in (List.mem_append_left _ (List.mem_of_getElem? (i := 88) rfl)) rfl) xw_X12_isInstance rfl (by decide) rfl rfl dX12_instance_4) (ev_X12_isInstance hO hP h_3) xw_X12_isInstance rfl wd_198 dX12_instance_4 (by decide) (by decide) (by simp [x_cat, x_catI, x_catJ])
    refine x_callR z9 ?_
    refine ev_at (st' := [.int v_1, va_rf (some a0)]) rfl rfl ?_
    by_cases c_5 : v_1 = 0
    · rw [if_pos c_5] at h
      refine ev_if_eq (x := v_1) (tgt := 23) dX12_instance_7 (by decide) (fun _ => ?_) (fun q9 => absurd c_5 q9)
      exact ev_sub [0, 1, 2, 3] rfl (ev_X12_instance_p23 hO hP h)
    · rw [if_neg c_5] at h
      refine ev_if_eq (x := v_1) (tgt := 23) dX12_instance_7 (by decide) (fun q9 => absurd q9 c_5) (fun _ => ?_)
      refine ev_iload_n (j := 3) (x := v3) dX12_instance_10 rfl rfl ?_
      by_cases c_6 : v3 < 0
      · rw [if_pos c_6] at h
        refine ev_if_lt (x := v3) (tgt := 23) dX12_instance_11 (by decide) (fun _ => ?_) (fun q9 => absurd c_6 q9)
        exact ev_sub [0, 1, 2, 3] rfl (ev_X12_instance_p23 hO hP h)
      · rw [if_neg c_6] at h
        refine ev_if_lt (x := v3) (tgt := 23) dX12_instance_11 (by decide) (fun q9 => absurd q9 c_6) (fun _ => ?_)
        refine ev_iload_n (j := 3) (x := v3) dX12_instance_14 rfl rfl ?_
        refine ev_iconst (v := 3) dX12_instance_15 (by decide) ?_
        by_cases c_7 : 3 < v3
        · rw [if_pos c_7] at h
          refine ev_icmp_gt (x := v3) (y := 3) (tgt := 23) dX12_instance_16 (by decide) (fun _ => ?_) (fun q9 => absurd c_7 q9)
          exact ev_sub [0, 1, 2, 3] rfl (ev_X12_instance_p23 hO hP h)
        · rw [if_neg c_7] at h
          refine ev_icmp_gt (x := v3) (y := 3) (tgt := 23) dX12_instance_16 (by decide) (fun q9 => absurd q9 c_7) (fun _ => ?_)
          refine ev_iconst (v := 0) dX12_instance_19 (by decide) ?_
          refine ev_goto (tgt := 24) dX12_instance_20 (by decide) ?_
          exact ev_sub [0, 1, 2, 3] rfl (ev_X12_instance_p24 hO hP h)
  · have z9 := x_call (M := mX12_instance) (M' := mX12_isInstance) (pc := 4) (st := [.int v2, .int v1, va_rf (some a0), va_rf (some a0)]) (rest := [va_rf (some a0)]) (av := [va_rf (some a0), .int v1, .int v2]) (x_linkV (M := mX12_instance) (M' := mX12_isInstance) (As := [.int v1, .int v2]) (index := 317) (C := RX12) (T := TX12) (xE_12 c_4) rfl wd_828 wd_829 (wG_in (List.mem_append_left _ (List.mem_of_getElem? (i := 88) rfl)) rfl) xw_X12_isInstance rfl (by decide) rfl rfl dX12_instance_4) (ev_X12_isInstance hO hP h_3) xw_X12_isInstance rfl wd_198 dX12_instance_4 (by decide) (by decide) (by simp [x_cat, x_catI, x_catJ])
    cases h
    exact x_callX z9 (evX_out rfl)
set_option maxHeartbeats 4000000 in
set_option maxRecDepth 100000 in
theorem ev_X12_pinWidth_p65 {l : Launch} {G : xG} (hO : x_OK l G) {P : xP} (hP : x_PG P G) {a0 : Nat} {s0 : Int32} {σ σ' : xS} {rr : Int32 ⊕ String} (h : dm_X12_pinWidth_p65 P a0 s0 σ = some (rr, σ')) : Ev l G mX12_pinWidth 65 [] [.int s0] σ (xrI rr) σ' := by
  unfold dm_X12_pinWidth_p65 at h
  cases h
  exact ev_iret rfl rfl dX12_pinWidth_65
set_option maxHeartbeats 4000000 in
set_option maxRecDepth 100000 in
theorem ev_X12_pinWidth {l : Launch} {G : xG} (hO : x_OK l G) {P : xP} (hP : x_PG P G) {a0 : Nat} {v1 : Int32} {v2 : Int32} {v3 : Int32} {σ σ' : xS} {rr : Int32 ⊕ String} (h : dm_X12_pinWidth P a0 v1 v2 v3 σ = some (rr, σ')) : EvM l G mX12_pinWidth [va_rf (some a0), .int v1, .int v2, .int v3] σ (xrI rr) σ' := by
  unfold dm_X12_pinWidth at h
  refine evM_of hO (by decide +kernel) (x_lenI (by simp [x_cat, x_catI, x_catJ, mX12_pinWidth, xM.maxL])) ?_
  refine Eq.mp (congrArg (fun z => Ev l G mX12_pinWidth 0 z [] σ (xrI rr) σ') (show [(0, va_rf (some a0)), (1, .int v1), (2, .int v2), (3, .int v3)] = lv_args 0 [va_rf (some a0), .int v1, .int v2, .int v3] by simp [lv_args, x_cat, x_catI, x_catJ])) ?_
  refine ev_aload_n (j := 0) (x := (some a0)) dX12_pinWidth_0 rfl rfl ?_
  obtain ⟨c_1, h⟩ := x_chk_e h
  refine ev_get (C := RX12) (T := TX12) (k := 28) inX12 (xE_12 c_1) rfl (by decide) wd_176 (Or.inl rfl) rfl dX12_pinWidth_1 ?_
  refine ev_iload_n (j := 2) (x := v2) dX12_pinWidth_4 rfl rfl ?_
  obtain ⟨a_2, ea_2, h⟩ := x_some_e h
  refine ev_at (st' := [.int v2, va_rf (some a_2)]) rfl (by rw [ea_2]) ?_
  obtain ⟨c_3, h⟩ := x_chk_e h
  refine ev_iald_31 c_3.1 c_3.2 dX12_pinWidth_5 ?_
  refine ev_iconst (v := -1) dX12_pinWidth_6 (by decide) ?_
  by_cases c_4 : (σ.AI a_2 (Int32.toNatClampNeg v2)) = (-1)
  · rw [if_pos c_4] at h
    refine ev_icmp_eq (x := (σ.AI a_2 (Int32.toNatClampNeg v2))) (y := (-1)) (tgt := 31) dX12_pinWidth_7 (by decide) (fun _ => ?_) (fun q9 => absurd c_4 q9)
    refine ev_aload_n (j := 0) (x := (some a0)) dX12_pinWidth_31 rfl rfl ?_
    refine ev_get (C := RX12) (T := TX12) (k := 30) inX12 (xE_12 c_1) rfl (by decide) wd_178 (Or.inl rfl) rfl dX12_pinWidth_32 ?_
    refine ev_bipush (v := 16) dX12_pinWidth_35 (by decide) ?_
    refine ev_iload_n (j := 2) (x := v2) dX12_pinWidth_37 rfl rfl ?_
    refine ev_imul (x := 16) (y := v2) dX12_pinWidth_38 ?_
    refine ev_iload_n (j := 3) (x := v3) dX12_pinWidth_39 rfl rfl ?_
    refine ev_iadd (x := (16 * v2)) (y := v3) dX12_pinWidth_40 ?_
    obtain ⟨a_5, ea_5, h⟩ := x_some_e h
    refine ev_at (st' := [.int ((16 * v2) + v3), va_rf (some a_5)]) rfl (by rw [ea_5]) ?_
    obtain ⟨c_6, h⟩ := x_chk_e h
    refine ev_iald_31 c_6.1 c_6.2 dX12_pinWidth_41 ?_
    obtain ⟨v_7, ev_7, h⟩ := x_let_e h
    rw [← ev_7]
    refine ev_istore (i := 4) (lv' := [(4, .int v_7), (0, va_rf (some a0)), (1, .int v1), (2, .int v2), (3, .int v3)]) dX12_pinWidth_42 (by decide) rfl ?_
    refine ev_iload (j := 0) (x := v_7) dX12_pinWidth_44 rfl ?_
    refine ev_iconst (v := -1) dX12_pinWidth_46 (by decide) ?_
    by_cases c_8 : v_7 = (-1)
    · rw [if_pos c_8] at h
      refine ev_icmp_ne (x := v_7) (y := (-1)) (tgt := 54) dX12_pinWidth_47 (by decide) (fun q9 => absurd c_8 q9) (fun _ => ?_)
      refine ev_iconst (v := 1) dX12_pinWidth_50 (by decide) ?_
      refine ev_goto (tgt := 65) dX12_pinWidth_51 (by decide) ?_
      exact ev_sub [] rfl (ev_X12_pinWidth_p65 hO hP h)
    · rw [if_neg c_8] at h
      refine ev_icmp_ne (x := v_7) (y := (-1)) (tgt := 54) dX12_pinWidth_47 (by decide) (fun _ => ?_) (fun q9 => absurd q9 c_8)
      refine ev_aload_n (j := 1) (x := (some a0)) dX12_pinWidth_54 rfl rfl ?_
      refine ev_aload_n (j := 1) (x := (some a0)) dX12_pinWidth_55 rfl rfl ?_
      refine ev_get (C := RX12) (T := TX12) (k := 3) inX12 (xE_12 c_1) rfl (by decide) wd_783 (Or.inl rfl) rfl dX12_pinWidth_56 ?_
      refine ev_iload_n (j := 2) (x := v1) dX12_pinWidth_59 rfl rfl ?_
      refine ev_iload (j := 0) (x := v_7) dX12_pinWidth_60 rfl ?_
      rcases x_bind_e h with ⟨v_9, σ_10, h_11, h⟩ | ⟨E_12, σ_10, h_11, h⟩
      · have z9 := x_call (M := mX12_pinWidth) (M' := mX12_refWidth) (pc := 62) (st := [.int v_7, .int v1, .int (σ.I 1103 a0), va_rf (some a0)]) (rest := []) (av := [va_rf (some a0), .int (σ.I 1103 a0), .int v1, .int v_7]) (x_linkV (M := mX12_pinWidth) (M' := mX12_refWidth) (As := [.int (σ.I 1103 a0), .int v1, .int v_7]) (index := 277) (C := RX12) (T := TX12) (xE_12 c_1) rfl wd_772 wd_773 (wG_in (List.mem_append_left _ (List.mem_of_getElem? (i := 78) rfl)) rfl) xw_X12_refWidth rfl (by decide) rfl rfl dX12_pinWidth_62) (ev_X12_refWidth hO hP h_11) xw_X12_refWidth rfl wd_198 dX12_pinWidth_62 (by decide) (by decide) (by simp [x_cat, x_catI, x_catJ])
        refine x_callR z9 ?_
        refine ev_at (st' := [.int v_9]) rfl rfl ?_
        exact ev_sub [] rfl (ev_X12_pinWidth_p65 hO hP h)
      · have z9 := x_call (M := mX12_pinWidth) (M' := mX12_refWidth) (pc := 62) (st := [.int v_7, .int v1, .int (σ.I 1103 a0), va_rf (some a0)]) (rest := []) (av := [va_rf (some a0), .int (σ.I 1103 a0), .int v1, .int v_7]) (x_linkV (M := mX12_pinWidth) (M' := mX12_refWidth) (As := [.int (σ.I 1103 a0), .int v1, .int v_7]) (index := 277) (C := RX12) (T := TX12) (xE_12 c_1) rfl wd_772 wd_773 (wG_in (List.mem_append_left _ (List.mem_of_getElem? (i := 78) rfl)) rfl) xw_X12_refWidth rfl (by decide) rfl rfl dX12_pinWidth_62) (ev_X12_refWidth hO hP h_11) xw_X12_refWidth rfl wd_198 dX12_pinWidth_62 (by decide) (by decide) (by simp [x_cat, x_catI, x_catJ])
        cases h
        exact x_callX z9 (evX_out rfl)
  · rw [if_neg c_4] at h
    refine ev_icmp_eq (x := (σ.AI a_2 (Int32.toNatClampNeg v2))) (y := (-1)) (tgt := 31) dX12_pinWidth_7 (by decide) (fun q9 => absurd q9 c_4) (fun _ => ?_)
    refine ev_aload_n (j := 0) (x := (some a0)) dX12_pinWidth_10 rfl rfl ?_
    refine ev_get (C := RX12) (T := TX12) (k := 12) inX12 (xE_12 c_1) rfl (by decide) wd_159 (Or.inl rfl) rfl dX12_pinWidth_11 ?_
    refine ev_bipush (v := 16) dX12_pinWidth_14 (by decide) ?_
    refine ev_aload_n (j := 0) (x := (some a0)) dX12_pinWidth_16 rfl rfl ?_
    refine ev_aload_n (j := 0) (x := (some a0)) dX12_pinWidth_17 rfl rfl ?_
    refine ev_get (C := RX12) (T := TX12) (k := 28) inX12 (xE_12 c_1) rfl (by decide) wd_176 (Or.inl rfl) rfl dX12_pinWidth_18 ?_
    refine ev_iload_n (j := 2) (x := v2) dX12_pinWidth_21 rfl rfl ?_
    refine ev_at (st' := [.int v2, va_rf (some a_2), va_rf (some a0), .int 16, va_rf (σ.R 1112 a0)]) rfl (by rw [ea_2]) ?_
    refine ev_iald_31 c_3.1 c_3.2 dX12_pinWidth_22 ?_
    rcases x_bind_e h with ⟨v_13, σ_14, h_15, h⟩ | ⟨E_18, σ_14, h_15, h⟩
    · have z9 := x_call (M := mX12_pinWidth) (M' := mX12_of) (pc := 23) (st := [.int (σ.AI a_2 (Int32.toNatClampNeg v2)), va_rf (some a0), .int 16, va_rf (σ.R 1112 a0)]) (rest := [.int 16, va_rf (σ.R 1112 a0)]) (av := [va_rf (some a0), .int (σ.AI a_2 (Int32.toNatClampNeg v2))]) (x_linkV (M := mX12_pinWidth) (M' := mX12_of) (As := [.int (σ.AI a_2 (Int32.toNatClampNeg v2))]) (index := 311) (C := RX12) (T := TX12) (xE_12 c_1) rfl wd_811 wd_812 (wG_in (List.mem_append_left _ (List.mem_of_getElem? (i := 86) rfl)) rfl) xw_X12_of rfl (by decide) rfl rfl dX12_pinWidth_23) (ev_X12_of hO hP h_15) xw_X12_of rfl wd_198 dX12_pinWidth_23 (by decide) (by decide) (by simp [x_cat, x_catI, x_catJ])
      refine x_callR z9 ?_
      refine ev_at (st' := [.int v_13, .int 16, va_rf (σ.R 1112 a0)]) rfl rfl ?_
      refine ev_imul (x := 16) (y := v_13) dX12_pinWidth_26 ?_
      refine ev_iload_n (j := 3) (x := v3) dX12_pinWidth_27 rfl rfl ?_
      refine ev_iadd (x := (16 * v_13)) (y := v3) dX12_pinWidth_28 ?_
      obtain ⟨a_16, ea_16, h⟩ := x_some_e h
      refine ev_at (st' := [.int ((16 * v_13) + v3), va_rf (some a_16)]) rfl (by rw [ea_16]) ?_
      obtain ⟨c_17, h⟩ := x_chk_e h
      refine ev_iald_31 c_17.1 c_17.2 dX12_pinWidth_29 ?_
      cases h
      exact ev_iret rfl rfl dX12_pinWidth_30
    · have z9 := x_call (M := mX12_pinWidth) (M' := mX12_of) (pc := 23) (st := [.int (σ.AI a_2 (Int32.toNatClampNeg v2)), va_rf (some a0), .int 16, va_rf (σ.R 1112 a0)]) (rest := [.int 16, va_rf (σ.R 1112 a0)]) (av := [va_rf (some a0), .int (σ.AI a_2 (Int32.toNatClampNeg v2))]) (x_linkV (M := mX12_pinWidth) (M' := mX12_of) (As := [.int (σ.AI a_2 (Int32.toNatClampNeg v2))]) (index := 311) (C := RX12) (T := TX12) (xE_12 c_1) rfl wd_811 wd_812 (wG_in (List.mem_append_left _ (List.mem_of_getElem? (i := 86) rfl)) rfl) xw_X12_of rfl (by decide) rfl rfl dX12_pinWidth_23) (ev_X12_of hO hP h_15) xw_X12_of rfl wd_198 dX12_pinWidth_23 (by decide) (by decide) (by simp [x_cat, x_catI, x_catJ])
      cases h
      exact x_callX z9 (evX_out rfl)
set_option maxHeartbeats 4000000 in
set_option maxRecDepth 100000 in
theorem ev_X12_linkOf_p19 {l : Launch} {G : xG} (hO : x_OK l G) {P : xP} (hP : x_PG P G) {a0 : Nat} {v1 : Int32} {v2 : Int32} {σ σ' : xS} {rr : Int32 ⊕ String} (h : dm_X12_linkOf_p19 P a0 v1 v2 σ = some (rr, σ')) : Ev l G mX12_linkOf 19 [(0, va_rf (some a0)), (1, .int v1), (2, .int v2)] [] σ (xrI rr) σ' := by
  unfold dm_X12_linkOf_p19 at h
  refine ev_aload_n (j := 0) (x := (some a0)) dX12_linkOf_19 rfl rfl ?_
  obtain ⟨c_1, h⟩ := x_chk_e h
  refine ev_get (C := RX12) (T := TX12) (k := 30) inX12 (xE_12 c_1) rfl (by decide) wd_178 (Or.inl rfl) rfl dX12_linkOf_20 ?_
  refine ev_bipush (v := 16) dX12_linkOf_23 (by decide) ?_
  refine ev_iload_n (j := 1) (x := v1) dX12_linkOf_25 rfl rfl ?_
  refine ev_imul (x := 16) (y := v1) dX12_linkOf_26 ?_
  refine ev_iload_n (j := 2) (x := v2) dX12_linkOf_27 rfl rfl ?_
  refine ev_iadd (x := (16 * v1)) (y := v2) dX12_linkOf_28 ?_
  obtain ⟨a_2, ea_2, h⟩ := x_some_e h
  refine ev_at (st' := [.int ((16 * v1) + v2), va_rf (some a_2)]) rfl (by rw [ea_2]) ?_
  obtain ⟨c_3, h⟩ := x_chk_e h
  refine ev_iald_31 c_3.1 c_3.2 dX12_linkOf_29 ?_
  cases h
  exact ev_iret rfl rfl dX12_linkOf_30
set_option maxHeartbeats 4000000 in
set_option maxRecDepth 100000 in
theorem ev_X12_linkOf_p120 {l : Launch} {G : xG} (hO : x_OK l G) {P : xP} (hP : x_PG P G) {a0 : Nat} {k72 : Int32 → Int32 → Int32 → Int32 → Int32 → xS → xO Int32} (hk72 : ∀ {v1 : Int32} {v3 : Int32} {v4 : Int32} {v5 : Int32} {v6 : Int32} {σ σ' : xS} {rr : Int32 ⊕ String}, k72 v1 v3 v4 v5 v6 σ = some (rr, σ') → Ev l G mX12_linkOf 72 [(0, va_rf (some a0)), (1, .int v1), (3, .int v3), (4, .int v4), (5, .int v5), (6, .int v6)] [] σ (xrI rr) σ') {v1 : Int32} {v4 : Int32} {v5 : Int32} {v6 : Int32} {s0 : Int32} {σ σ' : xS} {rr : Int32 ⊕ String} (h : dm_X12_linkOf_p120 P k72 a0 v1 v4 v5 v6 s0 σ = some (rr, σ')) : Ev l G mX12_linkOf 120 [(0, va_rf (some a0)), (1, .int v1), (4, .int v4), (5, .int v5), (6, .int v6)] [.int s0] σ (xrI rr) σ' := by
  unfold dm_X12_linkOf_p120 at h
  refine ev_istore_n (i := 3) (lv' := [(3, .int s0), (0, va_rf (some a0)), (1, .int v1), (4, .int v4), (5, .int v5), (6, .int v6)]) dX12_linkOf_120 rfl (by decide) rfl ?_
  obtain ⟨v_1, ev_1, h⟩ := x_let_e h
  refine ev_iinc (j := 5) (x := v6) (v := v_1) (lv' := [(6, .int v_1), (3, .int s0), (0, va_rf (some a0)), (1, .int v1), (4, .int v4), (5, .int v5)]) dX12_linkOf_121 rfl (by rw [ev_1]; rfl) (by decide) rfl ?_
  refine ev_goto (tgt := 72) dX12_linkOf_124 (by decide) ?_
  exact ev_sub [2, 3, 1, 4, 5, 0] rfl (hk72 h)
set_option maxHeartbeats 4000000 in
set_option maxRecDepth 100000 in
theorem ev_X12_linkOf_L72 {l : Launch} {G : xG} (hO : x_OK l G) {P : xP} (hP : x_PG P G) {a0 : Nat} : ∀ (n : Nat) {v1 : Int32} {v3 : Int32} {v4 : Int32} {v5 : Int32} {v6 : Int32} {σ σ' : xS} {rr : Int32 ⊕ String}, dm_X12_linkOf_L72 P a0 n v1 v3 v4 v5 v6 σ = some (rr, σ') → Ev l G mX12_linkOf 72 [(0, va_rf (some a0)), (1, .int v1), (3, .int v3), (4, .int v4), (5, .int v5), (6, .int v6)] [] σ (xrI rr) σ' := by
  intro n
  induction n with
  | zero => intro v1 v3 v4 v5 v6 σ σ' rr h; cases h
  | succ n ih =>
    intro v1 v3 v4 v5 v6 σ σ' rr h
    rw [dm_X12_linkOf_L72] at h
    refine ev_iload (j := 5) (x := v6) dX12_linkOf_72 rfl ?_
    refine ev_aload_n (j := 0) (x := (some a0)) dX12_linkOf_74 rfl rfl ?_
    obtain ⟨c_1, h⟩ := x_chk_e h
    refine ev_get (C := RX12) (T := TX12) (k := 29) inX12 (xE_12 c_1) rfl (by decide) wd_177 (Or.inl rfl) rfl dX12_linkOf_75 ?_
    refine ev_iload_n (j := 1) (x := v1) dX12_linkOf_78 rfl rfl ?_
    obtain ⟨a_2, ea_2, h⟩ := x_some_e h
    refine ev_at (st' := [.int v1, va_rf (some a_2), .int v6]) rfl (by rw [ea_2]) ?_
    obtain ⟨c_3, h⟩ := x_chk_e h
    refine ev_iald_31 c_3.1 c_3.2 dX12_linkOf_79 ?_
    by_cases c_4 : (σ.AI a_2 (Int32.toNatClampNeg v1)) ≤ v6
    · rw [if_pos c_4] at h
      refine ev_icmp_ge (x := v6) (y := (σ.AI a_2 (Int32.toNatClampNeg v1))) (tgt := 127) dX12_linkOf_80 (by decide) (fun _ => ?_) (fun q9 => absurd c_4 q9)
      refine ev_aload_n (j := 0) (x := (some a0)) dX12_linkOf_127 rfl rfl ?_
      refine ev_iload (j := 4) (x := v5) dX12_linkOf_128 rfl ?_
      obtain ⟨c_5, h⟩ := x_chk_e h
      obtain ⟨σ_6, eσ_6, h⟩ := x_let_e h
      refine ev_put (σ2 := σ_6) (C := RX12) (T := TX12) (k := 40) inX12 tyX12 tyX12_ok nmX12 (xE_12 c_5.1) rfl (by decide) wd_638 (Or.inl rfl) rfl rfl rfl rfl (Nat.le_of_ble_eq_true rfl) (hP.2.2.2.1 ▸ c_5.2) (by rw [eσ_6]; exact xP_12_40 _ c_5.1) (by rw [eσ_6]; exact xPut_I) dX12_linkOf_130 ?_
      refine ev_iload_n (j := 2) (x := v3) dX12_linkOf_133 rfl rfl ?_
      cases h
      exact ev_iret rfl rfl dX12_linkOf_134
    · rw [if_neg c_4] at h
      refine ev_icmp_ge (x := v6) (y := (σ.AI a_2 (Int32.toNatClampNeg v1))) (tgt := 127) dX12_linkOf_80 (by decide) (fun q9 => absurd q9 c_4) (fun _ => ?_)
      refine ev_aload_n (j := 0) (x := (some a0)) dX12_linkOf_83 rfl rfl ?_
      refine ev_aload_n (j := 0) (x := (some a0)) dX12_linkOf_84 rfl rfl ?_
      refine ev_get (C := RX12) (T := TX12) (k := 31) inX12 (xE_12 c_1) rfl (by decide) wd_179 (Or.inl rfl) rfl dX12_linkOf_85 ?_
      refine ev_bipush (v := 16) dX12_linkOf_88 (by decide) ?_
      refine ev_iload_n (j := 1) (x := v1) dX12_linkOf_90 rfl rfl ?_
      refine ev_imul (x := 16) (y := v1) dX12_linkOf_91 ?_
      refine ev_iload (j := 5) (x := v6) dX12_linkOf_92 rfl ?_
      refine ev_iadd (x := (16 * v1)) (y := v6) dX12_linkOf_94 ?_
      obtain ⟨a_7, ea_7, h⟩ := x_some_e h
      refine ev_at (st' := [.int ((16 * v1) + v6), va_rf (some a_7), va_rf (some a0)]) rfl (by rw [ea_7]) ?_
      obtain ⟨c_8, h⟩ := x_chk_e h
      refine ev_iald_31 c_8.1 c_8.2 dX12_linkOf_95 ?_
      refine ev_iload (j := 3) (x := v4) dX12_linkOf_96 rfl ?_
      rcases x_bind_e h with ⟨v_9, σ_10, h_11, h⟩ | ⟨E_16, σ_10, h_11, h⟩
      · have z9 := x_call (M := mX12_linkOf) (M' := mX12_areSame) (pc := 98) (st := [.int v4, .int (σ.AI a_7 (Int32.toNatClampNeg ((16 * v1) + v6))), va_rf (some a0)]) (rest := []) (av := [va_rf (some a0), .int (σ.AI a_7 (Int32.toNatClampNeg ((16 * v1) + v6))), .int v4]) (x_linkV (M := mX12_linkOf) (M' := mX12_areSame) (As := [.int (σ.AI a_7 (Int32.toNatClampNeg ((16 * v1) + v6))), .int v4]) (index := 181) (C := RX12) (T := TX12) (xE_12 c_1) rfl wd_673 wd_674 (wG_in (List.mem_append_left _ (List.mem_of_getElem? (i := 46) rfl)) rfl) xw_X12_areSame rfl (by decide) rfl rfl dX12_linkOf_98) (ev_X12_areSame hO hP h_11) xw_X12_areSame rfl wd_198 dX12_linkOf_98 (by decide) (by decide) (by simp [x_cat, x_catI, x_catJ])
        refine x_callR z9 ?_
        refine ev_at (st' := [.int v_9]) rfl rfl ?_
        by_cases c_12 : v_9 = 0
        · rw [if_pos c_12] at h
          refine ev_if_eq (x := v_9) (tgt := 119) dX12_linkOf_101 (by decide) (fun _ => ?_) (fun q9 => absurd c_12 q9)
          refine ev_iload_n (j := 2) (x := v3) dX12_linkOf_119 rfl rfl ?_
          exact ev_sub [0, 1, 3, 4, 5] rfl (ev_X12_linkOf_p120 hO hP ih h)
        · rw [if_neg c_12] at h
          refine ev_if_eq (x := v_9) (tgt := 119) dX12_linkOf_101 (by decide) (fun q9 => absurd q9 c_12) (fun _ => ?_)
          refine ev_aload_n (j := 0) (x := (some a0)) dX12_linkOf_104 rfl rfl ?_
          obtain ⟨c_13, h⟩ := x_chk_e h
          refine ev_get (C := RX12) (T := TX12) (k := 30) inX12 (xE_12 c_13) rfl (by decide) wd_178 (Or.inl rfl) rfl dX12_linkOf_105 ?_
          refine ev_bipush (v := 16) dX12_linkOf_108 (by decide) ?_
          refine ev_iload_n (j := 1) (x := v1) dX12_linkOf_110 rfl rfl ?_
          refine ev_imul (x := 16) (y := v1) dX12_linkOf_111 ?_
          refine ev_iload (j := 5) (x := v6) dX12_linkOf_112 rfl ?_
          refine ev_iadd (x := (16 * v1)) (y := v6) dX12_linkOf_114 ?_
          obtain ⟨a_14, ea_14, h⟩ := x_some_e h
          refine ev_at (st' := [.int ((16 * v1) + v6), va_rf (some a_14)]) rfl (by rw [ea_14]) ?_
          obtain ⟨c_15, h⟩ := x_chk_e h
          refine ev_iald_31 c_15.1 c_15.2 dX12_linkOf_115 ?_
          refine ev_goto (tgt := 120) dX12_linkOf_116 (by decide) ?_
          exact ev_sub [0, 1, 3, 4, 5] rfl (ev_X12_linkOf_p120 hO hP ih h)
      · have z9 := x_call (M := mX12_linkOf) (M' := mX12_areSame) (pc := 98) (st := [.int v4, .int (σ.AI a_7 (Int32.toNatClampNeg ((16 * v1) + v6))), va_rf (some a0)]) (rest := []) (av := [va_rf (some a0), .int (σ.AI a_7 (Int32.toNatClampNeg ((16 * v1) + v6))), .int v4]) (x_linkV (M := mX12_linkOf) (M' := mX12_areSame) (As := [.int (σ.AI a_7 (Int32.toNatClampNeg ((16 * v1) + v6))), .int v4]) (index := 181) (C := RX12) (T := TX12) (xE_12 c_1) rfl wd_673 wd_674 (wG_in (List.mem_append_left _ (List.mem_of_getElem? (i := 46) rfl)) rfl) xw_X12_areSame rfl (by decide) rfl rfl dX12_linkOf_98) (ev_X12_areSame hO hP h_11) xw_X12_areSame rfl wd_198 dX12_linkOf_98 (by decide) (by decide) (by simp [x_cat, x_catI, x_catJ])
        cases h
        exact x_callX z9 (evX_out rfl)
set_option maxHeartbeats 4000000 in
set_option maxRecDepth 100000 in
theorem ev_X12_linkOf {l : Launch} {G : xG} (hO : x_OK l G) {P : xP} (hP : x_PG P G) {a0 : Nat} {v1 : Int32} {v2 : Int32} {σ σ' : xS} {rr : Int32 ⊕ String} (h : dm_X12_linkOf P a0 v1 v2 σ = some (rr, σ')) : EvM l G mX12_linkOf [va_rf (some a0), .int v1, .int v2] σ (xrI rr) σ' := by
  unfold dm_X12_linkOf at h
  refine evM_of hO (by decide +kernel) (x_lenI (by simp [x_cat, x_catI, x_catJ, mX12_linkOf, xM.maxL])) ?_
  refine Eq.mp (congrArg (fun z => Ev l G mX12_linkOf 0 z [] σ (xrI rr) σ') (show [(0, va_rf (some a0)), (1, .int v1), (2, .int v2)] = lv_args 0 [va_rf (some a0), .int v1, .int v2] by simp [lv_args, x_cat, x_catI, x_catJ])) ?_
  refine ev_aload_n (j := 0) (x := (some a0)) dX12_linkOf_0 rfl rfl ?_
  obtain ⟨c_1, h⟩ := x_chk_e h
  refine ev_get (C := RX12) (T := TX12) (k := 28) inX12 (xE_12 c_1) rfl (by decide) wd_176 (Or.inl rfl) rfl dX12_linkOf_1 ?_
  refine ev_iload_n (j := 1) (x := v1) dX12_linkOf_4 rfl rfl ?_
  obtain ⟨a_2, ea_2, h⟩ := x_some_e h
  refine ev_at (st' := [.int v1, va_rf (some a_2)]) rfl (by rw [ea_2]) ?_
  obtain ⟨c_3, h⟩ := x_chk_e h
  refine ev_iald_31 c_3.1 c_3.2 dX12_linkOf_5 ?_
  refine ev_iconst (v := -1) dX12_linkOf_6 (by decide) ?_
  by_cases c_4 : (σ.AI a_2 (Int32.toNatClampNeg v1)) = (-1)
  · rw [if_pos c_4] at h
    refine ev_icmp_eq (x := (σ.AI a_2 (Int32.toNatClampNeg v1))) (y := (-1)) (tgt := 19) dX12_linkOf_7 (by decide) (fun _ => ?_) (fun q9 => absurd c_4 q9)
    exact ev_sub [0, 1, 2] rfl (ev_X12_linkOf_p19 hO hP h)
  · rw [if_neg c_4] at h
    refine ev_icmp_eq (x := (σ.AI a_2 (Int32.toNatClampNeg v1))) (y := (-1)) (tgt := 19) dX12_linkOf_7 (by decide) (fun q9 => absurd q9 c_4) (fun _ => ?_)
    refine ev_aload_n (j := 0) (x := (some a0)) dX12_linkOf_10 rfl rfl ?_
    refine ev_get (C := RX12) (T := TX12) (k := 27) inX12 (xE_12 c_1) rfl (by decide) wd_175 (Or.inl rfl) rfl dX12_linkOf_11 ?_
    refine ev_iload_n (j := 1) (x := v1) dX12_linkOf_14 rfl rfl ?_
    obtain ⟨a_5, ea_5, h⟩ := x_some_e h
    refine ev_at (st' := [.int v1, va_rf (some a_5)]) rfl (by rw [ea_5]) ?_
    obtain ⟨c_6, h⟩ := x_chk_e h
    refine ev_zald_33 c_6.1 c_6.2 dX12_linkOf_15 ?_
    by_cases c_7 : (σ.AI a_5 (Int32.toNatClampNeg v1)) = 0
    · rw [if_pos c_7] at h
      refine ev_if_ne (x := (σ.AI a_5 (Int32.toNatClampNeg v1))) (tgt := 31) dX12_linkOf_16 (by decide) (fun q9 => absurd c_7 q9) (fun _ => ?_)
      exact ev_sub [0, 1, 2] rfl (ev_X12_linkOf_p19 hO hP h)
    · rw [if_neg c_7] at h
      refine ev_if_ne (x := (σ.AI a_5 (Int32.toNatClampNeg v1))) (tgt := 31) dX12_linkOf_16 (by decide) (fun _ => ?_) (fun q9 => absurd q9 c_7)
      refine ev_iconst (v := -1) dX12_linkOf_31 (by decide) ?_
      refine ev_istore_n (i := 3) (lv' := [(3, .int (-1)), (0, va_rf (some a0)), (1, .int v1), (2, .int v2)]) dX12_linkOf_32 rfl (by decide) rfl ?_
      refine ev_aload_n (j := 1) (x := (some a0)) dX12_linkOf_33 rfl rfl ?_
      refine ev_get (C := RX12) (T := TX12) (k := 10) inX12 (xE_12 c_1) rfl (by decide) wd_157 (Or.inl rfl) rfl dX12_linkOf_34 ?_
      refine ev_bipush (v := 16) dX12_linkOf_37 (by decide) ?_
      refine ev_aload_n (j := 1) (x := (some a0)) dX12_linkOf_39 rfl rfl ?_
      refine ev_aload_n (j := 1) (x := (some a0)) dX12_linkOf_40 rfl rfl ?_
      refine ev_get (C := RX12) (T := TX12) (k := 28) inX12 (xE_12 c_1) rfl (by decide) wd_176 (Or.inl rfl) rfl dX12_linkOf_41 ?_
      refine ev_iload_n (j := 2) (x := v1) dX12_linkOf_44 rfl rfl ?_
      refine ev_at (st' := [.int v1, va_rf (some a_2), va_rf (some a0), .int 16, va_rf (σ.R 1110 a0)]) rfl (by rw [ea_2]) ?_
      refine ev_iald_31 c_3.1 c_3.2 dX12_linkOf_45 ?_
      rcases x_bind_e h with ⟨v_8, σ_9, h_10, h⟩ | ⟨E_18, σ_9, h_10, h⟩
      · have z9 := x_call (M := mX12_linkOf) (M' := mX12_of) (pc := 46) (st := [.int (σ.AI a_2 (Int32.toNatClampNeg v1)), va_rf (some a0), .int 16, va_rf (σ.R 1110 a0)]) (rest := [.int 16, va_rf (σ.R 1110 a0)]) (av := [va_rf (some a0), .int (σ.AI a_2 (Int32.toNatClampNeg v1))]) (x_linkV (M := mX12_linkOf) (M' := mX12_of) (As := [.int (σ.AI a_2 (Int32.toNatClampNeg v1))]) (index := 311) (C := RX12) (T := TX12) (xE_12 c_1) rfl wd_811 wd_812 (wG_in (List.mem_append_left _ (List.mem_of_getElem? (i := 86) rfl)) rfl) xw_X12_of rfl (by decide) rfl rfl dX12_linkOf_46) (ev_X12_of hO hP h_10) xw_X12_of rfl wd_198 dX12_linkOf_46 (by decide) (by decide) (by simp [x_cat, x_catI, x_catJ])
        refine x_callR z9 ?_
        refine ev_at (st' := [.int v_8, .int 16, va_rf (σ.R 1110 a0)]) rfl rfl ?_
        refine ev_imul (x := 16) (y := v_8) dX12_linkOf_49 ?_
        refine ev_iload_n (j := 3) (x := v2) dX12_linkOf_50 rfl rfl ?_
        refine ev_iadd (x := (16 * v_8)) (y := v2) dX12_linkOf_51 ?_
        obtain ⟨a_11, ea_11, h⟩ := x_some_e h
        refine ev_at (st' := [.int ((16 * v_8) + v2), va_rf (some a_11)]) rfl (by rw [ea_11]) ?_
        obtain ⟨c_12, h⟩ := x_chk_e h
        refine ev_iald_31 c_12.1 c_12.2 dX12_linkOf_52 ?_
        obtain ⟨v_13, ev_13, h⟩ := x_let_e h
        rw [← ev_13]
        refine ev_istore (i := 4) (lv' := [(4, .int v_13), (3, .int (-1)), (0, va_rf (some a0)), (1, .int v1), (2, .int v2)]) dX12_linkOf_53 (by decide) rfl ?_
        refine ev_aload_n (j := 2) (x := (some a0)) dX12_linkOf_55 rfl rfl ?_
        obtain ⟨c_14, h⟩ := x_chk_e h
        refine ev_get (C := RX12) (T := TX12) (k := 40) inX12 (xE_12 c_14) rfl (by decide) wd_638 (Or.inl rfl) rfl dX12_linkOf_56 ?_
        obtain ⟨v_15, ev_15, h⟩ := x_let_e h
        rw [← ev_15]
        refine ev_istore (i := 5) (lv' := [(5, .int v_15), (4, .int v_13), (3, .int (-1)), (0, va_rf (some a0)), (1, .int v1), (2, .int v2)]) dX12_linkOf_59 (by decide) rfl ?_
        refine ev_aload_n (j := 3) (x := (some a0)) dX12_linkOf_61 rfl rfl ?_
        refine ev_aload_n (j := 3) (x := (some a0)) dX12_linkOf_62 rfl rfl ?_
        refine ev_get (C := RX12) (T := TX12) (k := 3) inX12 (xE_12 c_14) rfl (by decide) wd_783 (Or.inl rfl) rfl dX12_linkOf_63 ?_
        obtain ⟨c_16, h⟩ := x_chk_e h
        obtain ⟨σ_17, eσ_17, h⟩ := x_let_e h
        refine ev_put (σ2 := σ_17) (C := RX12) (T := TX12) (k := 40) inX12 tyX12 tyX12_ok nmX12 (xE_12 c_16.1) rfl (by decide) wd_638 (Or.inl rfl) rfl rfl rfl rfl (Nat.le_of_ble_eq_true rfl) (hP.2.2.2.1 ▸ c_16.2) (by rw [eσ_17]; exact xP_12_40 _ c_16.1) (by rw [eσ_17]; exact xPut_I) dX12_linkOf_66 ?_
        refine ev_iconst (v := 0) dX12_linkOf_69 (by decide) ?_
        refine ev_istore (i := 6) (lv' := [(6, .int 0), (5, .int v_15), (4, .int v_13), (3, .int (-1)), (0, va_rf (some a0)), (1, .int v1), (2, .int v2)]) dX12_linkOf_70 (by decide) rfl ?_
        exact ev_sub [4, 5, 3, 2, 1, 0] rfl (ev_X12_linkOf_L72 hO hP P.N h)
      · have z9 := x_call (M := mX12_linkOf) (M' := mX12_of) (pc := 46) (st := [.int (σ.AI a_2 (Int32.toNatClampNeg v1)), va_rf (some a0), .int 16, va_rf (σ.R 1110 a0)]) (rest := [.int 16, va_rf (σ.R 1110 a0)]) (av := [va_rf (some a0), .int (σ.AI a_2 (Int32.toNatClampNeg v1))]) (x_linkV (M := mX12_linkOf) (M' := mX12_of) (As := [.int (σ.AI a_2 (Int32.toNatClampNeg v1))]) (index := 311) (C := RX12) (T := TX12) (xE_12 c_1) rfl wd_811 wd_812 (wG_in (List.mem_append_left _ (List.mem_of_getElem? (i := 86) rfl)) rfl) xw_X12_of rfl (by decide) rfl rfl dX12_linkOf_46) (ev_X12_of hO hP h_10) xw_X12_of rfl wd_198 dX12_linkOf_46 (by decide) (by decide) (by simp [x_cat, x_catI, x_catJ])
        cases h
        exact x_callX z9 (evX_out rfl)
set_option maxHeartbeats 4000000 in
set_option maxRecDepth 100000 in
theorem ev_X12_refPlaceOf {l : Launch} {G : xG} (hO : x_OK l G) {P : xP} (hP : x_PG P G) {a0 : Nat} {v1 : Int32} {σ σ' : xS} {rr : Int32 ⊕ String} (h : dm_X12_refPlaceOf P a0 v1 σ = some (rr, σ')) : EvM l G mX12_refPlaceOf [va_rf (some a0), .int v1] σ (xrI rr) σ' := by
  unfold dm_X12_refPlaceOf at h
  refine evM_of hO (by decide +kernel) (x_lenI (by simp [x_cat, x_catI, x_catJ, mX12_refPlaceOf, xM.maxL])) ?_
  refine Eq.mp (congrArg (fun z => Ev l G mX12_refPlaceOf 0 z [] σ (xrI rr) σ') (show [(0, va_rf (some a0)), (1, .int v1)] = lv_args 0 [va_rf (some a0), .int v1] by simp [lv_args, x_cat, x_catI, x_catJ])) ?_
  refine ev_aload_n (j := 0) (x := (some a0)) dX12_refPlaceOf_0 rfl rfl ?_
  obtain ⟨c_1, h⟩ := x_chk_e h
  refine ev_get (C := RX12) (T := TX12) (k := 19) inX12 (xE_12 c_1) rfl (by decide) wd_167 (Or.inl rfl) rfl dX12_refPlaceOf_1 ?_
  refine ev_iload_n (j := 1) (x := v1) dX12_refPlaceOf_4 rfl rfl ?_
  obtain ⟨a_2, ea_2, h⟩ := x_some_e h
  refine ev_at (st' := [.int v1, va_rf (some a_2)]) rfl (by rw [ea_2]) ?_
  obtain ⟨c_3, h⟩ := x_chk_e h
  refine ev_iald_31 c_3.1 c_3.2 dX12_refPlaceOf_5 ?_
  cases h
  exact ev_iret rfl rfl dX12_refPlaceOf_6
set_option maxHeartbeats 4000000 in
set_option maxRecDepth 100000 in
theorem ev_X12_bitOf_p57 {l : Launch} {G : xG} (hO : x_OK l G) {P : xP} (hP : x_PG P G) {a0 : Nat} {s0 : Int32} {σ σ' : xS} {rr : Int32 ⊕ String} (h : dm_X12_bitOf_p57 P a0 s0 σ = some (rr, σ')) : Ev l G mX12_bitOf 57 [] [.int s0] σ (xrI rr) σ' := by
  unfold dm_X12_bitOf_p57 at h
  cases h
  exact ev_iret rfl rfl dX12_bitOf_57
set_option maxHeartbeats 4000000 in
set_option maxRecDepth 100000 in
theorem ev_X12_bitOf_p99 {l : Launch} {G : xG} (hO : x_OK l G) {P : xP} (hP : x_PG P G) {a0 : Nat} {s0 : Int32} {s1 : Int32} {σ σ' : xS} {rr : Int32 ⊕ String} (h : dm_X12_bitOf_p99 P a0 s0 s1 σ = some (rr, σ')) : Ev l G mX12_bitOf 99 [] [.int s1, .int s0] σ (xrI rr) σ' := by
  unfold dm_X12_bitOf_p99 at h
  refine ev_iadd (x := s0) (y := s1) dX12_bitOf_99 ?_
  cases h
  exact ev_iret rfl rfl dX12_bitOf_100
set_option maxHeartbeats 4000000 in
set_option maxRecDepth 100000 in
theorem ev_X12_bitOf {l : Launch} {G : xG} (hO : x_OK l G) {P : xP} (hP : x_PG P G) {a0 : Nat} {v1 : Int32} {v2 : Int32} {v3 : Int32} {σ σ' : xS} {rr : Int32 ⊕ String} (h : dm_X12_bitOf P a0 v1 v2 v3 σ = some (rr, σ')) : EvM l G mX12_bitOf [va_rf (some a0), .int v1, .int v2, .int v3] σ (xrI rr) σ' := by
  unfold dm_X12_bitOf at h
  refine evM_of hO (by decide +kernel) (x_lenI (by simp [x_cat, x_catI, x_catJ, mX12_bitOf, xM.maxL])) ?_
  refine Eq.mp (congrArg (fun z => Ev l G mX12_bitOf 0 z [] σ (xrI rr) σ') (show [(0, va_rf (some a0)), (1, .int v1), (2, .int v2), (3, .int v3)] = lv_args 0 [va_rf (some a0), .int v1, .int v2, .int v3] by simp [lv_args, x_cat, x_catI, x_catJ])) ?_
  refine ev_iload_n (j := 2) (x := v2) dX12_bitOf_0 rfl rfl ?_
  refine ev_iconst (v := -1) dX12_bitOf_1 (by decide) ?_
  by_cases c_1 : v2 = (-1)
  · rw [if_pos c_1] at h
    refine ev_icmp_ne (x := v2) (y := (-1)) (tgt := 7) dX12_bitOf_2 (by decide) (fun q9 => absurd c_1 q9) (fun _ => ?_)
    refine ev_iconst (v := -1) dX12_bitOf_5 (by decide) ?_
    cases h
    exact ev_iret rfl rfl dX12_bitOf_6
  · rw [if_neg c_1] at h
    refine ev_icmp_ne (x := v2) (y := (-1)) (tgt := 7) dX12_bitOf_2 (by decide) (fun _ => ?_) (fun q9 => absurd q9 c_1)
    refine ev_aload_n (j := 0) (x := (some a0)) dX12_bitOf_7 rfl rfl ?_
    obtain ⟨c_2, h⟩ := x_chk_e h
    refine ev_get (C := RX12) (T := TX12) (k := 17) inX12 (xE_12 c_2) rfl (by decide) wd_165 (Or.inl rfl) rfl dX12_bitOf_8 ?_
    refine ev_iload_n (j := 2) (x := v2) dX12_bitOf_11 rfl rfl ?_
    obtain ⟨a_3, ea_3, h⟩ := x_some_e h
    refine ev_at (st' := [.int v2, va_rf (some a_3)]) rfl (by rw [ea_3]) ?_
    obtain ⟨c_4, h⟩ := x_chk_e h
    refine ev_iald_31 c_4.1 c_4.2 dX12_bitOf_12 ?_
    refine ev_iconst (v := 3) dX12_bitOf_13 (by decide) ?_
    by_cases c_5 : (σ.AI a_3 (Int32.toNatClampNeg v2)) = 3
    · rw [if_pos c_5] at h
      refine ev_icmp_ne (x := (σ.AI a_3 (Int32.toNatClampNeg v2))) (y := 3) (tgt := 58) dX12_bitOf_14 (by decide) (fun q9 => absurd c_5 q9) (fun _ => ?_)
      refine ev_aload_n (j := 0) (x := (some a0)) dX12_bitOf_17 rfl rfl ?_
      refine ev_get (C := RX12) (T := TX12) (k := 4) inX12 (xE_12 c_2) rfl (by decide) wd_151 (Or.inl rfl) rfl dX12_bitOf_18 ?_
      refine ev_sipush (v := 1000) dX12_bitOf_21 (by decide) ?_
      refine ev_aload_n (j := 0) (x := (some a0)) dX12_bitOf_24 rfl rfl ?_
      refine ev_get (C := RX12) (T := TX12) (k := 3) inX12 (xE_12 c_2) rfl (by decide) wd_783 (Or.inl rfl) rfl dX12_bitOf_25 ?_
      refine ev_imul (x := 1000) (y := (σ.I 1103 a0)) dX12_bitOf_28 ?_
      refine ev_aload_n (j := 0) (x := (some a0)) dX12_bitOf_29 rfl rfl ?_
      refine ev_iload_n (j := 2) (x := v2) dX12_bitOf_30 rfl rfl ?_
      rcases x_bind_e h with ⟨v_14, σ_15, h_16, h⟩ | ⟨E_23, σ_15, h_16, h⟩
      · have z9 := x_call (M := mX12_bitOf) (M' := mX12_refPlaceOf) (pc := 31) (st := [.int v2, va_rf (some a0), .int (1000 * (σ.I 1103 a0)), va_rf (σ.R 1104 a0)]) (rest := [.int (1000 * (σ.I 1103 a0)), va_rf (σ.R 1104 a0)]) (av := [va_rf (some a0), .int v2]) (x_linkV (M := mX12_bitOf) (M' := mX12_refPlaceOf) (As := [.int v2]) (index := 323) (C := RX12) (T := TX12) (xE_12 c_2) rfl wd_834 wd_835 (wG_in (List.mem_append_left _ (List.mem_of_getElem? (i := 93) rfl)) rfl) xw_X12_refPlaceOf rfl (by decide) rfl rfl dX12_bitOf_31) (ev_X12_refPlaceOf hO hP h_16) xw_X12_refPlaceOf rfl wd_198 dX12_bitOf_31 (by decide) (by decide) (by simp [x_cat, x_catI, x_catJ])
        refine x_callR z9 ?_
        refine ev_at (st' := [.int v_14, .int (1000 * (σ.I 1103 a0)), va_rf (σ.R 1104 a0)]) rfl rfl ?_
        refine ev_iadd (x := (1000 * (σ.I 1103 a0))) (y := v_14) dX12_bitOf_34 ?_
        refine ev_aload_n (j := 0) (x := (some a0)) dX12_bitOf_35 rfl rfl ?_
        obtain ⟨c_17, h⟩ := x_chk_e h
        refine ev_get (C := RX12) (T := TX12) (k := 20) inX12 (xE_12 c_17) rfl (by decide) wd_168 (Or.inl rfl) rfl dX12_bitOf_36 ?_
        refine ev_iload_n (j := 2) (x := v2) dX12_bitOf_39 rfl rfl ?_
        obtain ⟨a_18, ea_18, h⟩ := x_some_e h
        refine ev_at (st' := [.int v2, va_rf (some a_18), .int ((1000 * (σ.I 1103 a0)) + v_14), va_rf (σ.R 1104 a0)]) rfl (by rw [ea_18]) ?_
        obtain ⟨c_19, h⟩ := x_chk_e h
        refine ev_iald_31 c_19.1 c_19.2 dX12_bitOf_40 ?_
        refine ev_iadd (x := ((1000 * (σ.I 1103 a0)) + v_14)) (y := (σ_15.AI a_18 (Int32.toNatClampNeg v2))) dX12_bitOf_41 ?_
        refine ev_iload_n (j := 3) (x := v3) dX12_bitOf_42 rfl rfl ?_
        refine ev_isub (x := (((1000 * (σ.I 1103 a0)) + v_14) + (σ_15.AI a_18 (Int32.toNatClampNeg v2)))) (y := v3) dX12_bitOf_43 ?_
        obtain ⟨a_20, ea_20, h⟩ := x_some_e h
        refine ev_at (st' := [.int ((((1000 * (σ.I 1103 a0)) + v_14) + (σ_15.AI a_18 (Int32.toNatClampNeg v2))) - v3), va_rf (some a_20)]) rfl (by rw [ea_20]) ?_
        obtain ⟨c_21, h⟩ := x_chk_e h
        refine ev_iald_31 c_21.1 c_21.2 dX12_bitOf_44 ?_
        refine ev_bipush (v := 49) dX12_bitOf_45 (by decide) ?_
        by_cases c_22 : (σ_15.AI a_20 (Int32.toNatClampNeg ((((1000 * (σ.I 1103 a0)) + v_14) + (σ_15.AI a_18 (Int32.toNatClampNeg v2))) - v3))) = 49
        · rw [if_pos c_22] at h
          refine ev_icmp_ne (x := (σ_15.AI a_20 (Int32.toNatClampNeg ((((1000 * (σ.I 1103 a0)) + v_14) + (σ_15.AI a_18 (Int32.toNatClampNeg v2))) - v3)))) (y := 49) (tgt := 55) dX12_bitOf_47 (by decide) (fun q9 => absurd c_22 q9) (fun _ => ?_)
          refine ev_bipush (v := -3) dX12_bitOf_50 (by decide) ?_
          refine ev_goto (tgt := 57) dX12_bitOf_52 (by decide) ?_
          exact ev_sub [] rfl (ev_X12_bitOf_p57 hO hP h)
        · rw [if_neg c_22] at h
          refine ev_icmp_ne (x := (σ_15.AI a_20 (Int32.toNatClampNeg ((((1000 * (σ.I 1103 a0)) + v_14) + (σ_15.AI a_18 (Int32.toNatClampNeg v2))) - v3)))) (y := 49) (tgt := 55) dX12_bitOf_47 (by decide) (fun _ => ?_) (fun q9 => absurd q9 c_22)
          refine ev_bipush (v := -2) dX12_bitOf_55 (by decide) ?_
          exact ev_sub [] rfl (ev_X12_bitOf_p57 hO hP h)
      · have z9 := x_call (M := mX12_bitOf) (M' := mX12_refPlaceOf) (pc := 31) (st := [.int v2, va_rf (some a0), .int (1000 * (σ.I 1103 a0)), va_rf (σ.R 1104 a0)]) (rest := [.int (1000 * (σ.I 1103 a0)), va_rf (σ.R 1104 a0)]) (av := [va_rf (some a0), .int v2]) (x_linkV (M := mX12_bitOf) (M' := mX12_refPlaceOf) (As := [.int v2]) (index := 323) (C := RX12) (T := TX12) (xE_12 c_2) rfl wd_834 wd_835 (wG_in (List.mem_append_left _ (List.mem_of_getElem? (i := 93) rfl)) rfl) xw_X12_refPlaceOf rfl (by decide) rfl rfl dX12_bitOf_31) (ev_X12_refPlaceOf hO hP h_16) xw_X12_refPlaceOf rfl wd_198 dX12_bitOf_31 (by decide) (by decide) (by simp [x_cat, x_catI, x_catJ])
        cases h
        exact x_callX z9 (evX_out rfl)
    · rw [if_neg c_5] at h
      refine ev_icmp_ne (x := (σ.AI a_3 (Int32.toNatClampNeg v2))) (y := 3) (tgt := 58) dX12_bitOf_14 (by decide) (fun _ => ?_) (fun q9 => absurd q9 c_5)
      refine ev_aload_n (j := 0) (x := (some a0)) dX12_bitOf_58 rfl rfl ?_
      refine ev_get (C := RX12) (T := TX12) (k := 13) inX12 (xE_12 c_2) rfl (by decide) wd_160 (Or.inl rfl) rfl dX12_bitOf_59 ?_
      refine ev_bipush (v := 16) dX12_bitOf_62 (by decide) ?_
      refine ev_iload_n (j := 1) (x := v1) dX12_bitOf_64 rfl rfl ?_
      refine ev_imul (x := 16) (y := v1) dX12_bitOf_65 ?_
      refine ev_aload_n (j := 0) (x := (some a0)) dX12_bitOf_66 rfl rfl ?_
      refine ev_get (C := RX12) (T := TX12) (k := 18) inX12 (xE_12 c_2) rfl (by decide) wd_166 (Or.inl rfl) rfl dX12_bitOf_67 ?_
      refine ev_iload_n (j := 2) (x := v2) dX12_bitOf_70 rfl rfl ?_
      obtain ⟨a_6, ea_6, h⟩ := x_some_e h
      refine ev_at (st' := [.int v2, va_rf (some a_6), .int (16 * v1), va_rf (σ.R 1113 a0)]) rfl (by rw [ea_6]) ?_
      obtain ⟨c_7, h⟩ := x_chk_e h
      refine ev_iald_31 c_7.1 c_7.2 dX12_bitOf_71 ?_
      refine ev_iadd (x := (16 * v1)) (y := (σ.AI a_6 (Int32.toNatClampNeg v2))) dX12_bitOf_72 ?_
      obtain ⟨a_8, ea_8, h⟩ := x_some_e h
      refine ev_at (st' := [.int ((16 * v1) + (σ.AI a_6 (Int32.toNatClampNeg v2))), va_rf (some a_8)]) rfl (by rw [ea_8]) ?_
      obtain ⟨c_9, h⟩ := x_chk_e h
      refine ev_iald_31 c_9.1 c_9.2 dX12_bitOf_73 ?_
      obtain ⟨v_10, ev_10, h⟩ := x_let_e h
      rw [← ev_10]
      refine ev_istore (i := 4) (lv' := [(4, .int v_10), (0, va_rf (some a0)), (1, .int v1), (2, .int v2), (3, .int v3)]) dX12_bitOf_74 (by decide) rfl ?_
      refine ev_iload (j := 0) (x := v_10) dX12_bitOf_76 rfl ?_
      refine ev_iload_n (j := 4) (x := v3) dX12_bitOf_78 rfl rfl ?_
      refine ev_iadd (x := v_10) (y := v3) dX12_bitOf_79 ?_
      refine ev_aload_n (j := 1) (x := (some a0)) dX12_bitOf_80 rfl rfl ?_
      refine ev_get (C := RX12) (T := TX12) (k := 17) inX12 (xE_12 c_2) rfl (by decide) wd_165 (Or.inl rfl) rfl dX12_bitOf_81 ?_
      refine ev_iload_n (j := 3) (x := v2) dX12_bitOf_84 rfl rfl ?_
      refine ev_at (st' := [.int v2, va_rf (some a_3), .int (v_10 + v3)]) rfl (by rw [ea_3]) ?_
      refine ev_iald_31 c_4.1 c_4.2 dX12_bitOf_85 ?_
      by_cases c_11 : (σ.AI a_3 (Int32.toNatClampNeg v2)) = 0
      · rw [if_pos c_11] at h
        refine ev_if_ne (x := (σ.AI a_3 (Int32.toNatClampNeg v2))) (tgt := 93) dX12_bitOf_86 (by decide) (fun q9 => absurd c_11 q9) (fun _ => ?_)
        refine ev_iconst (v := 0) dX12_bitOf_89 (by decide) ?_
        refine ev_goto (tgt := 99) dX12_bitOf_90 (by decide) ?_
        exact ev_sub [] rfl (ev_X12_bitOf_p99 hO hP h)
      · rw [if_neg c_11] at h
        refine ev_if_ne (x := (σ.AI a_3 (Int32.toNatClampNeg v2))) (tgt := 93) dX12_bitOf_86 (by decide) (fun _ => ?_) (fun q9 => absurd q9 c_11)
        refine ev_aload_n (j := 1) (x := (some a0)) dX12_bitOf_93 rfl rfl ?_
        refine ev_get (C := RX12) (T := TX12) (k := 20) inX12 (xE_12 c_2) rfl (by decide) wd_168 (Or.inl rfl) rfl dX12_bitOf_94 ?_
        refine ev_iload_n (j := 3) (x := v2) dX12_bitOf_97 rfl rfl ?_
        obtain ⟨a_12, ea_12, h⟩ := x_some_e h
        refine ev_at (st' := [.int v2, va_rf (some a_12), .int (v_10 + v3)]) rfl (by rw [ea_12]) ?_
        obtain ⟨c_13, h⟩ := x_chk_e h
        refine ev_iald_31 c_13.1 c_13.2 dX12_bitOf_98 ?_
        exact ev_sub [] rfl (ev_X12_bitOf_p99 hO hP h)
set_option maxHeartbeats 4000000 in
set_option maxRecDepth 100000 in
theorem ev_X12_joined_p120 {l : Launch} {G : xG} (hO : x_OK l G) {P : xP} (hP : x_PG P G) {a0 : Nat} {s0 : Int32} {σ σ' : xS} {rr : Int32 ⊕ String} (h : dm_X12_joined_p120 P a0 s0 σ = some (rr, σ')) : Ev l G mX12_joined 120 [] [.int s0] σ (xrI rr) σ' := by
  unfold dm_X12_joined_p120 at h
  cases h
  exact ev_iret rfl rfl dX12_joined_120
set_option maxHeartbeats 4000000 in
set_option maxRecDepth 100000 in
theorem ev_X12_joined_p88 {l : Launch} {G : xG} (hO : x_OK l G) {P : xP} (hP : x_PG P G) {a0 : Nat} {v1 : Int32} {v3 : Int32} {v4 : Int32} {v6 : Int32} {s0 : Option Nat} {s1 : Int32} {σ σ' : xS} {rr : Int32 ⊕ String} (h : dm_X12_joined_p88 P a0 v1 v3 v4 v6 s0 s1 σ = some (rr, σ')) : Ev l G mX12_joined 88 [(0, va_rf (some a0)), (1, .int v1), (3, .int v3), (4, .int v4), (6, .int v6)] [.int s1, va_rf s0] σ (xrI rr) σ' := by
  unfold dm_X12_joined_p88 at h
  obtain ⟨a_1, ea_1, h⟩ := x_some_e h
  refine ev_at (st' := [.int s1, va_rf (some a_1)]) rfl (by rw [ea_1]) ?_
  obtain ⟨c_2, h⟩ := x_chk_e h
  obtain ⟨σ_3, eσ_3, h⟩ := x_let_e h
  refine ev_put (σ2 := σ_3) (C := RX12) (T := TX12) (k := 0) inX12 tyX12 tyX12_ok nmX12 (xE_12 c_2.1) rfl (by decide) wd_194 (Or.inl rfl) rfl rfl rfl rfl (Nat.le_of_ble_eq_true rfl) (hP.2.2.2.1 ▸ c_2.2) (by rw [eσ_3]; exact xP_12_0 _ c_2.1) (by rw [eσ_3]; exact xPut_I) dX12_joined_88 ?_
  refine ev_aload_n (j := 0) (x := (some a0)) dX12_joined_91 rfl rfl ?_
  obtain ⟨c_4, h⟩ := x_chk_e h
  refine ev_get (C := RX12) (T := TX12) (k := 0) inX12 (xE_12 c_4) rfl (by decide) wd_194 (Or.inl rfl) rfl dX12_joined_92 ?_
  by_cases c_5 : (σ_3.I 1100 a0) ≤ 0
  · rw [if_pos c_5] at h
    refine ev_if_le (x := (σ_3.I 1100 a0)) (tgt := 102) dX12_joined_95 (by decide) (fun _ => ?_) (fun q9 => absurd c_5 q9)
    refine ev_aload_n (j := 0) (x := (some a0)) dX12_joined_102 rfl rfl ?_
    refine ev_aload_n (j := 0) (x := (some a0)) dX12_joined_103 rfl rfl ?_
    refine ev_iload_n (j := 1) (x := v1) dX12_joined_104 rfl rfl ?_
    rcases x_bind_e h with ⟨v_6, σ_7, h_8, h⟩ | ⟨E_19, σ_7, h_8, h⟩
    · have z9 := x_call (M := mX12_joined) (M' := mX12_of) (pc := 105) (st := [.int v1, va_rf (some a0), va_rf (some a0)]) (rest := [va_rf (some a0)]) (av := [va_rf (some a0), .int v1]) (x_linkV (M := mX12_joined) (M' := mX12_of) (As := [.int v1]) (index := 311) (C := RX12) (T := TX12) (xE_12 c_4) rfl wd_811 wd_812 (wG_in (List.mem_append_left _ (List.mem_of_getElem? (i := 86) rfl)) rfl) xw_X12_of rfl (by decide) rfl rfl dX12_joined_105) (ev_X12_of hO hP h_8) xw_X12_of rfl wd_198 dX12_joined_105 (by decide) (by decide) (by simp [x_cat, x_catI, x_catJ])
      refine x_callR z9 ?_
      refine ev_at (st' := [.int v_6, va_rf (some a0)]) rfl rfl ?_
      refine ev_aload_n (j := 0) (x := (some a0)) dX12_joined_108 rfl rfl ?_
      refine ev_iload (j := 4) (x := v6) dX12_joined_109 rfl ?_
      refine ev_iload_n (j := 2) (x := v3) dX12_joined_111 rfl rfl ?_
      obtain ⟨c_12, h⟩ := x_chk_e h
      rcases x_bind_e h with ⟨v_9, σ_10, h_11, h⟩ | ⟨E_18, σ_10, h_11, h⟩
      · have z9 := x_call (M := mX12_joined) (M' := mX12_linkOf) (pc := 112) (st := [.int v3, .int v6, va_rf (some a0), .int v_6, va_rf (some a0)]) (rest := [.int v_6, va_rf (some a0)]) (av := [va_rf (some a0), .int v6, .int v3]) (x_linkV (M := mX12_joined) (M' := mX12_linkOf) (As := [.int v6, .int v3]) (index := 329) (C := RX12) (T := TX12) (xE_12 c_12) rfl wd_840 wd_841 (wG_in (List.mem_append_left _ (List.mem_of_getElem? (i := 91) rfl)) rfl) xw_X12_linkOf rfl (by decide) rfl rfl dX12_joined_112) (ev_X12_linkOf hO hP h_11) xw_X12_linkOf rfl wd_198 dX12_joined_112 (by decide) (by decide) (by simp [x_cat, x_catI, x_catJ])
        refine x_callR z9 ?_
        refine ev_at (st' := [.int v_9, .int v_6, va_rf (some a0)]) rfl rfl ?_
        refine ev_iload (j := 3) (x := v4) dX12_joined_115 rfl ?_
        obtain ⟨c_16, h⟩ := x_chk_e h
        rcases x_bind_e h with ⟨v_13, σ_14, h_15, h⟩ | ⟨E_17, σ_14, h_15, h⟩
        · have z9 := x_call (M := mX12_joined) (M' := mX12_bitOf) (pc := 117) (st := [.int v4, .int v_9, .int v_6, va_rf (some a0)]) (rest := []) (av := [va_rf (some a0), .int v_6, .int v_9, .int v4]) (x_linkV (M := mX12_joined) (M' := mX12_bitOf) (As := [.int v_6, .int v_9, .int v4]) (index := 332) (C := RX12) (T := TX12) (xE_12 c_16) rfl wd_843 wd_844 (wG_in (List.mem_append_left _ (List.mem_of_getElem? (i := 92) rfl)) rfl) xw_X12_bitOf rfl (by decide) rfl rfl dX12_joined_117) (ev_X12_bitOf hO hP h_15) xw_X12_bitOf rfl wd_198 dX12_joined_117 (by decide) (by decide) (by simp [x_cat, x_catI, x_catJ])
          refine x_callR z9 ?_
          refine ev_at (st' := [.int v_13]) rfl rfl ?_
          exact ev_sub [] rfl (ev_X12_joined_p120 hO hP h)
        · have z9 := x_call (M := mX12_joined) (M' := mX12_bitOf) (pc := 117) (st := [.int v4, .int v_9, .int v_6, va_rf (some a0)]) (rest := []) (av := [va_rf (some a0), .int v_6, .int v_9, .int v4]) (x_linkV (M := mX12_joined) (M' := mX12_bitOf) (As := [.int v_6, .int v_9, .int v4]) (index := 332) (C := RX12) (T := TX12) (xE_12 c_16) rfl wd_843 wd_844 (wG_in (List.mem_append_left _ (List.mem_of_getElem? (i := 92) rfl)) rfl) xw_X12_bitOf rfl (by decide) rfl rfl dX12_joined_117) (ev_X12_bitOf hO hP h_15) xw_X12_bitOf rfl wd_198 dX12_joined_117 (by decide) (by decide) (by simp [x_cat, x_catI, x_catJ])
          cases h
          exact x_callX z9 (evX_out rfl)
      · have z9 := x_call (M := mX12_joined) (M' := mX12_linkOf) (pc := 112) (st := [.int v3, .int v6, va_rf (some a0), .int v_6, va_rf (some a0)]) (rest := [.int v_6, va_rf (some a0)]) (av := [va_rf (some a0), .int v6, .int v3]) (x_linkV (M := mX12_joined) (M' := mX12_linkOf) (As := [.int v6, .int v3]) (index := 329) (C := RX12) (T := TX12) (xE_12 c_12) rfl wd_840 wd_841 (wG_in (List.mem_append_left _ (List.mem_of_getElem? (i := 91) rfl)) rfl) xw_X12_linkOf rfl (by decide) rfl rfl dX12_joined_112) (ev_X12_linkOf hO hP h_11) xw_X12_linkOf rfl wd_198 dX12_joined_112 (by decide) (by decide) (by simp [x_cat, x_catI, x_catJ])
        cases h
        exact x_callX z9 (evX_out rfl)
    · have z9 := x_call (M := mX12_joined) (M' := mX12_of) (pc := 105) (st := [.int v1, va_rf (some a0), va_rf (some a0)]) (rest := [va_rf (some a0)]) (av := [va_rf (some a0), .int v1]) (x_linkV (M := mX12_joined) (M' := mX12_of) (As := [.int v1]) (index := 311) (C := RX12) (T := TX12) (xE_12 c_4) rfl wd_811 wd_812 (wG_in (List.mem_append_left _ (List.mem_of_getElem? (i := 86) rfl)) rfl) xw_X12_of rfl (by decide) rfl rfl dX12_joined_105) (ev_X12_of hO hP h_8) xw_X12_of rfl wd_198 dX12_joined_105 (by decide) (by decide) (by simp [x_cat, x_catI, x_catJ])
      cases h
      exact x_callX z9 (evX_out rfl)
  · rw [if_neg c_5] at h
    refine ev_if_le (x := (σ_3.I 1100 a0)) (tgt := 102) dX12_joined_95 (by decide) (fun q9 => absurd q9 c_5) (fun _ => ?_)
    refine ev_iconst (v := 0) dX12_joined_98 (by decide) ?_
    refine ev_goto (tgt := 120) dX12_joined_99 (by decide) ?_
    exact ev_sub [] rfl (ev_X12_joined_p120 hO hP h)
set_option maxHeartbeats 4000000 in
set_option maxRecDepth 100000 in
theorem ev_X12_joined_p87 {l : Launch} {G : xG} (hO : x_OK l G) {P : xP} (hP : x_PG P G) {a0 : Nat} {v1 : Int32} {v3 : Int32} {v4 : Int32} {v6 : Int32} {s0 : Option Nat} {σ σ' : xS} {rr : Int32 ⊕ String} (h : dm_X12_joined_p87 P a0 v1 v3 v4 v6 s0 σ = some (rr, σ')) : Ev l G mX12_joined 87 [(0, va_rf (some a0)), (1, .int v1), (3, .int v3), (4, .int v4), (6, .int v6)] [va_rf s0] σ (xrI rr) σ' := by
  unfold dm_X12_joined_p87 at h
  refine ev_iconst (v := 1) dX12_joined_87 (by decide) ?_
  exact ev_sub [0, 1, 2, 3, 4] rfl (ev_X12_joined_p88 hO hP h)
set_option maxHeartbeats 4000000 in
set_option maxRecDepth 100000 in
theorem ev_X12_joined_p53 {l : Launch} {G : xG} (hO : x_OK l G) {P : xP} (hP : x_PG P G) {a0 : Nat} {v1 : Int32} {v3 : Int32} {v4 : Int32} {v6 : Int32} {s0 : Int32} {σ σ' : xS} {rr : Int32 ⊕ String} (h : dm_X12_joined_p53 P a0 v1 v3 v4 v6 s0 σ = some (rr, σ')) : Ev l G mX12_joined 53 [(0, va_rf (some a0)), (1, .int v1), (3, .int v3), (4, .int v4), (6, .int v6)] [.int s0] σ (xrI rr) σ' := by
  unfold dm_X12_joined_p53 at h
  refine ev_istore (i := 5) (lv' := [(5, .int s0), (0, va_rf (some a0)), (1, .int v1), (3, .int v3), (4, .int v4), (6, .int v6)]) dX12_joined_53 (by decide) rfl ?_
  refine ev_aload_n (j := 1) (x := (some a0)) dX12_joined_55 rfl rfl ?_
  refine ev_iload (j := 0) (x := s0) dX12_joined_56 rfl ?_
  by_cases c_1 : s0 = 0
  · rw [if_pos c_1] at h
    refine ev_if_eq (x := s0) (tgt := 87) dX12_joined_58 (by decide) (fun _ => ?_) (fun q9 => absurd c_1 q9)
    exact ev_sub [1, 2, 3, 4, 5] rfl (ev_X12_joined_p87 hO hP h)
  · rw [if_neg c_1] at h
    refine ev_if_eq (x := s0) (tgt := 87) dX12_joined_58 (by decide) (fun q9 => absurd q9 c_1) (fun _ => ?_)
    refine ev_iload (j := 4) (x := v4) dX12_joined_61 rfl ?_
    by_cases c_2 : v4 < 0
    · rw [if_pos c_2] at h
      refine ev_if_lt (x := v4) (tgt := 87) dX12_joined_63 (by decide) (fun _ => ?_) (fun q9 => absurd c_2 q9)
      exact ev_sub [1, 2, 3, 4, 5] rfl (ev_X12_joined_p87 hO hP h)
    · rw [if_neg c_2] at h
      refine ev_if_lt (x := v4) (tgt := 87) dX12_joined_63 (by decide) (fun q9 => absurd q9 c_2) (fun _ => ?_)
      refine ev_iload (j := 4) (x := v4) dX12_joined_66 rfl ?_
      refine ev_aload_n (j := 1) (x := (some a0)) dX12_joined_68 rfl rfl ?_
      refine ev_aload_n (j := 1) (x := (some a0)) dX12_joined_69 rfl rfl ?_
      refine ev_iload_n (j := 2) (x := v1) dX12_joined_70 rfl rfl ?_
      obtain ⟨c_6, h⟩ := x_chk_e h
      rcases x_bind_e h with ⟨v_3, σ_4, h_5, h⟩ | ⟨E_13, σ_4, h_5, h⟩
      · have z9 := x_call (M := mX12_joined) (M' := mX12_of) (pc := 71) (st := [.int v1, va_rf (some a0), va_rf (some a0), .int v4, va_rf (some a0)]) (rest := [va_rf (some a0), .int v4, va_rf (some a0)]) (av := [va_rf (some a0), .int v1]) (x_linkV (M := mX12_joined) (M' := mX12_of) (As := [.int v1]) (index := 311) (C := RX12) (T := TX12) (xE_12 c_6) rfl wd_811 wd_812 (wG_in (List.mem_append_left _ (List.mem_of_getElem? (i := 86) rfl)) rfl) xw_X12_of rfl (by decide) rfl rfl dX12_joined_71) (ev_X12_of hO hP h_5) xw_X12_of rfl wd_198 dX12_joined_71 (by decide) (by decide) (by simp [x_cat, x_catI, x_catJ])
        refine x_callR z9 ?_
        refine ev_at (st' := [.int v_3, va_rf (some a0), .int v4, va_rf (some a0)]) rfl rfl ?_
        refine ev_iload (j := 5) (x := v6) dX12_joined_74 rfl ?_
        refine ev_iload_n (j := 3) (x := v3) dX12_joined_76 rfl rfl ?_
        obtain ⟨c_10, h⟩ := x_chk_e h
        rcases x_bind_e h with ⟨v_7, σ_8, h_9, h⟩ | ⟨E_12, σ_8, h_9, h⟩
        · have z9 := x_call (M := mX12_joined) (M' := mX12_pinWidth) (pc := 77) (st := [.int v3, .int v6, .int v_3, va_rf (some a0), .int v4, va_rf (some a0)]) (rest := [.int v4, va_rf (some a0)]) (av := [va_rf (some a0), .int v_3, .int v6, .int v3]) (x_linkV (M := mX12_joined) (M' := mX12_pinWidth) (As := [.int v_3, .int v6, .int v3]) (index := 326) (C := RX12) (T := TX12) (xE_12 c_10) rfl wd_837 wd_838 (wG_in (List.mem_append_left _ (List.mem_of_getElem? (i := 90) rfl)) rfl) xw_X12_pinWidth rfl (by decide) rfl rfl dX12_joined_77) (ev_X12_pinWidth hO hP h_9) xw_X12_pinWidth rfl wd_198 dX12_joined_77 (by decide) (by decide) (by simp [x_cat, x_catI, x_catJ])
          refine x_callR z9 ?_
          refine ev_at (st' := [.int v_7, .int v4, va_rf (some a0)]) rfl rfl ?_
          by_cases c_11 : v_7 ≤ v4
          · rw [if_pos c_11] at h
            refine ev_icmp_ge (x := v4) (y := v_7) (tgt := 87) dX12_joined_80 (by decide) (fun _ => ?_) (fun q9 => absurd c_11 q9)
            exact ev_sub [1, 2, 3, 4, 5] rfl (ev_X12_joined_p87 hO hP h)
          · rw [if_neg c_11] at h
            refine ev_icmp_ge (x := v4) (y := v_7) (tgt := 87) dX12_joined_80 (by decide) (fun q9 => absurd q9 c_11) (fun _ => ?_)
            refine ev_iconst (v := 0) dX12_joined_83 (by decide) ?_
            refine ev_goto (tgt := 88) dX12_joined_84 (by decide) ?_
            exact ev_sub [1, 2, 3, 4, 5] rfl (ev_X12_joined_p88 hO hP h)
        · have z9 := x_call (M := mX12_joined) (M' := mX12_pinWidth) (pc := 77) (st := [.int v3, .int v6, .int v_3, va_rf (some a0), .int v4, va_rf (some a0)]) (rest := [.int v4, va_rf (some a0)]) (av := [va_rf (some a0), .int v_3, .int v6, .int v3]) (x_linkV (M := mX12_joined) (M' := mX12_pinWidth) (As := [.int v_3, .int v6, .int v3]) (index := 326) (C := RX12) (T := TX12) (xE_12 c_10) rfl wd_837 wd_838 (wG_in (List.mem_append_left _ (List.mem_of_getElem? (i := 90) rfl)) rfl) xw_X12_pinWidth rfl (by decide) rfl rfl dX12_joined_77) (ev_X12_pinWidth hO hP h_9) xw_X12_pinWidth rfl wd_198 dX12_joined_77 (by decide) (by decide) (by simp [x_cat, x_catI, x_catJ])
          cases h
          exact x_callX z9 (evX_out rfl)
      · have z9 := x_call (M := mX12_joined) (M' := mX12_of) (pc := 71) (st := [.int v1, va_rf (some a0), va_rf (some a0), .int v4, va_rf (some a0)]) (rest := [va_rf (some a0), .int v4, va_rf (some a0)]) (av := [va_rf (some a0), .int v1]) (x_linkV (M := mX12_joined) (M' := mX12_of) (As := [.int v1]) (index := 311) (C := RX12) (T := TX12) (xE_12 c_6) rfl wd_811 wd_812 (wG_in (List.mem_append_left _ (List.mem_of_getElem? (i := 86) rfl)) rfl) xw_X12_of rfl (by decide) rfl rfl dX12_joined_71) (ev_X12_of hO hP h_5) xw_X12_of rfl wd_198 dX12_joined_71 (by decide) (by decide) (by simp [x_cat, x_catI, x_catJ])
        cases h
        exact x_callX z9 (evX_out rfl)
set_option maxHeartbeats 4000000 in
set_option maxRecDepth 100000 in
theorem ev_X12_joined_p52 {l : Launch} {G : xG} (hO : x_OK l G) {P : xP} (hP : x_PG P G) {a0 : Nat} {v1 : Int32} {v3 : Int32} {v4 : Int32} {v6 : Int32} {σ σ' : xS} {rr : Int32 ⊕ String} (h : dm_X12_joined_p52 P a0 v1 v3 v4 v6 σ = some (rr, σ')) : Ev l G mX12_joined 52 [(0, va_rf (some a0)), (1, .int v1), (3, .int v3), (4, .int v4), (6, .int v6)] [] σ (xrI rr) σ' := by
  unfold dm_X12_joined_p52 at h
  refine ev_iconst (v := 0) dX12_joined_52 (by decide) ?_
  exact ev_sub [0, 1, 2, 3, 4] rfl (ev_X12_joined_p53 hO hP h)
set_option maxHeartbeats 4000000 in
set_option maxRecDepth 100000 in
theorem ev_X12_joined_p27 {l : Launch} {G : xG} (hO : x_OK l G) {P : xP} (hP : x_PG P G) {a0 : Nat} {v1 : Int32} {v3 : Int32} {v4 : Int32} {v5 : Int32} {s0 : Int32} {σ σ' : xS} {rr : Int32 ⊕ String} (h : dm_X12_joined_p27 P a0 v1 v3 v4 v5 s0 σ = some (rr, σ')) : Ev l G mX12_joined 27 [(0, va_rf (some a0)), (1, .int v1), (3, .int v3), (4, .int v4), (5, .int v5)] [.int s0] σ (xrI rr) σ' := by
  unfold dm_X12_joined_p27 at h
  refine ev_istore (i := 6) (lv' := [(6, .int s0), (0, va_rf (some a0)), (1, .int v1), (3, .int v3), (4, .int v4), (5, .int v5)]) dX12_joined_27 (by decide) rfl ?_
  refine ev_iload (j := 5) (x := v5) dX12_joined_29 rfl ?_
  by_cases c_1 : v5 = 0
  · rw [if_pos c_1] at h
    refine ev_if_eq (x := v5) (tgt := 52) dX12_joined_31 (by decide) (fun _ => ?_) (fun q9 => absurd c_1 q9)
    exact ev_sub [1, 2, 3, 4, 0] rfl (ev_X12_joined_p52 hO hP h)
  · rw [if_neg c_1] at h
    refine ev_if_eq (x := v5) (tgt := 52) dX12_joined_31 (by decide) (fun q9 => absurd q9 c_1) (fun _ => ?_)
    refine ev_iload_n (j := 3) (x := v3) dX12_joined_34 rfl rfl ?_
    by_cases c_2 : v3 < 0
    · rw [if_pos c_2] at h
      refine ev_if_lt (x := v3) (tgt := 52) dX12_joined_35 (by decide) (fun _ => ?_) (fun q9 => absurd c_2 q9)
      exact ev_sub [1, 2, 3, 4, 0] rfl (ev_X12_joined_p52 hO hP h)
    · rw [if_neg c_2] at h
      refine ev_if_lt (x := v3) (tgt := 52) dX12_joined_35 (by decide) (fun q9 => absurd q9 c_2) (fun _ => ?_)
      refine ev_iload_n (j := 3) (x := v3) dX12_joined_38 rfl rfl ?_
      refine ev_aload_n (j := 1) (x := (some a0)) dX12_joined_39 rfl rfl ?_
      refine ev_iload (j := 0) (x := s0) dX12_joined_40 rfl ?_
      obtain ⟨c_6, h⟩ := x_chk_e h
      rcases x_bind_e h with ⟨v_3, σ_4, h_5, h⟩ | ⟨E_8, σ_4, h_5, h⟩
      · have z9 := x_call (M := mX12_joined) (M' := mX12_pins) (pc := 42) (st := [.int s0, va_rf (some a0), .int v3]) (rest := [.int v3]) (av := [va_rf (some a0), .int s0]) (x_linkV (M := mX12_joined) (M' := mX12_pins) (As := [.int s0]) (index := 320) (C := RX12) (T := TX12) (xE_12 c_6) rfl wd_831 wd_832 (wG_in (List.mem_append_left _ (List.mem_of_getElem? (i := 89) rfl)) rfl) xw_X12_pins rfl (by decide) rfl rfl dX12_joined_42) (ev_X12_pins hO hP h_5) xw_X12_pins rfl wd_198 dX12_joined_42 (by decide) (by decide) (by simp [x_cat, x_catI, x_catJ])
        refine x_callR z9 ?_
        refine ev_at (st' := [.int v_3, .int v3]) rfl rfl ?_
        by_cases c_7 : v_3 ≤ v3
        · rw [if_pos c_7] at h
          refine ev_icmp_ge (x := v3) (y := v_3) (tgt := 52) dX12_joined_45 (by decide) (fun _ => ?_) (fun q9 => absurd c_7 q9)
          exact ev_sub [1, 2, 3, 4, 0] rfl (ev_X12_joined_p52 hO hP h)
        · rw [if_neg c_7] at h
          refine ev_icmp_ge (x := v3) (y := v_3) (tgt := 52) dX12_joined_45 (by decide) (fun q9 => absurd q9 c_7) (fun _ => ?_)
          refine ev_iconst (v := 1) dX12_joined_48 (by decide) ?_
          refine ev_goto (tgt := 53) dX12_joined_49 (by decide) ?_
          exact ev_sub [1, 2, 3, 4, 0] rfl (ev_X12_joined_p53 hO hP h)
      · have z9 := x_call (M := mX12_joined) (M' := mX12_pins) (pc := 42) (st := [.int s0, va_rf (some a0), .int v3]) (rest := [.int v3]) (av := [va_rf (some a0), .int s0]) (x_linkV (M := mX12_joined) (M' := mX12_pins) (As := [.int s0]) (index := 320) (C := RX12) (T := TX12) (xE_12 c_6) rfl wd_831 wd_832 (wG_in (List.mem_append_left _ (List.mem_of_getElem? (i := 89) rfl)) rfl) xw_X12_pins rfl (by decide) rfl rfl dX12_joined_42) (ev_X12_pins hO hP h_5) xw_X12_pins rfl wd_198 dX12_joined_42 (by decide) (by decide) (by simp [x_cat, x_catI, x_catJ])
        cases h
        exact x_callX z9 (evX_out rfl)
set_option maxHeartbeats 4000000 in
set_option maxRecDepth 100000 in
theorem ev_X12_joined {l : Launch} {G : xG} (hO : x_OK l G) {P : xP} (hP : x_PG P G) {a0 : Nat} {v1 : Int32} {v2 : Int32} {v3 : Int32} {v4 : Int32} {σ σ' : xS} {rr : Int32 ⊕ String} (h : dm_X12_joined P a0 v1 v2 v3 v4 σ = some (rr, σ')) : EvM l G mX12_joined [va_rf (some a0), .int v1, .int v2, .int v3, .int v4] σ (xrI rr) σ' := by
  unfold dm_X12_joined at h
  refine evM_of hO (by decide +kernel) (x_lenI (by simp [x_cat, x_catI, x_catJ, mX12_joined, xM.maxL])) ?_
  refine Eq.mp (congrArg (fun z => Ev l G mX12_joined 0 z [] σ (xrI rr) σ') (show [(0, va_rf (some a0)), (1, .int v1), (2, .int v2), (3, .int v3), (4, .int v4)] = lv_args 0 [va_rf (some a0), .int v1, .int v2, .int v3, .int v4] by simp [lv_args, x_cat, x_catI, x_catJ])) ?_
  refine ev_aload_n (j := 0) (x := (some a0)) dX12_joined_0 rfl rfl ?_
  refine ev_iload_n (j := 1) (x := v1) dX12_joined_1 rfl rfl ?_
  refine ev_iload_n (j := 2) (x := v2) dX12_joined_2 rfl rfl ?_
  obtain ⟨c_4, h⟩ := x_chk_e h
  rcases x_bind_e h with ⟨v_1, σ_2, h_3, h⟩ | ⟨E_11, σ_2, h_3, h⟩
  · have z9 := x_call (M := mX12_joined) (M' := mX12_isInstance) (pc := 3) (st := [.int v2, .int v1, va_rf (some a0)]) (rest := []) (av := [va_rf (some a0), .int v1, .int v2]) (x_linkV (M := mX12_joined) (M' := mX12_isInstance) (As := [.int v1, .int v2]) (index := 317) (C := RX12) (T := TX12) (xE_12 c_4) rfl wd_828 wd_829 (wG_in (List.mem_append_left _ (List.mem_of_getElem? (i := 88) rfl)) rfl) xw_X12_isInstance rfl (by decide) rfl rfl dX12_joined_3) (ev_X12_isInstance hO hP h_3) xw_X12_isInstance rfl wd_198 dX12_joined_3 (by decide) (by decide) (by simp [x_cat, x_catI, x_catJ])
    refine x_callR z9 ?_
    refine ev_at (st' := [.int v_1]) rfl rfl ?_
    refine ev_istore (i := 5) (lv' := [(5, .int v_1), (0, va_rf (some a0)), (1, .int v1), (2, .int v2), (3, .int v3), (4, .int v4)]) dX12_joined_6 (by decide) rfl ?_
    refine ev_iload (j := 0) (x := v_1) dX12_joined_8 rfl ?_
    by_cases c_5 : v_1 = 0
    · rw [if_pos c_5] at h
      refine ev_if_eq (x := v_1) (tgt := 26) dX12_joined_10 (by decide) (fun _ => ?_) (fun q9 => absurd c_5 q9)
      refine ev_iconst (v := 0) dX12_joined_26 (by decide) ?_
      exact ev_sub [1, 2, 4, 5, 0] rfl (ev_X12_joined_p27 hO hP h)
    · rw [if_neg c_5] at h
      refine ev_if_eq (x := v_1) (tgt := 26) dX12_joined_10 (by decide) (fun q9 => absurd q9 c_5) (fun _ => ?_)
      refine ev_bipush (v := 12) dX12_joined_13 (by decide) ?_
      refine ev_aload_n (j := 1) (x := (some a0)) dX12_joined_15 rfl rfl ?_
      refine ev_iload_n (j := 2) (x := v1) dX12_joined_16 rfl rfl ?_
      obtain ⟨c_9, h⟩ := x_chk_e h
      rcases x_bind_e h with ⟨v_6, σ_7, h_8, h⟩ | ⟨E_10, σ_7, h_8, h⟩
      · have z9 := x_call (M := mX12_joined) (M' := mX12_of) (pc := 17) (st := [.int v1, va_rf (some a0), .int 12]) (rest := [.int 12]) (av := [va_rf (some a0), .int v1]) (x_linkV (M := mX12_joined) (M' := mX12_of) (As := [.int v1]) (index := 311) (C := RX12) (T := TX12) (xE_12 c_9) rfl wd_811 wd_812 (wG_in (List.mem_append_left _ (List.mem_of_getElem? (i := 86) rfl)) rfl) xw_X12_of rfl (by decide) rfl rfl dX12_joined_17) (ev_X12_of hO hP h_8) xw_X12_of rfl wd_198 dX12_joined_17 (by decide) (by decide) (by simp [x_cat, x_catI, x_catJ])
        refine x_callR z9 ?_
        refine ev_at (st' := [.int v_6, .int 12]) rfl rfl ?_
        refine ev_imul (x := 12) (y := v_6) dX12_joined_20 ?_
        refine ev_iload_n (j := 3) (x := v2) dX12_joined_21 rfl rfl ?_
        refine ev_iadd (x := (12 * v_6)) (y := v2) dX12_joined_22 ?_
        refine ev_goto (tgt := 27) dX12_joined_23 (by decide) ?_
        exact ev_sub [1, 2, 4, 5, 0] rfl (ev_X12_joined_p27 hO hP h)
      · have z9 := x_call (M := mX12_joined) (M' := mX12_of) (pc := 17) (st := [.int v1, va_rf (some a0), .int 12]) (rest := [.int 12]) (av := [va_rf (some a0), .int v1]) (x_linkV (M := mX12_joined) (M' := mX12_of) (As := [.int v1]) (index := 311) (C := RX12) (T := TX12) (xE_12 c_9) rfl wd_811 wd_812 (wG_in (List.mem_append_left _ (List.mem_of_getElem? (i := 86) rfl)) rfl) xw_X12_of rfl (by decide) rfl rfl dX12_joined_17) (ev_X12_of hO hP h_8) xw_X12_of rfl wd_198 dX12_joined_17 (by decide) (by decide) (by simp [x_cat, x_catI, x_catJ])
        cases h
        exact x_callX z9 (evX_out rfl)
  · have z9 := x_call (M := mX12_joined) (M' := mX12_isInstance) (pc := 3) (st := [.int v2, .int v1, va_rf (some a0)]) (rest := []) (av := [va_rf (some a0), .int v1, .int v2]) (x_linkV (M := mX12_joined) (M' := mX12_isInstance) (As := [.int v1, .int v2]) (index := 317) (C := RX12) (T := TX12) (xE_12 c_4) rfl wd_828 wd_829 (wG_in (List.mem_append_left _ (List.mem_of_getElem? (i := 88) rfl)) rfl) xw_X12_isInstance rfl (by decide) rfl rfl dX12_joined_3) (ev_X12_isInstance hO hP h_3) xw_X12_isInstance rfl wd_198 dX12_joined_3 (by decide) (by decide) (by simp [x_cat, x_catI, x_catJ])
    cases h
    exact x_callX z9 (evX_out rfl)
set_option maxHeartbeats 4000000 in
set_option maxRecDepth 100000 in
theorem ev_X12_assign_p165 {l : Launch} {G : xG} (hO : x_OK l G) {P : xP} (hP : x_PG P G) {a0 : Nat} {s0 : Int32} {σ σ' : xS} {rr : Int32 ⊕ String} (h : dm_X12_assign_p165 P a0 s0 σ = some (rr, σ')) : Ev l G mX12_assign 165 [] [.int s0] σ (xrI rr) σ' := by
  unfold dm_X12_assign_p165 at h
  cases h
  exact ev_iret rfl rfl dX12_assign_165
set_option maxHeartbeats 4000000 in
set_option maxRecDepth 100000 in
theorem ev_X12_assign_p138 {l : Launch} {G : xG} (hO : x_OK l G) {P : xP} (hP : x_PG P G) {a0 : Nat} {v1 : Int32} {v4 : Int32} {v6 : Int32} {s0 : Option Nat} {s1 : Int32} {σ σ' : xS} {rr : Int32 ⊕ String} (h : dm_X12_assign_p138 P a0 v1 v4 v6 s0 s1 σ = some (rr, σ')) : Ev l G mX12_assign 138 [(0, va_rf (some a0)), (1, .int v1), (4, .int v4), (6, .int v6)] [.int s1, va_rf s0] σ (xrI rr) σ' := by
  unfold dm_X12_assign_p138 at h
  obtain ⟨a_1, ea_1, h⟩ := x_some_e h
  refine ev_at (st' := [.int s1, va_rf (some a_1)]) rfl (by rw [ea_1]) ?_
  obtain ⟨c_2, h⟩ := x_chk_e h
  obtain ⟨σ_3, eσ_3, h⟩ := x_let_e h
  refine ev_put (σ2 := σ_3) (C := RX12) (T := TX12) (k := 0) inX12 tyX12 tyX12_ok nmX12 (xE_12 c_2.1) rfl (by decide) wd_194 (Or.inl rfl) rfl rfl rfl rfl (Nat.le_of_ble_eq_true rfl) (hP.2.2.2.1 ▸ c_2.2) (by rw [eσ_3]; exact xP_12_0 _ c_2.1) (by rw [eσ_3]; exact xPut_I) dX12_assign_138 ?_
  refine ev_aload_n (j := 0) (x := (some a0)) dX12_assign_141 rfl rfl ?_
  obtain ⟨c_4, h⟩ := x_chk_e h
  refine ev_get (C := RX12) (T := TX12) (k := 0) inX12 (xE_12 c_4) rfl (by decide) wd_194 (Or.inl rfl) rfl dX12_assign_142 ?_
  by_cases c_5 : (σ_3.I 1100 a0) ≤ 0
  · rw [if_pos c_5] at h
    refine ev_if_le (x := (σ_3.I 1100 a0)) (tgt := 152) dX12_assign_145 (by decide) (fun _ => ?_) (fun q9 => absurd c_5 q9)
    refine ev_aload_n (j := 0) (x := (some a0)) dX12_assign_152 rfl rfl ?_
    refine ev_aload_n (j := 0) (x := (some a0)) dX12_assign_153 rfl rfl ?_
    refine ev_iload_n (j := 1) (x := v1) dX12_assign_154 rfl rfl ?_
    rcases x_bind_e h with ⟨v_6, σ_7, h_8, h⟩ | ⟨E_14, σ_7, h_8, h⟩
    · have z9 := x_call (M := mX12_assign) (M' := mX12_of) (pc := 155) (st := [.int v1, va_rf (some a0), va_rf (some a0)]) (rest := [va_rf (some a0)]) (av := [va_rf (some a0), .int v1]) (x_linkV (M := mX12_assign) (M' := mX12_of) (As := [.int v1]) (index := 311) (C := RX12) (T := TX12) (xE_12 c_4) rfl wd_811 wd_812 (wG_in (List.mem_append_left _ (List.mem_of_getElem? (i := 86) rfl)) rfl) xw_X12_of rfl (by decide) rfl rfl dX12_assign_155) (ev_X12_of hO hP h_8) xw_X12_of rfl wd_198 dX12_assign_155 (by decide) (by decide) (by simp [x_cat, x_catI, x_catJ])
      refine x_callR z9 ?_
      refine ev_at (st' := [.int v_6, va_rf (some a0)]) rfl rfl ?_
      refine ev_iload (j := 3) (x := v6) dX12_assign_158 rfl ?_
      refine ev_iload (j := 2) (x := v4) dX12_assign_160 rfl ?_
      obtain ⟨c_12, h⟩ := x_chk_e h
      rcases x_bind_e h with ⟨v_9, σ_10, h_11, h⟩ | ⟨E_13, σ_10, h_11, h⟩
      · have z9 := x_call (M := mX12_assign) (M' := mX12_bitOf) (pc := 162) (st := [.int v4, .int v6, .int v_6, va_rf (some a0)]) (rest := []) (av := [va_rf (some a0), .int v_6, .int v6, .int v4]) (x_linkV (M := mX12_assign) (M' := mX12_bitOf) (As := [.int v_6, .int v6, .int v4]) (index := 332) (C := RX12) (T := TX12) (xE_12 c_12) rfl wd_843 wd_844 (wG_in (List.mem_append_left _ (List.mem_of_getElem? (i := 92) rfl)) rfl) xw_X12_bitOf rfl (by decide) rfl rfl dX12_assign_162) (ev_X12_bitOf hO hP h_11) xw_X12_bitOf rfl wd_198 dX12_assign_162 (by decide) (by decide) (by simp [x_cat, x_catI, x_catJ])
        refine x_callR z9 ?_
        refine ev_at (st' := [.int v_9]) rfl rfl ?_
        exact ev_sub [] rfl (ev_X12_assign_p165 hO hP h)
      · have z9 := x_call (M := mX12_assign) (M' := mX12_bitOf) (pc := 162) (st := [.int v4, .int v6, .int v_6, va_rf (some a0)]) (rest := []) (av := [va_rf (some a0), .int v_6, .int v6, .int v4]) (x_linkV (M := mX12_assign) (M' := mX12_bitOf) (As := [.int v_6, .int v6, .int v4]) (index := 332) (C := RX12) (T := TX12) (xE_12 c_12) rfl wd_843 wd_844 (wG_in (List.mem_append_left _ (List.mem_of_getElem? (i := 92) rfl)) rfl) xw_X12_bitOf rfl (by decide) rfl rfl dX12_assign_162) (ev_X12_bitOf hO hP h_11) xw_X12_bitOf rfl wd_198 dX12_assign_162 (by decide) (by decide) (by simp [x_cat, x_catI, x_catJ])
        cases h
        exact x_callX z9 (evX_out rfl)
    · have z9 := x_call (M := mX12_assign) (M' := mX12_of) (pc := 155) (st := [.int v1, va_rf (some a0), va_rf (some a0)]) (rest := [va_rf (some a0)]) (av := [va_rf (some a0), .int v1]) (x_linkV (M := mX12_assign) (M' := mX12_of) (As := [.int v1]) (index := 311) (C := RX12) (T := TX12) (xE_12 c_4) rfl wd_811 wd_812 (wG_in (List.mem_append_left _ (List.mem_of_getElem? (i := 86) rfl)) rfl) xw_X12_of rfl (by decide) rfl rfl dX12_assign_155) (ev_X12_of hO hP h_8) xw_X12_of rfl wd_198 dX12_assign_155 (by decide) (by decide) (by simp [x_cat, x_catI, x_catJ])
      cases h
      exact x_callX z9 (evX_out rfl)
  · rw [if_neg c_5] at h
    refine ev_if_le (x := (σ_3.I 1100 a0)) (tgt := 152) dX12_assign_145 (by decide) (fun q9 => absurd q9 c_5) (fun _ => ?_)
    refine ev_iconst (v := 0) dX12_assign_148 (by decide) ?_
    refine ev_goto (tgt := 165) dX12_assign_149 (by decide) ?_
    exact ev_sub [] rfl (ev_X12_assign_p165 hO hP h)
set_option maxHeartbeats 4000000 in
set_option maxRecDepth 100000 in
theorem ev_X12_assign_p137 {l : Launch} {G : xG} (hO : x_OK l G) {P : xP} (hP : x_PG P G) {a0 : Nat} {v1 : Int32} {v4 : Int32} {v6 : Int32} {s0 : Option Nat} {σ σ' : xS} {rr : Int32 ⊕ String} (h : dm_X12_assign_p137 P a0 v1 v4 v6 s0 σ = some (rr, σ')) : Ev l G mX12_assign 137 [(0, va_rf (some a0)), (1, .int v1), (4, .int v4), (6, .int v6)] [va_rf s0] σ (xrI rr) σ' := by
  unfold dm_X12_assign_p137 at h
  refine ev_iconst (v := 1) dX12_assign_137 (by decide) ?_
  exact ev_sub [0, 1, 2, 3] rfl (ev_X12_assign_p138 hO hP h)
set_option maxHeartbeats 4000000 in
set_option maxRecDepth 100000 in
theorem ev_X12_assign_p100 {l : Launch} {G : xG} (hO : x_OK l G) {P : xP} (hP : x_PG P G) {a0 : Nat} {v1 : Int32} {v4 : Int32} {v5 : Int32} {s0 : Int32} {σ σ' : xS} {rr : Int32 ⊕ String} (h : dm_X12_assign_p100 P a0 v1 v4 v5 s0 σ = some (rr, σ')) : Ev l G mX12_assign 100 [(0, va_rf (some a0)), (1, .int v1), (4, .int v4), (5, .int v5)] [.int s0] σ (xrI rr) σ' := by
  unfold dm_X12_assign_p100 at h
  refine ev_istore (i := 6) (lv' := [(6, .int s0), (0, va_rf (some a0)), (1, .int v1), (4, .int v4), (5, .int v5)]) dX12_assign_100 (by decide) rfl ?_
  refine ev_aload_n (j := 1) (x := (some a0)) dX12_assign_102 rfl rfl ?_
  refine ev_iload (j := 4) (x := v5) dX12_assign_103 rfl ?_
  by_cases c_1 : v5 = 0
  · rw [if_pos c_1] at h
    refine ev_if_eq (x := v5) (tgt := 137) dX12_assign_105 (by decide) (fun _ => ?_) (fun q9 => absurd c_1 q9)
    exact ev_sub [1, 2, 3, 0] rfl (ev_X12_assign_p137 hO hP h)
  · rw [if_neg c_1] at h
    refine ev_if_eq (x := v5) (tgt := 137) dX12_assign_105 (by decide) (fun q9 => absurd q9 c_1) (fun _ => ?_)
    refine ev_iload (j := 3) (x := v4) dX12_assign_108 rfl ?_
    by_cases c_2 : v4 < 0
    · rw [if_pos c_2] at h
      refine ev_if_lt (x := v4) (tgt := 137) dX12_assign_110 (by decide) (fun _ => ?_) (fun q9 => absurd c_2 q9)
      exact ev_sub [1, 2, 3, 0] rfl (ev_X12_assign_p137 hO hP h)
    · rw [if_neg c_2] at h
      refine ev_if_lt (x := v4) (tgt := 137) dX12_assign_110 (by decide) (fun q9 => absurd q9 c_2) (fun _ => ?_)
      refine ev_iload (j := 3) (x := v4) dX12_assign_113 rfl ?_
      refine ev_aload_n (j := 1) (x := (some a0)) dX12_assign_115 rfl rfl ?_
      refine ev_aload_n (j := 1) (x := (some a0)) dX12_assign_116 rfl rfl ?_
      obtain ⟨c_3, h⟩ := x_chk_e h
      refine ev_get (C := RX12) (T := TX12) (k := 3) inX12 (xE_12 c_3) rfl (by decide) wd_783 (Or.inl rfl) rfl dX12_assign_117 ?_
      refine ev_aload_n (j := 1) (x := (some a0)) dX12_assign_120 rfl rfl ?_
      refine ev_iload_n (j := 2) (x := v1) dX12_assign_121 rfl rfl ?_
      rcases x_bind_e h with ⟨v_4, σ_5, h_6, h⟩ | ⟨E_13, σ_5, h_6, h⟩
      · have z9 := x_call (M := mX12_assign) (M' := mX12_of) (pc := 122) (st := [.int v1, va_rf (some a0), .int (σ.I 1103 a0), va_rf (some a0), .int v4, va_rf (some a0)]) (rest := [.int (σ.I 1103 a0), va_rf (some a0), .int v4, va_rf (some a0)]) (av := [va_rf (some a0), .int v1]) (x_linkV (M := mX12_assign) (M' := mX12_of) (As := [.int v1]) (index := 311) (C := RX12) (T := TX12) (xE_12 c_3) rfl wd_811 wd_812 (wG_in (List.mem_append_left _ (List.mem_of_getElem? (i := 86) rfl)) rfl) xw_X12_of rfl (by decide) rfl rfl dX12_assign_122) (ev_X12_of hO hP h_6) xw_X12_of rfl wd_198 dX12_assign_122 (by decide) (by decide) (by simp [x_cat, x_catI, x_catJ])
        refine x_callR z9 ?_
        refine ev_at (st' := [.int v_4, .int (σ.I 1103 a0), va_rf (some a0), .int v4, va_rf (some a0)]) rfl rfl ?_
        refine ev_iload (j := 0) (x := s0) dX12_assign_125 rfl ?_
        obtain ⟨c_10, h⟩ := x_chk_e h
        rcases x_bind_e h with ⟨v_7, σ_8, h_9, h⟩ | ⟨E_12, σ_8, h_9, h⟩
        · have z9 := x_call (M := mX12_assign) (M' := mX12_refWidth) (pc := 127) (st := [.int s0, .int v_4, .int (σ.I 1103 a0), va_rf (some a0), .int v4, va_rf (some a0)]) (rest := [.int v4, va_rf (some a0)]) (av := [va_rf (some a0), .int (σ.I 1103 a0), .int v_4, .int s0]) (x_linkV (M := mX12_assign) (M' := mX12_refWidth) (As := [.int (σ.I 1103 a0), .int v_4, .int s0]) (index := 277) (C := RX12) (T := TX12) (xE_12 c_10) rfl wd_772 wd_773 (wG_in (List.mem_append_left _ (List.mem_of_getElem? (i := 78) rfl)) rfl) xw_X12_refWidth rfl (by decide) rfl rfl dX12_assign_127) (ev_X12_refWidth hO hP h_9) xw_X12_refWidth rfl wd_198 dX12_assign_127 (by decide) (by decide) (by simp [x_cat, x_catI, x_catJ])
          refine x_callR z9 ?_
          refine ev_at (st' := [.int v_7, .int v4, va_rf (some a0)]) rfl rfl ?_
          by_cases c_11 : v_7 ≤ v4
          · rw [if_pos c_11] at h
            refine ev_icmp_ge (x := v4) (y := v_7) (tgt := 137) dX12_assign_130 (by decide) (fun _ => ?_) (fun q9 => absurd c_11 q9)
            exact ev_sub [1, 2, 3, 0] rfl (ev_X12_assign_p137 hO hP h)
          · rw [if_neg c_11] at h
            refine ev_icmp_ge (x := v4) (y := v_7) (tgt := 137) dX12_assign_130 (by decide) (fun q9 => absurd q9 c_11) (fun _ => ?_)
            refine ev_iconst (v := 0) dX12_assign_133 (by decide) ?_
            refine ev_goto (tgt := 138) dX12_assign_134 (by decide) ?_
            exact ev_sub [1, 2, 3, 0] rfl (ev_X12_assign_p138 hO hP h)
        · have z9 := x_call (M := mX12_assign) (M' := mX12_refWidth) (pc := 127) (st := [.int s0, .int v_4, .int (σ.I 1103 a0), va_rf (some a0), .int v4, va_rf (some a0)]) (rest := [.int v4, va_rf (some a0)]) (av := [va_rf (some a0), .int (σ.I 1103 a0), .int v_4, .int s0]) (x_linkV (M := mX12_assign) (M' := mX12_refWidth) (As := [.int (σ.I 1103 a0), .int v_4, .int s0]) (index := 277) (C := RX12) (T := TX12) (xE_12 c_10) rfl wd_772 wd_773 (wG_in (List.mem_append_left _ (List.mem_of_getElem? (i := 78) rfl)) rfl) xw_X12_refWidth rfl (by decide) rfl rfl dX12_assign_127) (ev_X12_refWidth hO hP h_9) xw_X12_refWidth rfl wd_198 dX12_assign_127 (by decide) (by decide) (by simp [x_cat, x_catI, x_catJ])
          cases h
          exact x_callX z9 (evX_out rfl)
      · have z9 := x_call (M := mX12_assign) (M' := mX12_of) (pc := 122) (st := [.int v1, va_rf (some a0), .int (σ.I 1103 a0), va_rf (some a0), .int v4, va_rf (some a0)]) (rest := [.int (σ.I 1103 a0), va_rf (some a0), .int v4, va_rf (some a0)]) (av := [va_rf (some a0), .int v1]) (x_linkV (M := mX12_assign) (M' := mX12_of) (As := [.int v1]) (index := 311) (C := RX12) (T := TX12) (xE_12 c_3) rfl wd_811 wd_812 (wG_in (List.mem_append_left _ (List.mem_of_getElem? (i := 86) rfl)) rfl) xw_X12_of rfl (by decide) rfl rfl dX12_assign_122) (ev_X12_of hO hP h_6) xw_X12_of rfl wd_198 dX12_assign_122 (by decide) (by decide) (by simp [x_cat, x_catI, x_catJ])
        cases h
        exact x_callX z9 (evX_out rfl)
set_option maxHeartbeats 4000000 in
set_option maxRecDepth 100000 in
theorem ev_X12_assign_p52 {l : Launch} {G : xG} (hO : x_OK l G) {P : xP} (hP : x_PG P G) {a0 : Nat} {v1 : Int32} {v2 : Int32} {v3 : Int32} {v4 : Int32} {s0 : Int32} {σ σ' : xS} {rr : Int32 ⊕ String} (h : dm_X12_assign_p52 P a0 v1 v2 v3 v4 s0 σ = some (rr, σ')) : Ev l G mX12_assign 52 [(0, va_rf (some a0)), (1, .int v1), (2, .int v2), (3, .int v3), (4, .int v4)] [.int s0] σ (xrI rr) σ' := by
  unfold dm_X12_assign_p52 at h
  refine ev_istore (i := 5) (lv' := [(5, .int s0), (0, va_rf (some a0)), (1, .int v1), (2, .int v2), (3, .int v3), (4, .int v4)]) dX12_assign_52 (by decide) rfl ?_
  refine ev_iload (j := 0) (x := s0) dX12_assign_54 rfl ?_
  by_cases c_1 : s0 = 0
  · rw [if_pos c_1] at h
    refine ev_if_ne (x := s0) (tgt := 63) dX12_assign_56 (by decide) (fun q9 => absurd c_1 q9) (fun _ => ?_)
    refine ev_iconst (v := 0) dX12_assign_59 (by decide) ?_
    refine ev_goto (tgt := 100) dX12_assign_60 (by decide) ?_
    exact ev_sub [1, 2, 5, 0] rfl (ev_X12_assign_p100 hO hP h)
  · rw [if_neg c_1] at h
    refine ev_if_ne (x := s0) (tgt := 63) dX12_assign_56 (by decide) (fun _ => ?_) (fun q9 => absurd q9 c_1)
    refine ev_iload_n (j := 4) (x := v3) dX12_assign_63 rfl rfl ?_
    by_cases c_2 : v3 = 0
    · rw [if_pos c_2] at h
      refine ev_if_ne (x := v3) (tgt := 85) dX12_assign_64 (by decide) (fun q9 => absurd c_2 q9) (fun _ => ?_)
      refine ev_aload_n (j := 1) (x := (some a0)) dX12_assign_67 rfl rfl ?_
      obtain ⟨c_10, h⟩ := x_chk_e h
      refine ev_get (C := RX12) (T := TX12) (k := 22) inX12 (xE_12 c_10) rfl (by decide) wd_170 (Or.inl rfl) rfl dX12_assign_68 ?_
      refine ev_bipush (v := 8) dX12_assign_71 (by decide) ?_
      refine ev_aload_n (j := 1) (x := (some a0)) dX12_assign_73 rfl rfl ?_
      refine ev_iload_n (j := 2) (x := v1) dX12_assign_74 rfl rfl ?_
      rcases x_bind_e h with ⟨v_11, σ_12, h_13, h⟩ | ⟨E_16, σ_12, h_13, h⟩
      · have z9 := x_call (M := mX12_assign) (M' := mX12_of) (pc := 75) (st := [.int v1, va_rf (some a0), .int 8, va_rf (σ.R 1122 a0)]) (rest := [.int 8, va_rf (σ.R 1122 a0)]) (av := [va_rf (some a0), .int v1]) (x_linkV (M := mX12_assign) (M' := mX12_of) (As := [.int v1]) (index := 311) (C := RX12) (T := TX12) (xE_12 c_10) rfl wd_811 wd_812 (wG_in (List.mem_append_left _ (List.mem_of_getElem? (i := 86) rfl)) rfl) xw_X12_of rfl (by decide) rfl rfl dX12_assign_75) (ev_X12_of hO hP h_13) xw_X12_of rfl wd_198 dX12_assign_75 (by decide) (by decide) (by simp [x_cat, x_catI, x_catJ])
        refine x_callR z9 ?_
        refine ev_at (st' := [.int v_11, .int 8, va_rf (σ.R 1122 a0)]) rfl rfl ?_
        refine ev_imul (x := 8) (y := v_11) dX12_assign_78 ?_
        refine ev_iload_n (j := 3) (x := v2) dX12_assign_79 rfl rfl ?_
        refine ev_iadd (x := (8 * v_11)) (y := v2) dX12_assign_80 ?_
        obtain ⟨a_14, ea_14, h⟩ := x_some_e h
        refine ev_at (st' := [.int ((8 * v_11) + v2), va_rf (some a_14)]) rfl (by rw [ea_14]) ?_
        obtain ⟨c_15, h⟩ := x_chk_e h
        refine ev_iald_31 c_15.1 c_15.2 dX12_assign_81 ?_
        refine ev_goto (tgt := 100) dX12_assign_82 (by decide) ?_
        exact ev_sub [1, 2, 5, 0] rfl (ev_X12_assign_p100 hO hP h)
      · have z9 := x_call (M := mX12_assign) (M' := mX12_of) (pc := 75) (st := [.int v1, va_rf (some a0), .int 8, va_rf (σ.R 1122 a0)]) (rest := [.int 8, va_rf (σ.R 1122 a0)]) (av := [va_rf (some a0), .int v1]) (x_linkV (M := mX12_assign) (M' := mX12_of) (As := [.int v1]) (index := 311) (C := RX12) (T := TX12) (xE_12 c_10) rfl wd_811 wd_812 (wG_in (List.mem_append_left _ (List.mem_of_getElem? (i := 86) rfl)) rfl) xw_X12_of rfl (by decide) rfl rfl dX12_assign_75) (ev_X12_of hO hP h_13) xw_X12_of rfl wd_198 dX12_assign_75 (by decide) (by decide) (by simp [x_cat, x_catI, x_catJ])
        cases h
        exact x_callX z9 (evX_out rfl)
    · rw [if_neg c_2] at h
      refine ev_if_ne (x := v3) (tgt := 85) dX12_assign_64 (by decide) (fun _ => ?_) (fun q9 => absurd q9 c_2)
      refine ev_aload_n (j := 1) (x := (some a0)) dX12_assign_85 rfl rfl ?_
      obtain ⟨c_3, h⟩ := x_chk_e h
      refine ev_get (C := RX12) (T := TX12) (k := 23) inX12 (xE_12 c_3) rfl (by decide) wd_171 (Or.inl rfl) rfl dX12_assign_86 ?_
      refine ev_bipush (v := 8) dX12_assign_89 (by decide) ?_
      refine ev_aload_n (j := 1) (x := (some a0)) dX12_assign_91 rfl rfl ?_
      refine ev_iload_n (j := 2) (x := v1) dX12_assign_92 rfl rfl ?_
      rcases x_bind_e h with ⟨v_4, σ_5, h_6, h⟩ | ⟨E_9, σ_5, h_6, h⟩
      · have z9 := x_call (M := mX12_assign) (M' := mX12_of) (pc := 93) (st := [.int v1, va_rf (some a0), .int 8, va_rf (σ.R 1123 a0)]) (rest := [.int 8, va_rf (σ.R 1123 a0)]) (av := [va_rf (some a0), .int v1]) (x_linkV (M := mX12_assign) (M' := mX12_of) (As := [.int v1]) (index := 311) (C := RX12) (T := TX12) (xE_12 c_3) rfl wd_811 wd_812 (wG_in (List.mem_append_left _ (List.mem_of_getElem? (i := 86) rfl)) rfl) xw_X12_of rfl (by decide) rfl rfl dX12_assign_93) (ev_X12_of hO hP h_6) xw_X12_of rfl wd_198 dX12_assign_93 (by decide) (by decide) (by simp [x_cat, x_catI, x_catJ])
        refine x_callR z9 ?_
        refine ev_at (st' := [.int v_4, .int 8, va_rf (σ.R 1123 a0)]) rfl rfl ?_
        refine ev_imul (x := 8) (y := v_4) dX12_assign_96 ?_
        refine ev_iload_n (j := 3) (x := v2) dX12_assign_97 rfl rfl ?_
        refine ev_iadd (x := (8 * v_4)) (y := v2) dX12_assign_98 ?_
        obtain ⟨a_7, ea_7, h⟩ := x_some_e h
        refine ev_at (st' := [.int ((8 * v_4) + v2), va_rf (some a_7)]) rfl (by rw [ea_7]) ?_
        obtain ⟨c_8, h⟩ := x_chk_e h
        refine ev_iald_31 c_8.1 c_8.2 dX12_assign_99 ?_
        exact ev_sub [1, 2, 5, 0] rfl (ev_X12_assign_p100 hO hP h)
      · have z9 := x_call (M := mX12_assign) (M' := mX12_of) (pc := 93) (st := [.int v1, va_rf (some a0), .int 8, va_rf (σ.R 1123 a0)]) (rest := [.int 8, va_rf (σ.R 1123 a0)]) (av := [va_rf (some a0), .int v1]) (x_linkV (M := mX12_assign) (M' := mX12_of) (As := [.int v1]) (index := 311) (C := RX12) (T := TX12) (xE_12 c_3) rfl wd_811 wd_812 (wG_in (List.mem_append_left _ (List.mem_of_getElem? (i := 86) rfl)) rfl) xw_X12_of rfl (by decide) rfl rfl dX12_assign_93) (ev_X12_of hO hP h_6) xw_X12_of rfl wd_198 dX12_assign_93 (by decide) (by decide) (by simp [x_cat, x_catI, x_catJ])
        cases h
        exact x_callX z9 (evX_out rfl)
set_option maxHeartbeats 4000000 in
set_option maxRecDepth 100000 in
theorem ev_X12_assign_p47 {l : Launch} {G : xG} (hO : x_OK l G) {P : xP} (hP : x_PG P G) {a0 : Nat} {v1 : Int32} {v2 : Int32} {v3 : Int32} {v4 : Int32} {σ σ' : xS} {rr : Int32 ⊕ String} (h : dm_X12_assign_p47 P a0 v1 v2 v3 v4 σ = some (rr, σ')) : Ev l G mX12_assign 47 [(0, va_rf (some a0)), (1, .int v1), (2, .int v2), (3, .int v3), (4, .int v4)] [] σ (xrI rr) σ' := by
  unfold dm_X12_assign_p47 at h
  refine ev_iconst (v := 1) dX12_assign_47 (by decide) ?_
  refine ev_goto (tgt := 52) dX12_assign_48 (by decide) ?_
  exact ev_sub [0, 1, 2, 3, 4] rfl (ev_X12_assign_p52 hO hP h)
set_option maxHeartbeats 4000000 in
set_option maxRecDepth 100000 in
theorem ev_X12_assign_p51 {l : Launch} {G : xG} (hO : x_OK l G) {P : xP} (hP : x_PG P G) {a0 : Nat} {v1 : Int32} {v2 : Int32} {v3 : Int32} {v4 : Int32} {σ σ' : xS} {rr : Int32 ⊕ String} (h : dm_X12_assign_p51 P a0 v1 v2 v3 v4 σ = some (rr, σ')) : Ev l G mX12_assign 51 [(0, va_rf (some a0)), (1, .int v1), (2, .int v2), (3, .int v3), (4, .int v4)] [] σ (xrI rr) σ' := by
  unfold dm_X12_assign_p51 at h
  refine ev_iconst (v := 0) dX12_assign_51 (by decide) ?_
  exact ev_sub [0, 1, 2, 3, 4] rfl (ev_X12_assign_p52 hO hP h)
set_option maxHeartbeats 4000000 in
set_option maxRecDepth 100000 in
theorem ev_X12_assign_p31 {l : Launch} {G : xG} (hO : x_OK l G) {P : xP} (hP : x_PG P G) {a0 : Nat} {v1 : Int32} {v2 : Int32} {v3 : Int32} {v4 : Int32} {s0 : Int32} {s1 : Option Nat} {s2 : Option Nat} {s3 : Int32} {σ σ' : xS} {rr : Int32 ⊕ String} (h : dm_X12_assign_p31 P a0 v1 v2 v3 v4 s0 s1 s2 s3 σ = some (rr, σ')) : Ev l G mX12_assign 31 [(0, va_rf (some a0)), (1, .int v1), (2, .int v2), (3, .int v3), (4, .int v4)] [.int s3, va_rf s2, va_rf s1, .int s0] σ (xrI rr) σ' := by
  unfold dm_X12_assign_p31 at h
  obtain ⟨a_1, ea_1, h⟩ := x_some_e h
  refine ev_at (st' := [.int s3, va_rf (some a_1), va_rf s1, .int s0]) rfl (by rw [ea_1]) ?_
  obtain ⟨c_5, h⟩ := x_chk_e h
  rcases x_bind_e h with ⟨v_2, σ_3, h_4, h⟩ | ⟨E_11, σ_3, h_4, h⟩
  · have z9 := x_call (M := mX12_assign) (M' := mX12_of) (pc := 31) (st := [.int s3, va_rf (some a_1), va_rf s1, .int s0]) (rest := [va_rf s1, .int s0]) (av := [va_rf (some a_1), .int s3]) (x_linkV (M := mX12_assign) (M' := mX12_of) (As := [.int s3]) (index := 311) (C := RX12) (T := TX12) (xE_12 c_5) rfl wd_811 wd_812 (wG_in (List.mem_append_left _ (List.mem_of_getElem? (i := 86) rfl)) rfl) xw_X12_of rfl (by decide) rfl rfl dX12_assign_31) (ev_X12_of hO hP h_4) xw_X12_of rfl wd_198 dX12_assign_31 (by decide) (by decide) (by simp [x_cat, x_catI, x_catJ])
    refine x_callR z9 ?_
    refine ev_at (st' := [.int v_2, va_rf s1, .int s0]) rfl rfl ?_
    obtain ⟨a_6, ea_6, h⟩ := x_some_e h
    refine ev_at (st' := [.int v_2, va_rf (some a_6), .int s0]) rfl (by rw [ea_6]) ?_
    obtain ⟨c_7, h⟩ := x_chk_e h
    refine ev_iald_31 c_7.1 c_7.2 dX12_assign_34 ?_
    by_cases c_8 : (σ_3.AI a_6 (Int32.toNatClampNeg v_2)) ≤ s0
    · rw [if_pos c_8] at h
      refine ev_icmp_ge (x := s0) (y := (σ_3.AI a_6 (Int32.toNatClampNeg v_2))) (tgt := 51) dX12_assign_35 (by decide) (fun _ => ?_) (fun q9 => absurd c_8 q9)
      exact ev_sub [0, 1, 2, 3, 4] rfl (ev_X12_assign_p51 hO hP h)
    · rw [if_neg c_8] at h
      refine ev_icmp_ge (x := s0) (y := (σ_3.AI a_6 (Int32.toNatClampNeg v_2))) (tgt := 51) dX12_assign_35 (by decide) (fun q9 => absurd q9 c_8) (fun _ => ?_)
      refine ev_iload_n (j := 3) (x := v3) dX12_assign_38 rfl rfl ?_
      by_cases c_9 : v3 = 0
      · rw [if_pos c_9] at h
        refine ev_if_eq (x := v3) (tgt := 47) dX12_assign_39 (by decide) (fun _ => ?_) (fun q9 => absurd c_9 q9)
        exact ev_sub [0, 1, 2, 3, 4] rfl (ev_X12_assign_p47 hO hP h)
      · rw [if_neg c_9] at h
        refine ev_if_eq (x := v3) (tgt := 47) dX12_assign_39 (by decide) (fun q9 => absurd q9 c_9) (fun _ => ?_)
        refine ev_iload_n (j := 3) (x := v3) dX12_assign_42 rfl rfl ?_
        refine ev_iconst (v := 1) dX12_assign_43 (by decide) ?_
        by_cases c_10 : v3 = 1
        · rw [if_pos c_10] at h
          refine ev_icmp_ne (x := v3) (y := 1) (tgt := 51) dX12_assign_44 (by decide) (fun q9 => absurd c_10 q9) (fun _ => ?_)
          exact ev_sub [0, 1, 2, 3, 4] rfl (ev_X12_assign_p47 hO hP h)
        · rw [if_neg c_10] at h
          refine ev_icmp_ne (x := v3) (y := 1) (tgt := 51) dX12_assign_44 (by decide) (fun _ => ?_) (fun q9 => absurd q9 c_10)
          exact ev_sub [0, 1, 2, 3, 4] rfl (ev_X12_assign_p51 hO hP h)
  · have z9 := x_call (M := mX12_assign) (M' := mX12_of) (pc := 31) (st := [.int s3, va_rf (some a_1), va_rf s1, .int s0]) (rest := [va_rf s1, .int s0]) (av := [va_rf (some a_1), .int s3]) (x_linkV (M := mX12_assign) (M' := mX12_of) (As := [.int s3]) (index := 311) (C := RX12) (T := TX12) (xE_12 c_5) rfl wd_811 wd_812 (wG_in (List.mem_append_left _ (List.mem_of_getElem? (i := 86) rfl)) rfl) xw_X12_of rfl (by decide) rfl rfl dX12_assign_31) (ev_X12_of hO hP h_4) xw_X12_of rfl wd_198 dX12_assign_31 (by decide) (by decide) (by simp [x_cat, x_catI, x_catJ])
    cases h
    exact x_callX z9 (evX_out rfl)
set_option maxHeartbeats 4000000 in
set_option maxRecDepth 100000 in
theorem ev_X12_assign {l : Launch} {G : xG} (hO : x_OK l G) {P : xP} (hP : x_PG P G) {a0 : Nat} {v1 : Int32} {v2 : Int32} {v3 : Int32} {v4 : Int32} {σ σ' : xS} {rr : Int32 ⊕ String} (h : dm_X12_assign P a0 v1 v2 v3 v4 σ = some (rr, σ')) : EvM l G mX12_assign [va_rf (some a0), .int v1, .int v2, .int v3, .int v4] σ (xrI rr) σ' := by
  unfold dm_X12_assign at h
  refine evM_of hO (by decide +kernel) (x_lenI (by simp [x_cat, x_catI, x_catJ, mX12_assign, xM.maxL])) ?_
  refine Eq.mp (congrArg (fun z => Ev l G mX12_assign 0 z [] σ (xrI rr) σ') (show [(0, va_rf (some a0)), (1, .int v1), (2, .int v2), (3, .int v3), (4, .int v4)] = lv_args 0 [va_rf (some a0), .int v1, .int v2, .int v3, .int v4] by simp [lv_args, x_cat, x_catI, x_catJ])) ?_
  refine ev_aload_n (j := 0) (x := (some a0)) dX12_assign_0 rfl rfl ?_
  refine ev_iload_n (j := 1) (x := v1) dX12_assign_1 rfl rfl ?_
  obtain ⟨c_4, h⟩ := x_chk_e h
  rcases x_bind_e h with ⟨v_1, σ_2, h_3, h⟩ | ⟨E_13, σ_2, h_3, h⟩
  · have z9 := x_call (M := mX12_assign) (M' := mX12_isModule) (pc := 2) (st := [.int v1, va_rf (some a0)]) (rest := []) (av := [va_rf (some a0), .int v1]) (x_linkV (M := mX12_assign) (M' := mX12_isModule) (As := [.int v1]) (index := 308) (C := RX12) (T := TX12) (xE_12 c_4) rfl wd_808 wd_809 (wG_in (List.mem_append_left _ (List.mem_of_getElem? (i := 85) rfl)) rfl) xw_X12_isModule rfl (by decide) rfl rfl dX12_assign_2) (ev_X12_isModule hO hP h_3) xw_X12_isModule rfl wd_198 dX12_assign_2 (by decide) (by decide) (by simp [x_cat, x_catI, x_catJ])
    refine x_callR z9 ?_
    refine ev_at (st' := [.int v_1]) rfl rfl ?_
    by_cases c_5 : v_1 = 0
    · rw [if_pos c_5] at h
      refine ev_if_eq (x := v_1) (tgt := 51) dX12_assign_5 (by decide) (fun _ => ?_) (fun q9 => absurd c_5 q9)
      exact ev_sub [0, 1, 2, 3, 4] rfl (ev_X12_assign_p51 hO hP h)
    · rw [if_neg c_5] at h
      refine ev_if_eq (x := v_1) (tgt := 51) dX12_assign_5 (by decide) (fun q9 => absurd q9 c_5) (fun _ => ?_)
      refine ev_iload_n (j := 2) (x := v2) dX12_assign_8 rfl rfl ?_
      by_cases c_6 : v2 < 0
      · rw [if_pos c_6] at h
        refine ev_if_lt (x := v2) (tgt := 51) dX12_assign_9 (by decide) (fun _ => ?_) (fun q9 => absurd c_6 q9)
        exact ev_sub [0, 1, 2, 3, 4] rfl (ev_X12_assign_p51 hO hP h)
      · rw [if_neg c_6] at h
        refine ev_if_lt (x := v2) (tgt := 51) dX12_assign_9 (by decide) (fun q9 => absurd q9 c_6) (fun _ => ?_)
        refine ev_iload_n (j := 2) (x := v2) dX12_assign_12 rfl rfl ?_
        refine ev_aload_n (j := 0) (x := (some a0)) dX12_assign_13 rfl rfl ?_
        obtain ⟨c_7, h⟩ := x_chk_e h
        refine ev_get (C := RX12) (T := TX12) (k := 21) inX12 (xE_12 c_7) rfl (by decide) wd_169 (Or.inl rfl) rfl dX12_assign_14 ?_
        refine ev_aload_n (j := 0) (x := (some a0)) dX12_assign_17 rfl rfl ?_
        refine ev_aload_n (j := 0) (x := (some a0)) dX12_assign_18 rfl rfl ?_
        refine ev_iload_n (j := 1) (x := v1) dX12_assign_19 rfl rfl ?_
        rcases x_bind_e h with ⟨v_8, σ_9, h_10, h⟩ | ⟨E_12, σ_9, h_10, h⟩
        · have z9 := x_call (M := mX12_assign) (M' := mX12_isModule) (pc := 20) (st := [.int v1, va_rf (some a0), va_rf (some a0), va_rf (σ_2.R 1121 a0), .int v2]) (rest := [va_rf (some a0), va_rf (σ_2.R 1121 a0), .int v2]) (av := [va_rf (some a0), .int v1]) (x_linkV (M := mX12_assign) (M' := mX12_isModule) (As := [.int v1]) (index := 308) (C := RX12) (T := TX12) (xE_12 c_7) rfl wd_808 wd_809 (wG_in (List.mem_append_left _ (List.mem_of_getElem? (i := 85) rfl)) rfl) xw_X12_isModule rfl (by decide) rfl rfl dX12_assign_20) (ev_X12_isModule hO hP h_10) xw_X12_isModule rfl wd_198 dX12_assign_20 (by decide) (by decide) (by simp [x_cat, x_catI, x_catJ])
          refine x_callR z9 ?_
          refine ev_at (st' := [.int v_8, va_rf (some a0), va_rf (σ_2.R 1121 a0), .int v2]) rfl rfl ?_
          by_cases c_11 : v_8 = 0
          · rw [if_pos c_11] at h
            refine ev_if_eq (x := v_8) (tgt := 30) dX12_assign_23 (by decide) (fun _ => ?_) (fun q9 => absurd c_11 q9)
            refine ev_iconst (v := 0) dX12_assign_30 (by decide) ?_
            exact ev_sub [0, 1, 2, 3, 4] rfl (ev_X12_assign_p31 hO hP h)
          · rw [if_neg c_11] at h
            refine ev_if_eq (x := v_8) (tgt := 30) dX12_assign_23 (by decide) (fun q9 => absurd q9 c_11) (fun _ => ?_)
            refine ev_iload_n (j := 1) (x := v1) dX12_assign_26 rfl rfl ?_
            refine ev_goto (tgt := 31) dX12_assign_27 (by decide) ?_
            exact ev_sub [0, 1, 2, 3, 4] rfl (ev_X12_assign_p31 hO hP h)
        · have z9 := x_call (M := mX12_assign) (M' := mX12_isModule) (pc := 20) (st := [.int v1, va_rf (some a0), va_rf (some a0), va_rf (σ_2.R 1121 a0), .int v2]) (rest := [va_rf (some a0), va_rf (σ_2.R 1121 a0), .int v2]) (av := [va_rf (some a0), .int v1]) (x_linkV (M := mX12_assign) (M' := mX12_isModule) (As := [.int v1]) (index := 308) (C := RX12) (T := TX12) (xE_12 c_7) rfl wd_808 wd_809 (wG_in (List.mem_append_left _ (List.mem_of_getElem? (i := 85) rfl)) rfl) xw_X12_isModule rfl (by decide) rfl rfl dX12_assign_20) (ev_X12_isModule hO hP h_10) xw_X12_isModule rfl wd_198 dX12_assign_20 (by decide) (by decide) (by simp [x_cat, x_catI, x_catJ])
          cases h
          exact x_callX z9 (evX_out rfl)
  · have z9 := x_call (M := mX12_assign) (M' := mX12_isModule) (pc := 2) (st := [.int v1, va_rf (some a0)]) (rest := []) (av := [va_rf (some a0), .int v1]) (x_linkV (M := mX12_assign) (M' := mX12_isModule) (As := [.int v1]) (index := 308) (C := RX12) (T := TX12) (xE_12 c_4) rfl wd_808 wd_809 (wG_in (List.mem_append_left _ (List.mem_of_getElem? (i := 85) rfl)) rfl) xw_X12_isModule rfl (by decide) rfl rfl dX12_assign_2) (ev_X12_isModule hO hP h_3) xw_X12_isModule rfl wd_198 dX12_assign_2 (by decide) (by decide) (by simp [x_cat, x_catI, x_catJ])
    cases h
    exact x_callX z9 (evX_out rfl)
