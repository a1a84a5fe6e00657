set_option maxHeartbeats 4000000 in
set_option maxRecDepth 100000 in
theorem ev_X12_write_p108 {l : Launch} {G : xG} (hO : x_OK l G) {P : xP} (hP : x_PG P G) {a0 : Nat} {k59 : Int32 → Int32 → xS → xO Int32} (hk59 : ∀ {v1 : Int32} {v4 : Int32} {σ σ' : xS} {rr : Int32 ⊕ String}, k59 v1 v4 σ = some (rr, σ') → Ev l G mX12_write 59 [(0, va_rf (some a0)), (1, .int v1), (4, .int v4)] [] σ (xrI rr) σ') {v1 : Int32} {v4 : Int32} {σ σ' : xS} {rr : Int32 ⊕ String} (h : dm_X12_write_p108 P k59 a0 v1 v4 σ = some (rr, σ')) : Ev l G mX12_write 108 [(0, va_rf (some a0)), (1, .int v1), (4, .int v4)] [] σ (xrI rr) σ' := by
  unfold dm_X12_write_p108 at h
  obtain ⟨v_1, ev_1, h⟩ := x_let_e h
  refine ev_iinc (j := 2) (x := v4) (v := v_1) (lv' := [(4, .int v_1), (0, va_rf (some a0)), (1, .int v1)]) dX12_write_108 rfl (by rw [ev_1]; rfl) (by decide) rfl ?_
  refine ev_goto (tgt := 59) dX12_write_111 (by decide) ?_
  exact ev_sub [1, 2, 0] rfl (hk59 h)
set_option maxHeartbeats 4000000 in
set_option maxRecDepth 100000 in
theorem ev_X12_write_p114 {l : Launch} {G : xG} (hO : x_OK l G) {P : xP} (hP : x_PG P G) {a0 : Nat} {σ σ' : xS} {rr : Int32 ⊕ String} (h : dm_X12_write_p114 P a0 σ = some (rr, σ')) : Ev l G mX12_write 114 [(0, va_rf (some a0))] [] σ (xrI rr) σ' := by
  unfold dm_X12_write_p114 at h
  refine ev_aload_n (j := 0) (x := (some a0)) dX12_write_114 rfl rfl ?_
  obtain ⟨c_1, h⟩ := x_chk_e h
  refine ev_get (C := RX12) (T := TX12) (k := 44) inX12 (xE_12 c_1) rfl (by decide) wd_942 (Or.inl rfl) rfl dX12_write_115 ?_
  cases h
  exact ev_iret rfl rfl dX12_write_118
set_option maxHeartbeats 4000000 in
set_option maxRecDepth 100000 in
theorem ev_X12_write_L59 {l : Launch} {G : xG} (hO : x_OK l G) {P : xP} (hP : x_PG P G) {a0 : Nat} : ∀ (n : Nat) {v1 : Int32} {v4 : Int32} {σ σ' : xS} {rr : Int32 ⊕ String}, dm_X12_write_L59 P a0 n v1 v4 σ = some (rr, σ') → Ev l G mX12_write 59 [(0, va_rf (some a0)), (1, .int v1), (4, .int v4)] [] σ (xrI rr) σ' := by
  intro n
  induction n with
  | zero => intro v1 v4 σ σ' rr h; cases h
  | succ n ih =>
    intro v1 v4 σ σ' rr h
    rw [dm_X12_write_L59] at h
    refine ev_iload (j := 2) (x := v4) dX12_write_59 rfl ?_
    refine ev_aload_n (j := 0) (x := (some a0)) dX12_write_61 rfl rfl ?_
    obtain ⟨c_1, h⟩ := x_chk_e h
    refine ev_get (C := RX12) (T := TX12) (k := 6) inX12 (xE_12 c_1) rfl (by decide) wd_153 (Or.inl rfl) rfl dX12_write_62 ?_
    refine ev_aload_n (j := 0) (x := (some a0)) dX12_write_65 rfl rfl ?_
    refine ev_get (C := RX12) (T := TX12) (k := 3) inX12 (xE_12 c_1) rfl (by decide) wd_783 (Or.inl rfl) rfl dX12_write_66 ?_
    obtain ⟨a_2, ea_2, h⟩ := x_some_e h
    refine ev_at (st' := [.int (σ.I 1103 a0), va_rf (some a_2), .int v4]) rfl (by rw [ea_2]) ?_
    obtain ⟨c_3, h⟩ := x_chk_e h
    refine ev_iald_31 c_3.1 c_3.2 dX12_write_69 ?_
    by_cases c_4 : (σ.AI a_2 (Int32.toNatClampNeg (σ.I 1103 a0))) ≤ v4
    · rw [if_pos c_4] at h
      refine ev_icmp_ge (x := v4) (y := (σ.AI a_2 (Int32.toNatClampNeg (σ.I 1103 a0)))) (tgt := 114) dX12_write_70 (by decide) (fun _ => ?_) (fun q9 => absurd c_4 q9)
      exact ev_sub [0] rfl (ev_X12_write_p114 hO hP h)
    · rw [if_neg c_4] at h
      refine ev_icmp_ge (x := v4) (y := (σ.AI a_2 (Int32.toNatClampNeg (σ.I 1103 a0)))) (tgt := 114) dX12_write_70 (by decide) (fun q9 => absurd q9 c_4) (fun _ => ?_)
      refine ev_aload_n (j := 0) (x := (some a0)) dX12_write_73 rfl rfl ?_
      refine ev_get (C := RX12) (T := TX12) (k := 44) inX12 (xE_12 c_1) rfl (by decide) wd_942 (Or.inl rfl) rfl dX12_write_74 ?_
      refine ev_iconst (v := -1) dX12_write_77 (by decide) ?_
      by_cases c_5 : (σ.I 1144 a0) = (-1)
      · rw [if_pos c_5] at h
        refine ev_icmp_ne (x := (σ.I 1144 a0)) (y := (-1)) (tgt := 114) dX12_write_78 (by decide) (fun q9 => absurd c_5 q9) (fun _ => ?_)
        refine ev_iload_n (j := 1) (x := v1) dX12_write_81 rfl rfl ?_
        by_cases c_6 : v1 = 0
        · rw [if_pos c_6] at h
          refine ev_if_ne (x := v1) (tgt := 98) dX12_write_82 (by decide) (fun q9 => absurd c_6 q9) (fun _ => ?_)
          refine ev_aload_n (j := 0) (x := (some a0)) dX12_write_85 rfl rfl ?_
          refine ev_aload_n (j := 0) (x := (some a0)) dX12_write_86 rfl rfl ?_
          refine ev_iload (j := 2) (x := v4) dX12_write_87 rfl ?_
          rcases x_bind_e h with ⟨v_16, σ_17, h_18, h⟩ | ⟨E_24, σ_17, h_18, h⟩
          · have z9 := x_call (M := mX12_write) (M' := mX12_of) (pc := 89) (st := [.int v4, va_rf (some a0), va_rf (some a0)]) (rest := [va_rf (some a0)]) (av := [va_rf (some a0), .int v4]) (x_linkV (M := mX12_write) (M' := mX12_of) (As := [.int v4]) (index := 311) (C := RX12) (T := TX12) (xE_12 c_1) rfl wd_811 wd_812 (wG_in (List.mem_append_left _ (List.mem_of_getElem? (i := 86) rfl)) rfl) xw_X12_of rfl (by decide) rfl rfl dX12_write_89) (ev_X12_of hO hP h_18) xw_X12_of rfl wd_198 dX12_write_89 (by decide) (by decide) (by simp [x_cat, x_catI, x_catJ])
            refine x_callR z9 ?_
            refine ev_at (st' := [.int v_16, va_rf (some a0)]) rfl rfl ?_
            obtain ⟨c_22, h⟩ := x_chk_e h
            rcases x_bind_e h with ⟨v_19, σ_20, h_21, h⟩ | ⟨E_23, σ_20, h_21, h⟩
            · have z9 := x_call (M := mX12_write) (M' := mX12_longOut) (pc := 92) (st := [.int v_16, va_rf (some a0)]) (rest := []) (av := [va_rf (some a0), .int v_16]) (x_linkV (M := mX12_write) (M' := mX12_longOut) (As := [.int v_16]) (index := 373) (C := RX12) (T := TX12) (xE_12 c_22) rfl wd_974 wd_975 (wG_in (List.mem_append_left _ (List.mem_of_getElem? (i := 94) rfl)) rfl) xw_X12_longOut rfl (by decide) rfl rfl dX12_write_92) (ev_X12_longOut hO hP h_21) xw_X12_longOut rfl wd_198 dX12_write_92 (by decide) (by decide) (by simp [x_cat, x_catI, x_catJ])
              refine x_callR z9 ?_
              refine ev_at (st' := []) rfl rfl ?_
              refine ev_goto (tgt := 108) dX12_write_95 (by decide) ?_
              exact ev_sub [0, 1, 2] rfl (ev_X12_write_p108 hO hP ih h)
            · have z9 := x_call (M := mX12_write) (M' := mX12_longOut) (pc := 92) (st := [.int v_16, va_rf (some a0)]) (rest := []) (av := [va_rf (some a0), .int v_16]) (x_linkV (M := mX12_write) (M' := mX12_longOut) (As := [.int v_16]) (index := 373) (C := RX12) (T := TX12) (xE_12 c_22) rfl wd_974 wd_975 (wG_in (List.mem_append_left _ (List.mem_of_getElem? (i := 94) rfl)) rfl) xw_X12_longOut rfl (by decide) rfl rfl dX12_write_92) (ev_X12_longOut hO hP h_21) xw_X12_longOut rfl wd_198 dX12_write_92 (by decide) (by decide) (by simp [x_cat, x_catI, x_catJ])
              cases h
              exact x_callX z9 (evX_out rfl)
          · have z9 := x_call (M := mX12_write) (M' := mX12_of) (pc := 89) (st := [.int v4, va_rf (some a0), va_rf (some a0)]) (rest := [va_rf (some a0)]) (av := [va_rf (some a0), .int v4]) (x_linkV (M := mX12_write) (M' := mX12_of) (As := [.int v4]) (index := 311) (C := RX12) (T := TX12) (xE_12 c_1) rfl wd_811 wd_812 (wG_in (List.mem_append_left _ (List.mem_of_getElem? (i := 86) rfl)) rfl) xw_X12_of rfl (by decide) rfl rfl dX12_write_89) (ev_X12_of hO hP h_18) xw_X12_of rfl wd_198 dX12_write_89 (by decide) (by decide) (by simp [x_cat, x_catI, x_catJ])
            cases h
            exact x_callX z9 (evX_out rfl)
        · rw [if_neg c_6] at h
          refine ev_if_ne (x := v1) (tgt := 98) dX12_write_82 (by decide) (fun _ => ?_) (fun q9 => absurd q9 c_6)
          refine ev_aload_n (j := 0) (x := (some a0)) dX12_write_98 rfl rfl ?_
          refine ev_aload_n (j := 0) (x := (some a0)) dX12_write_99 rfl rfl ?_
          refine ev_iload (j := 2) (x := v4) dX12_write_100 rfl ?_
          rcases x_bind_e h with ⟨v_7, σ_8, h_9, h⟩ | ⟨E_15, σ_8, h_9, h⟩
          · have z9 := x_call (M := mX12_write) (M' := mX12_of) (pc := 102) (st := [.int v4, va_rf (some a0), va_rf (some a0)]) (rest := [va_rf (some a0)]) (av := [va_rf (some a0), .int v4]) (x_linkV (M := mX12_write) (M' := mX12_of) (As := [.int v4]) (index := 311) (C := RX12) (T := TX12) (xE_12 c_1) rfl wd_811 wd_812 (wG_in (List.mem_append_left _ (List.mem_of_getElem? (i := 86) rfl)) rfl) xw_X12_of rfl (by decide) rfl rfl dX12_write_102) (ev_X12_of hO hP h_9) xw_X12_of rfl wd_198 dX12_write_102 (by decide) (by decide) (by simp [x_cat, x_catI, x_catJ])
            refine x_callR z9 ?_
            refine ev_at (st' := [.int v_7, va_rf (some a0)]) rfl rfl ?_
            obtain ⟨c_13, h⟩ := x_chk_e h
            rcases x_bind_e h with ⟨v_10, σ_11, h_12, h⟩ | ⟨E_14, σ_11, h_12, h⟩
            · have z9 := x_call (M := mX12_write) (M' := mX12_shortOut) (pc := 105) (st := [.int v_7, va_rf (some a0)]) (rest := []) (av := [va_rf (some a0), .int v_7]) (x_linkV (M := mX12_write) (M' := mX12_shortOut) (As := [.int v_7]) (index := 376) (C := RX12) (T := TX12) (xE_12 c_13) rfl wd_971 wd_972 (wG_in (List.mem_append_left _ (List.mem_of_getElem? (i := 104) rfl)) rfl) xw_X12_shortOut rfl (by decide) rfl rfl dX12_write_105) (ev_X12_shortOut hO hP h_12) xw_X12_shortOut rfl wd_198 dX12_write_105 (by decide) (by decide) (by simp [x_cat, x_catI, x_catJ])
              refine x_callR z9 ?_
              refine ev_at (st' := []) rfl rfl ?_
              exact ev_sub [0, 1, 2] rfl (ev_X12_write_p108 hO hP ih h)
            · have z9 := x_call (M := mX12_write) (M' := mX12_shortOut) (pc := 105) (st := [.int v_7, va_rf (some a0)]) (rest := []) (av := [va_rf (some a0), .int v_7]) (x_linkV (M := mX12_write) (M' := mX12_shortOut) (As := [.int v_7]) (index := 376) (C := RX12) (T := TX12) (xE_12 c_13) rfl wd_971 wd_972 (wG_in (List.mem_append_left _ (List.mem_of_getElem? (i := 104) rfl)) rfl) xw_X12_shortOut rfl (by decide) rfl rfl dX12_write_105) (ev_X12_shortOut hO hP h_12) xw_X12_shortOut rfl wd_198 dX12_write_105 (by decide) (by decide) (by simp [x_cat, x_catI, x_catJ])
              cases h
              exact x_callX z9 (evX_out rfl)
          · have z9 := x_call (M := mX12_write) (M' := mX12_of) (pc := 102) (st := [.int v4, va_rf (some a0), va_rf (some a0)]) (rest := [va_rf (some a0)]) (av := [va_rf (some a0), .int v4]) (x_linkV (M := mX12_write) (M' := mX12_of) (As := [.int v4]) (index := 311) (C := RX12) (T := TX12) (xE_12 c_1) rfl wd_811 wd_812 (wG_in (List.mem_append_left _ (List.mem_of_getElem? (i := 86) rfl)) rfl) xw_X12_of rfl (by decide) rfl rfl dX12_write_102) (ev_X12_of hO hP h_9) xw_X12_of rfl wd_198 dX12_write_102 (by decide) (by decide) (by simp [x_cat, x_catI, x_catJ])
            cases h
            exact x_callX z9 (evX_out rfl)
      · rw [if_neg c_5] at h
        refine ev_icmp_ne (x := (σ.I 1144 a0)) (y := (-1)) (tgt := 114) dX12_write_78 (by decide) (fun _ => ?_) (fun q9 => absurd q9 c_5)
        exact ev_sub [0] rfl (ev_X12_write_p114 hO hP h)
set_option maxHeartbeats 4000000 in
set_option maxRecDepth 100000 in
theorem ev_X12_write_p29 {l : Launch} {G : xG} (hO : x_OK l G) {P : xP} (hP : x_PG P G) {a0 : Nat} {v1 : Int32} {v2 : Int32} {s0 : Option Nat} {s1 : Int32} {σ σ' : xS} {rr : Int32 ⊕ String} (h : dm_X12_write_p29 P a0 v1 v2 s0 s1 σ = some (rr, σ')) : Ev l G mX12_write 29 [(0, va_rf (some a0)), (1, .int v1), (2, .int v2)] [.int s1, va_rf s0] σ (xrI rr) σ' := by
  unfold dm_X12_write_p29 at h
  obtain ⟨a_1, ea_1, h⟩ := x_some_e h
  refine ev_at (st' := [.int s1, va_rf (some a_1)]) rfl (by rw [ea_1]) ?_
  obtain ⟨c_2, h⟩ := x_chk_e h
  obtain ⟨σ_3, eσ_3, h⟩ := x_let_e h
  refine ev_put (σ2 := σ_3) (C := RX12) (T := TX12) (k := 0) inX12 tyX12 tyX12_ok nmX12 (xE_12 c_2.1) rfl (by decide) wd_194 (Or.inl rfl) rfl rfl rfl rfl (Nat.le_of_ble_eq_true rfl) (hP.2.2.2.1 ▸ c_2.2) (by rw [eσ_3]; exact xP_12_0 _ c_2.1) (by rw [eσ_3]; exact xPut_I) dX12_write_29 ?_
  refine ev_aload_n (j := 0) (x := (some a0)) dX12_write_32 rfl rfl ?_
  obtain ⟨c_4, h⟩ := x_chk_e h
  refine ev_get (C := RX12) (T := TX12) (k := 0) inX12 (xE_12 c_4) rfl (by decide) wd_194 (Or.inl rfl) rfl dX12_write_33 ?_
  by_cases c_5 : (σ_3.I 1100 a0) ≤ 0
  · rw [if_pos c_5] at h
    refine ev_if_le (x := (σ_3.I 1100 a0)) (tgt := 41) dX12_write_36 (by decide) (fun _ => ?_) (fun q9 => absurd c_5 q9)
    refine ev_aload_n (j := 0) (x := (some a0)) dX12_write_41 rfl rfl ?_
    refine ev_iconst (v := 0) dX12_write_42 (by decide) ?_
    obtain ⟨c_6, h⟩ := x_chk_e h
    obtain ⟨σ_7, eσ_7, h⟩ := x_let_e h
    refine ev_put (σ2 := σ_7) (C := RX12) (T := TX12) (k := 42) inX12 tyX12 tyX12_ok nmX12 (xE_12 c_6.1) rfl (by decide) wd_940 (Or.inl rfl) rfl rfl rfl rfl (Nat.le_of_ble_eq_true rfl) (hP.2.2.2.1 ▸ c_6.2) (by rw [eσ_7]; exact xP_12_42 _ c_6.1) (by rw [eσ_7]; exact xPut_I) dX12_write_43 ?_
    refine ev_aload_n (j := 0) (x := (some a0)) dX12_write_46 rfl rfl ?_
    refine ev_iload_n (j := 2) (x := v2) dX12_write_47 rfl rfl ?_
    obtain ⟨c_8, h⟩ := x_chk_e h
    obtain ⟨σ_9, eσ_9, h⟩ := x_let_e h
    refine ev_put (σ2 := σ_9) (C := RX12) (T := TX12) (k := 43) inX12 tyX12 tyX12_ok nmX12 (xE_12 c_8.1) rfl (by decide) wd_941 (Or.inl rfl) rfl rfl rfl rfl (Nat.le_of_ble_eq_true rfl) (hP.2.2.2.1 ▸ c_8.2) (by rw [eσ_9]; exact xP_12_43 _ c_8.1) (by rw [eσ_9]; exact xPut_I) dX12_write_48 ?_
    refine ev_aload_n (j := 0) (x := (some a0)) dX12_write_51 rfl rfl ?_
    refine ev_iconst (v := -1) dX12_write_52 (by decide) ?_
    obtain ⟨c_10, h⟩ := x_chk_e h
    obtain ⟨σ_11, eσ_11, h⟩ := x_let_e h
    refine ev_put (σ2 := σ_11) (C := RX12) (T := TX12) (k := 44) inX12 tyX12 tyX12_ok nmX12 (xE_12 c_10.1) rfl (by decide) wd_942 (Or.inl rfl) rfl rfl rfl rfl (Nat.le_of_ble_eq_true rfl) (hP.2.2.2.1 ▸ c_10.2) (by rw [eσ_11]; exact xP_12_44 _ c_10.1) (by rw [eσ_11]; exact xPut_I) dX12_write_53 ?_
    refine ev_iconst (v := 0) dX12_write_56 (by decide) ?_
    refine ev_istore (i := 4) (lv' := [(4, .int 0), (0, va_rf (some a0)), (1, .int v1), (2, .int v2)]) dX12_write_57 (by decide) rfl ?_
    exact ev_sub [1, 2, 0] rfl (ev_X12_write_L59 hO hP P.N h)
  · rw [if_neg c_5] at h
    refine ev_if_le (x := (σ_3.I 1100 a0)) (tgt := 41) dX12_write_36 (by decide) (fun q9 => absurd q9 c_5) (fun _ => ?_)
    refine ev_iconst (v := 0) dX12_write_39 (by decide) ?_
    cases h
    exact ev_iret rfl rfl dX12_write_40
set_option maxHeartbeats 4000000 in
set_option maxRecDepth 100000 in
theorem ev_X12_write_p18 {l : Launch} {G : xG} (hO : x_OK l G) {P : xP} (hP : x_PG P G) {a0 : Nat} {v1 : Int32} {v2 : Int32} {s0 : Int32} {σ σ' : xS} {rr : Int32 ⊕ String} (h : dm_X12_write_p18 P a0 v1 v2 s0 σ = some (rr, σ')) : Ev l G mX12_write 18 [(0, va_rf (some a0)), (1, .int v1), (2, .int v2)] [.int s0] σ (xrI rr) σ' := by
  unfold dm_X12_write_p18 at h
  refine ev_istore_n (i := 3) (lv' := [(3, .int s0), (0, va_rf (some a0)), (1, .int v1), (2, .int v2)]) dX12_write_18 rfl (by decide) rfl ?_
  refine ev_aload_n (j := 1) (x := (some a0)) dX12_write_19 rfl rfl ?_
  refine ev_iload_n (j := 0) (x := s0) dX12_write_20 rfl rfl ?_
  by_cases c_1 : s0 = 0
  · rw [if_pos c_1] at h
    refine ev_if_eq (x := s0) (tgt := 28) dX12_write_21 (by decide) (fun _ => ?_) (fun q9 => absurd c_1 q9)
    refine ev_iconst (v := 1) dX12_write_28 (by decide) ?_
    exact ev_sub [1, 2, 3] rfl (ev_X12_write_p29 hO hP h)
  · rw [if_neg c_1] at h
    refine ev_if_eq (x := s0) (tgt := 28) dX12_write_21 (by decide) (fun q9 => absurd q9 c_1) (fun _ => ?_)
    refine ev_iconst (v := 0) dX12_write_24 (by decide) ?_
    refine ev_goto (tgt := 29) dX12_write_25 (by decide) ?_
    exact ev_sub [1, 2, 3] rfl (ev_X12_write_p29 hO hP h)
set_option maxHeartbeats 4000000 in
set_option maxRecDepth 100000 in
theorem ev_X12_write_p17 {l : Launch} {G : xG} (hO : x_OK l G) {P : xP} (hP : x_PG P G) {a0 : Nat} {v1 : Int32} {v2 : Int32} {σ σ' : xS} {rr : Int32 ⊕ String} (h : dm_X12_write_p17 P a0 v1 v2 σ = some (rr, σ')) : Ev l G mX12_write 17 [(0, va_rf (some a0)), (1, .int v1), (2, .int v2)] [] σ (xrI rr) σ' := by
  unfold dm_X12_write_p17 at h
  refine ev_iconst (v := 0) dX12_write_17 (by decide) ?_
  exact ev_sub [0, 1, 2] rfl (ev_X12_write_p18 hO hP h)
set_option maxHeartbeats 4000000 in
set_option maxRecDepth 100000 in
theorem ev_X12_write_p9 {l : Launch} {G : xG} (hO : x_OK l G) {P : xP} (hP : x_PG P G) {a0 : Nat} {v1 : Int32} {v2 : Int32} {σ σ' : xS} {rr : Int32 ⊕ String} (h : dm_X12_write_p9 P a0 v1 v2 σ = some (rr, σ')) : Ev l G mX12_write 9 [(0, va_rf (some a0)), (1, .int v1), (2, .int v2)] [] σ (xrI rr) σ' := by
  unfold dm_X12_write_p9 at h
  refine ev_iload_n (j := 2) (x := v2) dX12_write_9 rfl rfl ?_
  by_cases c_1 : v2 < 0
  · rw [if_pos c_1] at h
    refine ev_if_lt (x := v2) (tgt := 17) dX12_write_10 (by decide) (fun _ => ?_) (fun q9 => absurd c_1 q9)
    exact ev_sub [0, 1, 2] rfl (ev_X12_write_p17 hO hP h)
  · rw [if_neg c_1] at h
    refine ev_if_lt (x := v2) (tgt := 17) dX12_write_10 (by decide) (fun q9 => absurd q9 c_1) (fun _ => ?_)
    refine ev_iconst (v := 1) dX12_write_13 (by decide) ?_
    refine ev_goto (tgt := 18) dX12_write_14 (by decide) ?_
    exact ev_sub [0, 1, 2] rfl (ev_X12_write_p18 hO hP h)
set_option maxHeartbeats 4000000 in
set_option maxRecDepth 100000 in
theorem ev_X12_write {l : Launch} {G : xG} (hO : x_OK l G) {P : xP} (hP : x_PG P G) {a0 : Nat} {v1 : Int32} {v2 : Int32} {σ σ' : xS} {rr : Int32 ⊕ String} (h : dm_X12_write P a0 v1 v2 σ = some (rr, σ')) : EvM l G mX12_write [va_rf (some a0), .int v1, .int v2] σ (xrI rr) σ' := by
  unfold dm_X12_write at h
  refine evM_of hO (by decide +kernel) (x_lenI (by simp [x_cat, x_catI, x_catJ, mX12_write, xM.maxL])) ?_
  refine Eq.mp (congrArg (fun z => Ev l G mX12_write 0 z [] σ (xrI rr) σ') (show [(0, va_rf (some a0)), (1, .int v1), (2, .int v2)] = lv_args 0 [va_rf (some a0), .int v1, .int v2] by simp [lv_args, x_cat, x_catI, x_catJ])) ?_
  refine ev_iload_n (j := 1) (x := v1) dX12_write_0 rfl rfl ?_
  by_cases c_1 : v1 = 0
  · rw [if_pos c_1] at h
    refine ev_if_eq (x := v1) (tgt := 9) dX12_write_1 (by decide) (fun _ => ?_) (fun q9 => absurd c_1 q9)
    exact ev_sub [0, 1, 2] rfl (ev_X12_write_p9 hO hP h)
  · rw [if_neg c_1] at h
    refine ev_if_eq (x := v1) (tgt := 9) dX12_write_1 (by decide) (fun q9 => absurd q9 c_1) (fun _ => ?_)
    refine ev_iload_n (j := 1) (x := v1) dX12_write_4 rfl rfl ?_
    refine ev_iconst (v := 1) dX12_write_5 (by decide) ?_
    by_cases c_2 : v1 = 1
    · rw [if_pos c_2] at h
      refine ev_icmp_ne (x := v1) (y := 1) (tgt := 17) dX12_write_6 (by decide) (fun q9 => absurd c_2 q9) (fun _ => ?_)
      exact ev_sub [0, 1, 2] rfl (ev_X12_write_p9 hO hP h)
    · rw [if_neg c_2] at h
      refine ev_icmp_ne (x := v1) (y := 1) (tgt := 17) dX12_write_6 (by decide) (fun _ => ?_) (fun q9 => absurd q9 c_2)
      exact ev_sub [0, 1, 2] rfl (ev_X12_write_p17 hO hP h)
set_option maxHeartbeats 4000000 in
set_option maxRecDepth 100000 in
theorem ev_X12_count_p49 {l : Launch} {G : xG} (hO : x_OK l G) {P : xP} (hP : x_PG P G) {a0 : Nat} {s0 : Int32} {σ σ' : xS} {rr : Int32 ⊕ String} (h : dm_X12_count_p49 P a0 s0 σ = some (rr, σ')) : Ev l G mX12_count 49 [] [.int s0] σ (xrI rr) σ' := by
  unfold dm_X12_count_p49 at h
  cases h
  exact ev_iret rfl rfl dX12_count_49
set_option maxHeartbeats 4000000 in
set_option maxRecDepth 100000 in
theorem ev_X12_count_p15 {l : Launch} {G : xG} (hO : x_OK l G) {P : xP} (hP : x_PG P G) {a0 : Nat} {v1 : Int32} {s0 : Option Nat} {s1 : Int32} {σ σ' : xS} {rr : Int32 ⊕ String} (h : dm_X12_count_p15 P a0 v1 s0 s1 σ = some (rr, σ')) : Ev l G mX12_count 15 [(0, va_rf (some a0)), (1, .int v1)] [.int s1, va_rf s0] σ (xrI rr) σ' := by
  unfold dm_X12_count_p15 at h
  obtain ⟨a_1, ea_1, h⟩ := x_some_e h
  refine ev_at (st' := [.int s1, va_rf (some a_1)]) rfl (by rw [ea_1]) ?_
  obtain ⟨c_2, h⟩ := x_chk_e h
  obtain ⟨σ_3, eσ_3, h⟩ := x_let_e h
  refine ev_put (σ2 := σ_3) (C := RX12) (T := TX12) (k := 0) inX12 tyX12 tyX12_ok nmX12 (xE_12 c_2.1) rfl (by decide) wd_194 (Or.inl rfl) rfl rfl rfl rfl (Nat.le_of_ble_eq_true rfl) (hP.2.2.2.1 ▸ c_2.2) (by rw [eσ_3]; exact xP_12_0 _ c_2.1) (by rw [eσ_3]; exact xPut_I) dX12_count_15 ?_
  refine ev_aload_n (j := 0) (x := (some a0)) dX12_count_18 rfl rfl ?_
  obtain ⟨c_4, h⟩ := x_chk_e h
  refine ev_get (C := RX12) (T := TX12) (k := 0) inX12 (xE_12 c_4) rfl (by decide) wd_194 (Or.inl rfl) rfl dX12_count_19 ?_
  by_cases c_5 : (σ_3.I 1100 a0) ≤ 0
  · rw [if_pos c_5] at h
    refine ev_if_le (x := (σ_3.I 1100 a0)) (tgt := 29) dX12_count_22 (by decide) (fun _ => ?_) (fun q9 => absurd c_5 q9)
    refine ev_iload_n (j := 1) (x := v1) dX12_count_29 rfl rfl ?_
    by_cases c_6 : v1 = 0
    · rw [if_pos c_6] at h
      refine ev_if_ne (x := v1) (tgt := 45) dX12_count_30 (by decide) (fun q9 => absurd c_6 q9) (fun _ => ?_)
      refine ev_aload_n (j := 0) (x := (some a0)) dX12_count_33 rfl rfl ?_
      refine ev_get (C := RX12) (T := TX12) (k := 6) inX12 (xE_12 c_4) rfl (by decide) wd_153 (Or.inl rfl) rfl dX12_count_34 ?_
      refine ev_aload_n (j := 0) (x := (some a0)) dX12_count_37 rfl rfl ?_
      refine ev_get (C := RX12) (T := TX12) (k := 3) inX12 (xE_12 c_4) rfl (by decide) wd_783 (Or.inl rfl) rfl dX12_count_38 ?_
      obtain ⟨a_7, ea_7, h⟩ := x_some_e h
      refine ev_at (st' := [.int (σ_3.I 1103 a0), va_rf (some a_7)]) rfl (by rw [ea_7]) ?_
      obtain ⟨c_8, h⟩ := x_chk_e h
      refine ev_iald_31 c_8.1 c_8.2 dX12_count_41 ?_
      refine ev_goto (tgt := 49) dX12_count_42 (by decide) ?_
      exact ev_sub [] rfl (ev_X12_count_p49 hO hP h)
    · rw [if_neg c_6] at h
      refine ev_if_ne (x := v1) (tgt := 45) dX12_count_30 (by decide) (fun _ => ?_) (fun q9 => absurd q9 c_6)
      refine ev_aload_n (j := 0) (x := (some a0)) dX12_count_45 rfl rfl ?_
      refine ev_get (C := RX12) (T := TX12) (k := 2) inX12 (xE_12 c_4) rfl (by decide) wd_199 (Or.inl rfl) rfl dX12_count_46 ?_
      exact ev_sub [] rfl (ev_X12_count_p49 hO hP h)
  · rw [if_neg c_5] at h
    refine ev_if_le (x := (σ_3.I 1100 a0)) (tgt := 29) dX12_count_22 (by decide) (fun q9 => absurd q9 c_5) (fun _ => ?_)
    refine ev_iconst (v := 0) dX12_count_25 (by decide) ?_
    refine ev_goto (tgt := 49) dX12_count_26 (by decide) ?_
    exact ev_sub [] rfl (ev_X12_count_p49 hO hP h)
set_option maxHeartbeats 4000000 in
set_option maxRecDepth 100000 in
theorem ev_X12_count_p10 {l : Launch} {G : xG} (hO : x_OK l G) {P : xP} (hP : x_PG P G) {a0 : Nat} {v1 : Int32} {s0 : Option Nat} {σ σ' : xS} {rr : Int32 ⊕ String} (h : dm_X12_count_p10 P a0 v1 s0 σ = some (rr, σ')) : Ev l G mX12_count 10 [(0, va_rf (some a0)), (1, .int v1)] [va_rf s0] σ (xrI rr) σ' := by
  unfold dm_X12_count_p10 at h
  refine ev_iconst (v := 0) dX12_count_10 (by decide) ?_
  refine ev_goto (tgt := 15) dX12_count_11 (by decide) ?_
  exact ev_sub [0, 1] rfl (ev_X12_count_p15 hO hP h)
set_option maxHeartbeats 4000000 in
set_option maxRecDepth 100000 in
theorem ev_X12_count {l : Launch} {G : xG} (hO : x_OK l G) {P : xP} (hP : x_PG P G) {a0 : Nat} {v1 : Int32} {σ σ' : xS} {rr : Int32 ⊕ String} (h : dm_X12_count P a0 v1 σ = some (rr, σ')) : EvM l G mX12_count [va_rf (some a0), .int v1] σ (xrI rr) σ' := by
  unfold dm_X12_count at h
  refine evM_of hO (by decide +kernel) (x_lenI (by simp [x_cat, x_catI, x_catJ, mX12_count, xM.maxL])) ?_
  refine Eq.mp (congrArg (fun z => Ev l G mX12_count 0 z [] σ (xrI rr) σ') (show [(0, va_rf (some a0)), (1, .int v1)] = lv_args 0 [va_rf (some a0), .int v1] by simp [lv_args, x_cat, x_catI, x_catJ])) ?_
  refine ev_aload_n (j := 0) (x := (some a0)) dX12_count_0 rfl rfl ?_
  refine ev_iload_n (j := 1) (x := v1) dX12_count_1 rfl rfl ?_
  by_cases c_1 : v1 = 0
  · rw [if_pos c_1] at h
    refine ev_if_eq (x := v1) (tgt := 10) dX12_count_2 (by decide) (fun _ => ?_) (fun q9 => absurd c_1 q9)
    exact ev_sub [0, 1] rfl (ev_X12_count_p10 hO hP h)
  · rw [if_neg c_1] at h
    refine ev_if_eq (x := v1) (tgt := 10) dX12_count_2 (by decide) (fun q9 => absurd q9 c_1) (fun _ => ?_)
    refine ev_iload_n (j := 1) (x := v1) dX12_count_5 rfl rfl ?_
    refine ev_iconst (v := 1) dX12_count_6 (by decide) ?_
    by_cases c_2 : v1 = 1
    · rw [if_pos c_2] at h
      refine ev_icmp_ne (x := v1) (y := 1) (tgt := 14) dX12_count_7 (by decide) (fun q9 => absurd c_2 q9) (fun _ => ?_)
      exact ev_sub [0, 1] rfl (ev_X12_count_p10 hO hP h)
    · rw [if_neg c_2] at h
      refine ev_icmp_ne (x := v1) (y := 1) (tgt := 14) dX12_count_7 (by decide) (fun _ => ?_) (fun q9 => absurd q9 c_2)
      refine ev_iconst (v := 1) dX12_count_14 (by decide) ?_
      exact ev_sub [0, 1] rfl (ev_X12_count_p15 hO hP h)
