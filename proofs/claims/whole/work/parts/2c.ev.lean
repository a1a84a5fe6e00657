set_option maxHeartbeats 4000000 in
set_option maxRecDepth 100000 in
theorem ev_X6_init {l : Launch} {G : xG} (hO : x_OK l G) {P : xP} (hP : x_PG P G) {a0 : Nat} {v1 : Int32} {v2 : Int32} {v3 : Option Nat} {v4 : Int32} {v5 : Int32} {σ σ' : xS} {rr : Unit ⊕ String} (h : dm_X6_init P a0 v1 v2 v3 v4 v5 σ = some (rr, σ')) : EvM l G mX6_init [va_rf (some a0), .int v1, .int v2, va_rf v3, .int v4, .int v5] σ (xrV rr) σ' := by
  unfold dm_X6_init at h
  refine evM_of hO (by decide +kernel) (x_lenI (by simp [x_cat, x_catI, x_catJ, mX6_init, xM.maxL])) ?_
  refine Eq.mp (congrArg (fun z => Ev l G mX6_init 0 z [] σ (xrV rr) σ') (show [(0, va_rf (some a0)), (1, .int v1), (2, .int v2), (3, va_rf v3), (4, .int v4), (5, .int v5)] = lv_args 0 [va_rf (some a0), .int v1, .int v2, va_rf v3, .int v4, .int v5] by simp [lv_args, x_cat, x_catI, x_catJ])) ?_
  refine ev_aload_n (j := 0) (x := (some a0)) dX6_init_0 rfl rfl ?_
  refine ev_objInit wd_366 wd_85 wd_86 dX6_init_1 (by decide) (by decide) ?_
  refine ev_aload_n (j := 0) (x := (some a0)) dX6_init_4 rfl rfl ?_
  refine ev_iload_n (j := 1) (x := v1) dX6_init_5 rfl rfl ?_
  obtain ⟨c_1, h⟩ := x_chk_e h
  obtain ⟨σ_2, eσ_2, h⟩ := x_let_e h
  refine ev_putF (σ2 := σ_2) (C := RX6) (T := TX6) (k := 0) inX6 tyX6 tyX6_ok nmX6 (xE_7 c_1.1) rfl (by decide) wd_367 (Or.inl rfl) rfl rfl rfl rfl rfl rfl (Nat.le_of_ble_eq_true rfl) (hP.2.2.2.1 ▸ c_1.2) (by rw [eσ_2]; exact xP_7_0 _ c_1.1) (by rw [eσ_2]; exact xPut_I) dX6_init_6 ?_
  refine ev_aload_n (j := 0) (x := (some a0)) dX6_init_9 rfl rfl ?_
  refine ev_iload_n (j := 2) (x := v2) dX6_init_10 rfl rfl ?_
  obtain ⟨c_3, h⟩ := x_chk_e h
  obtain ⟨σ_4, eσ_4, h⟩ := x_let_e h
  refine ev_putF (σ2 := σ_4) (C := RX6) (T := TX6) (k := 1) inX6 tyX6 tyX6_ok nmX6 (xE_7 c_3.1) rfl (by decide) wd_368 (Or.inl rfl) rfl rfl rfl rfl rfl rfl (Nat.le_of_ble_eq_true rfl) (hP.2.2.2.1 ▸ c_3.2) (by rw [eσ_4]; exact xP_7_1 _ c_3.1) (by rw [eσ_4]; exact xPut_I) dX6_init_11 ?_
  refine ev_aload_n (j := 0) (x := (some a0)) dX6_init_14 rfl rfl ?_
  refine ev_aload_n (j := 3) (x := v3) dX6_init_15 rfl rfl ?_
  obtain ⟨c_5, h⟩ := x_chk_e h
  obtain ⟨σ_6, eσ_6, h⟩ := x_let_e h
  refine ev_putF (σ2 := σ_6) (C := RX6) (T := TX6) (k := 2) inX6 tyX6 tyX6_ok nmX6 (xE_7 c_5.1) rfl (by decide) wd_9 (Or.inl rfl) rfl rfl rfl rfl (x_refN _) (x_refF _) (Nat.le_of_ble_eq_true rfl) (hP.2.2.2.1 ▸ c_5.2) (by rw [eσ_6]; exact xP_7_2 _ c_5.1) (by rw [eσ_6]; exact xPut_R) dX6_init_16 ?_
  refine ev_aload_n (j := 0) (x := (some a0)) dX6_init_19 rfl rfl ?_
  refine ev_iload (j := 4) (x := v4) dX6_init_20 rfl ?_
  obtain ⟨c_7, h⟩ := x_chk_e h
  obtain ⟨σ_8, eσ_8, h⟩ := x_let_e h
  refine ev_putF (σ2 := σ_8) (C := RX6) (T := TX6) (k := 3) inX6 tyX6 tyX6_ok nmX6 (xE_7 c_7.1) rfl (by decide) wd_7 (Or.inl rfl) rfl rfl rfl rfl rfl rfl (Nat.le_of_ble_eq_true rfl) (hP.2.2.2.1 ▸ c_7.2) (by rw [eσ_8]; exact xP_7_3 _ c_7.1) (by rw [eσ_8]; exact xPut_I) dX6_init_22 ?_
  refine ev_aload_n (j := 0) (x := (some a0)) dX6_init_25 rfl rfl ?_
  refine ev_iload (j := 5) (x := v5) dX6_init_26 rfl ?_
  obtain ⟨c_9, h⟩ := x_chk_e h
  obtain ⟨σ_10, eσ_10, h⟩ := x_let_e h
  refine ev_putF (σ2 := σ_10) (C := RX6) (T := TX6) (k := 4) inX6 tyX6 tyX6_ok nmX6 (xE_7 c_9.1) rfl (by decide) wd_8 (Or.inl rfl) rfl rfl rfl rfl rfl rfl (Nat.le_of_ble_eq_true rfl) (hP.2.2.2.1 ▸ c_9.2) (by rw [eσ_10]; exact xP_7_4 _ c_9.1) (by rw [eσ_10]; exact xPut_I) dX6_init_28 ?_
  refine ev_aload_n (j := 0) (x := (some a0)) dX6_init_31 rfl rfl ?_
  refine ev_iconst (v := 0) dX6_init_32 (by decide) ?_
  obtain ⟨c_11, h⟩ := x_chk_e h
  obtain ⟨σ_12, eσ_12, h⟩ := x_let_e h
  refine ev_putF (σ2 := σ_12) (C := RX6) (T := TX6) (k := 5) inX6 tyX6 tyX6_ok nmX6 (xE_7 c_11.1) rfl (by decide) wd_11 (Or.inl rfl) rfl rfl rfl rfl rfl rfl (Nat.le_of_ble_eq_true rfl) (hP.2.2.2.1 ▸ c_11.2) (by rw [eσ_12]; exact xP_7_5 _ c_11.1) (by rw [eσ_12]; exact xPut_I) dX6_init_33 ?_
  cases h
  exact ev_vret rfl dX6_init_36
set_option maxHeartbeats 4000000 in
set_option maxRecDepth 100000 in
theorem ev_X8_readNetPart_p54 {l : Launch} {G : xG} (hO : x_OK l G) {P : xP} (hP : x_PG P G) {a0 : Nat} {v1 : Int32} {v2 : Int32} {v3 : Int32} {v4 : Option Nat} {s0 : Option Nat} {s1 : Int32} {σ σ' : xS} {rr : Option Nat ⊕ String} (h : dm_X8_readNetPart_p54 P a0 v1 v2 v3 v4 s0 s1 σ = some (rr, σ')) : Ev l G mX8_readNetPart 54 [(0, va_rf (some a0)), (1, .int v1), (2, .int v2), (3, .int v3), (4, va_rf v4)] [.int s1, va_rf s0] σ (xrR rr) σ' := by
  unfold dm_X8_readNetPart_p54 at h
  obtain ⟨a_1, ea_1, h⟩ := x_some_e h
  refine ev_at (st' := [.int s1, va_rf (some a_1)]) rfl (by rw [ea_1]) ?_
  obtain ⟨c_5, h⟩ := x_chk_e h
  rcases x_bind_e h with ⟨v_2, σ_3, h_4, h⟩ | ⟨E_65, σ_3, h_4, h⟩
  · have z9 := x_call (M := mX8_readNetPart) (M' := mX10_refuseIf) (pc := 54) (st := [.int s1, va_rf (some a_1)]) (rest := []) (av := [va_rf (some a_1), .int s1]) (x_linkV (M := mX8_readNetPart) (M' := mX10_refuseIf) (As := [.int s1]) (index := 51) (C := RX10) (T := TX10) (xE_10 c_5) rfl wd_286 wd_243 wd_241 xw_X10_refuseIf rfl (by decide) rfl rfl dX8_readNetPart_54) (ev_X10_refuseIf hO hP h_4) xw_X10_refuseIf rfl wd_118 dX8_readNetPart_54 (by decide) (by decide) (by simp [x_cat, x_catI, x_catJ])
    refine x_callR z9 ?_
    refine ev_at (st' := []) rfl rfl ?_
    refine ev_aload_n (j := 0) (x := (some a0)) dX8_readNetPart_57 rfl rfl ?_
    obtain ⟨c_6, h⟩ := x_chk_e h
    refine x_via (A := Ev l G mX8_readNetPart 61 [(0, va_rf (some a0)), (1, .int v1), (2, .int v2), (3, .int v3), (4, va_rf v4)] [va_rf (σ_3.R 300 a0)] σ_3 (xrR rr) σ') (fun z9 => ?_) ?_
    · rcases c_6 with w9 | w9
      · exact ev_get (C := RX3) (T := TX3) (k := 0) inX3 (xE_4 w9) rfl (by decide) wd_100 (Or.inl rfl) rfl dX8_readNetPart_58 z9
      · exact ev_get (C := RX9) (T := TX9) (k := 0) inX9 (xE_9 w9) rfl (by decide) wd_100 (Or.inl rfl) rfl dX8_readNetPart_58 z9
    obtain ⟨a_7, ea_7, h⟩ := x_some_e h
    refine ev_at (st' := [va_rf (some a_7)]) rfl (by rw [ea_7]) ?_
    obtain ⟨c_11, h⟩ := x_chk_e h
    rcases x_bind_e h with ⟨v_8, σ_9, h_10, h⟩ | ⟨E_64, σ_9, h_10, h⟩
    · have z9 := x_call (M := mX8_readNetPart) (M' := mX10_step) (pc := 61) (st := [va_rf (some a_7)]) (rest := []) (av := [va_rf (some a_7)]) (x_linkV (M := mX8_readNetPart) (M' := mX10_step) (As := []) (index := 59) (C := RX10) (T := TX10) (xE_10 c_11) rfl wd_295 wd_247 wd_245 xw_X10_step rfl (by decide) rfl rfl dX8_readNetPart_61) (ev_X10_step hO hP h_10) xw_X10_step rfl wd_118 dX8_readNetPart_61 (by decide) (by decide) (by simp [x_cat, x_catI, x_catJ])
      refine x_callR z9 ?_
      refine ev_at (st' := []) rfl rfl ?_
      refine ev_aload_n (j := 0) (x := (some a0)) dX8_readNetPart_64 rfl rfl ?_
      obtain ⟨c_12, h⟩ := x_chk_e h
      refine x_via (A := Ev l G mX8_readNetPart 68 [(0, va_rf (some a0)), (1, .int v1), (2, .int v2), (3, .int v3), (4, va_rf v4)] [va_rf (σ_9.R 300 a0)] σ_9 (xrR rr) σ') (fun z9 => ?_) ?_
      · rcases c_12 with w9 | w9
        · exact ev_get (C := RX3) (T := TX3) (k := 0) inX3 (xE_4 w9) rfl (by decide) wd_100 (Or.inl rfl) rfl dX8_readNetPart_65 z9
        · exact ev_get (C := RX9) (T := TX9) (k := 0) inX9 (xE_9 w9) rfl (by decide) wd_100 (Or.inl rfl) rfl dX8_readNetPart_65 z9
      refine ev_iload_n (j := 1) (x := v1) dX8_readNetPart_68 rfl rfl ?_
      obtain ⟨a_13, ea_13, h⟩ := x_some_e h
      refine ev_at (st' := [.int v1, va_rf (some a_13)]) rfl (by rw [ea_13]) ?_
      obtain ⟨c_17, h⟩ := x_chk_e h
      rcases x_bind_e h with ⟨v_14, σ_15, h_16, h⟩ | ⟨E_63, σ_15, h_16, h⟩
      · have z9 := x_call (M := mX8_readNetPart) (M' := mX10_skips) (pc := 69) (st := [.int v1, va_rf (some a_13)]) (rest := []) (av := [va_rf (some a_13), .int v1]) (x_linkV (M := mX8_readNetPart) (M' := mX10_skips) (As := [.int v1]) (index := 101) (C := RX10) (T := TX10) (xE_10 c_17) rfl wd_380 wd_348 wd_346 xw_X10_skips rfl (by decide) rfl rfl dX8_readNetPart_69) (ev_X10_skips hO hP h_16) xw_X10_skips rfl wd_118 dX8_readNetPart_69 (by decide) (by decide) (by simp [x_cat, x_catI, x_catJ])
        refine x_callR z9 ?_
        refine ev_at (st' := [.int v_14]) rfl rfl ?_
        by_cases c_18 : v_14 = 0
        · rw [if_pos c_18] at h
          refine ev_if_ne (x := v_14) (tgt := 95) dX8_readNetPart_72 (by decide) (fun q9 => absurd c_18 q9) (fun _ => ?_)
          obtain ⟨c_55, h⟩ := x_chk_e h
          obtain ⟨σ_56, eσ_56, h⟩ := x_let_e h
          refine ev_new (C := RX6) (T := TX6) (N := 6) (ci := 6) inX6 tyX6 tyX6_ok rfl (by decide) wd_372 wd_373 wd_22 (hP.2.1 ▸ c_55.1) (hP.2.2.1 ▸ c_55.2) (nE_7 _ _) nF_7 dX8_readNetPart_75 (eσ_56 ▸ ?_)
          refine ev_dup dX8_readNetPart_78 (x_cat _) ?_
          refine ev_iconst (v := 0) dX8_readNetPart_79 (by decide) ?_
          refine ev_iload_n (j := 3) (x := v3) dX8_readNetPart_80 rfl rfl ?_
          refine ev_aload (j := 4) (x := v4) dX8_readNetPart_81 rfl ?_
          refine ev_aload (j := 4) (x := v4) dX8_readNetPart_83 rfl ?_
          obtain ⟨a_57, ea_57, h⟩ := x_some_e h
          refine ev_at (st' := [va_rf (some a_57), va_rf v4, .int v3, .int 0, va_rf (some σ_15.sz), va_rf (some σ_15.sz)]) rfl (by rw [ea_57]) ?_
          obtain ⟨c_58, h⟩ := x_chk_e h
          refine ev_get (C := RX4) (T := TX4) (k := 2) inX4 (xE_5 c_58) rfl (by decide) wd_381 (Or.inl rfl) rfl dX8_readNetPart_85 ?_
          refine ev_iconst (v := 1) dX8_readNetPart_88 (by decide) ?_
          refine ev_isub (x := (σ_56.I 402 a_57)) (y := 1) dX8_readNetPart_89 ?_
          refine ev_iconst (v := 0) dX8_readNetPart_90 (by decide) ?_
          rcases x_bind_e h with ⟨v_59, σ_60, h_61, h⟩ | ⟨E_62, σ_60, h_61, h⟩
          · have z9 := x_call (M := mX8_readNetPart) (M' := mX6_init) (pc := 91) (st := [.int 0, .int ((σ_56.I 402 a_57) - 1), va_rf v4, .int v3, .int 0, va_rf (some σ_15.sz), va_rf (some σ_15.sz)]) (rest := [va_rf (some σ_15.sz)]) (av := [va_rf (some σ_15.sz), .int 0, .int v3, va_rf v4, .int ((σ_56.I 402 a_57) - 1), .int 0]) (x_linkI (M := mX8_readNetPart) (M' := mX6_init) (As := [.int 0, .int v3, va_rf v4, .int ((σ_56.I 402 a_57) - 1), .int 0]) (index := 131) (b := σ_15.sz) rfl wd_384 wd_385 wd_383 (by decide) rfl rfl dX8_readNetPart_91) (ev_X6_init hO hP h_61) xw_X6_init rfl wd_22 dX8_readNetPart_91 (by decide) (by decide) (by simp [x_cat, x_catI, x_catJ])
            refine x_callR z9 ?_
            refine ev_at (st' := [va_rf (some σ_15.sz)]) rfl rfl ?_
            cases h
            exact ev_aret rfl dX8_readNetPart_94
          · have z9 := x_call (M := mX8_readNetPart) (M' := mX6_init) (pc := 91) (st := [.int 0, .int ((σ_56.I 402 a_57) - 1), va_rf v4, .int v3, .int 0, va_rf (some σ_15.sz), va_rf (some σ_15.sz)]) (rest := [va_rf (some σ_15.sz)]) (av := [va_rf (some σ_15.sz), .int 0, .int v3, va_rf v4, .int ((σ_56.I 402 a_57) - 1), .int 0]) (x_linkI (M := mX8_readNetPart) (M' := mX6_init) (As := [.int 0, .int v3, va_rf v4, .int ((σ_56.I 402 a_57) - 1), .int 0]) (index := 131) (b := σ_15.sz) rfl wd_384 wd_385 wd_383 (by decide) rfl rfl dX8_readNetPart_91) (ev_X6_init hO hP h_61) xw_X6_init rfl wd_22 dX8_readNetPart_91 (by decide) (by decide) (by simp [x_cat, x_catI, x_catJ])
            cases h
            exact x_callX z9 (evX_out rfl)
        · rw [if_neg c_18] at h
          refine ev_if_ne (x := v_14) (tgt := 95) dX8_readNetPart_72 (by decide) (fun _ => ?_) (fun q9 => absurd q9 c_18)
          refine ev_aload_n (j := 0) (x := (some a0)) dX8_readNetPart_95 rfl rfl ?_
          obtain ⟨c_19, h⟩ := x_chk_e h
          refine x_via (A := Ev l G mX8_readNetPart 99 [(0, va_rf (some a0)), (1, .int v1), (2, .int v2), (3, .int v3), (4, va_rf v4)] [va_rf (σ_15.R 300 a0)] σ_15 (xrR rr) σ') (fun z9 => ?_) ?_
          · rcases c_19 with w9 | w9
            · exact ev_get (C := RX3) (T := TX3) (k := 0) inX3 (xE_4 w9) rfl (by decide) wd_100 (Or.inl rfl) rfl dX8_readNetPart_96 z9
            · exact ev_get (C := RX9) (T := TX9) (k := 0) inX9 (xE_9 w9) rfl (by decide) wd_100 (Or.inl rfl) rfl dX8_readNetPart_96 z9
          refine ev_iconst (v := 0) dX8_readNetPart_99 (by decide) ?_
          refine ev_aload (j := 4) (x := v4) dX8_readNetPart_100 rfl ?_
          obtain ⟨a_20, ea_20, h⟩ := x_some_e h
          refine ev_at (st' := [va_rf (some a_20), .int 0, va_rf (σ_15.R 300 a0)]) rfl (by rw [ea_20]) ?_
          obtain ⟨c_21, h⟩ := x_chk_e h
          refine ev_get (C := RX4) (T := TX4) (k := 2) inX4 (xE_5 c_21) rfl (by decide) wd_381 (Or.inl rfl) rfl dX8_readNetPart_102 ?_
          refine ev_iconst (v := 1) dX8_readNetPart_105 (by decide) ?_
          refine ev_isub (x := (σ_15.I 402 a_20)) (y := 1) dX8_readNetPart_106 ?_
          obtain ⟨a_22, ea_22, h⟩ := x_some_e h
          refine ev_at (st' := [.int ((σ_15.I 402 a_20) - 1), .int 0, va_rf (some a_22)]) rfl (by rw [ea_22]) ?_
          obtain ⟨c_26, h⟩ := x_chk_e h
          rcases x_bind_e h with ⟨v_23, σ_24, h_25, h⟩ | ⟨E_54, σ_24, h_25, h⟩
          · have z9 := x_call (M := mX8_readNetPart) (M' := mX10_takeNumber) (pc := 107) (st := [.int ((σ_15.I 402 a_20) - 1), .int 0, va_rf (some a_22)]) (rest := []) (av := [va_rf (some a_22), .int 0, .int ((σ_15.I 402 a_20) - 1)]) (x_linkV (M := mX8_readNetPart) (M' := mX10_takeNumber) (As := [.int 0, .int ((σ_15.I 402 a_20) - 1)]) (index := 134) (C := RX10) (T := TX10) (xE_10 c_26) rfl wd_382 wd_352 wd_350 xw_X10_takeNumber rfl (by decide) rfl rfl dX8_readNetPart_107) (ev_X10_takeNumber hO hP h_25) xw_X10_takeNumber rfl wd_118 dX8_readNetPart_107 (by decide) (by decide) (by simp [x_cat, x_catI, x_catJ])
            refine x_callR z9 ?_
            refine ev_at (st' := [.int v_23]) rfl rfl ?_
            refine ev_istore (i := 5) (lv' := [(5, .int v_23), (0, va_rf (some a0)), (1, .int v1), (2, .int v2), (3, .int v3), (4, va_rf v4)]) dX8_readNetPart_110 (by decide) (by simp [x_cat, x_catI, x_catJ]) ?_
            refine ev_aload_n (j := 1) (x := (some a0)) dX8_readNetPart_112 rfl rfl ?_
            obtain ⟨c_27, h⟩ := x_chk_e h
            refine x_via (A := Ev l G mX8_readNetPart 116 [(5, .int v_23), (0, va_rf (some a0)), (1, .int v1), (2, .int v2), (3, .int v3), (4, va_rf v4)] [va_rf (σ_24.R 300 a0)] σ_24 (xrR rr) σ') (fun z9 => ?_) ?_
            · rcases c_27 with w9 | w9
              · exact ev_get (C := RX3) (T := TX3) (k := 0) inX3 (xE_4 w9) rfl (by decide) wd_100 (Or.inl rfl) rfl dX8_readNetPart_113 z9
              · exact ev_get (C := RX9) (T := TX9) (k := 0) inX9 (xE_9 w9) rfl (by decide) wd_100 (Or.inl rfl) rfl dX8_readNetPart_113 z9
            refine ev_iload_n (j := 3) (x := v2) dX8_readNetPart_116 rfl rfl ?_
            obtain ⟨a_28, ea_28, h⟩ := x_some_e h
            refine ev_at (st' := [.int v2, va_rf (some a_28)]) rfl (by rw [ea_28]) ?_
            obtain ⟨c_32, h⟩ := x_chk_e h
            rcases x_bind_e h with ⟨v_29, σ_30, h_31, h⟩ | ⟨E_53, σ_30, h_31, h⟩
            · have z9 := x_call (M := mX8_readNetPart) (M' := mX10_skips) (pc := 117) (st := [.int v2, va_rf (some a_28)]) (rest := []) (av := [va_rf (some a_28), .int v2]) (x_linkV (M := mX8_readNetPart) (M' := mX10_skips) (As := [.int v2]) (index := 101) (C := RX10) (T := TX10) (xE_10 c_32) rfl wd_380 wd_348 wd_346 xw_X10_skips rfl (by decide) rfl rfl dX8_readNetPart_117) (ev_X10_skips hO hP h_31) xw_X10_skips rfl wd_118 dX8_readNetPart_117 (by decide) (by decide) (by simp [x_cat, x_catI, x_catJ])
              refine x_callR z9 ?_
              refine ev_at (st' := [.int v_29]) rfl rfl ?_
              by_cases c_33 : v_29 = 0
              · rw [if_pos c_33] at h
                refine ev_if_ne (x := v_29) (tgt := 139) dX8_readNetPart_120 (by decide) (fun q9 => absurd c_33 q9) (fun _ => ?_)
                obtain ⟨c_47, h⟩ := x_chk_e h
                obtain ⟨σ_48, eσ_48, h⟩ := x_let_e h
                refine ev_new (C := RX6) (T := TX6) (N := 6) (ci := 6) inX6 tyX6 tyX6_ok rfl (by decide) wd_372 wd_373 wd_22 (hP.2.1 ▸ c_47.1) (hP.2.2.1 ▸ c_47.2) (nE_7 _ _) nF_7 dX8_readNetPart_123 (eσ_48 ▸ ?_)
                refine ev_dup dX8_readNetPart_126 (x_cat _) ?_
                refine ev_iconst (v := 1) dX8_readNetPart_127 (by decide) ?_
                refine ev_iload_n (j := 4) (x := v3) dX8_readNetPart_128 rfl rfl ?_
                refine ev_aload (j := 5) (x := v4) dX8_readNetPart_129 rfl ?_
                refine ev_iload (j := 0) (x := v_23) dX8_readNetPart_131 rfl ?_
                refine ev_iload (j := 0) (x := v_23) dX8_readNetPart_133 rfl ?_
                rcases x_bind_e h with ⟨v_49, σ_50, h_51, h⟩ | ⟨E_52, σ_50, h_51, h⟩
                · have z9 := x_call (M := mX8_readNetPart) (M' := mX6_init) (pc := 135) (st := [.int v_23, .int v_23, va_rf v4, .int v3, .int 1, va_rf (some σ_30.sz), va_rf (some σ_30.sz)]) (rest := [va_rf (some σ_30.sz)]) (av := [va_rf (some σ_30.sz), .int 1, .int v3, va_rf v4, .int v_23, .int v_23]) (x_linkI (M := mX8_readNetPart) (M' := mX6_init) (As := [.int 1, .int v3, va_rf v4, .int v_23, .int v_23]) (index := 131) (b := σ_30.sz) rfl wd_384 wd_385 wd_383 (by decide) rfl rfl dX8_readNetPart_135) (ev_X6_init hO hP h_51) xw_X6_init rfl wd_22 dX8_readNetPart_135 (by decide) (by decide) (by simp [x_cat, x_catI, x_catJ])
                  refine x_callR z9 ?_
                  refine ev_at (st' := [va_rf (some σ_30.sz)]) rfl rfl ?_
                  cases h
                  exact ev_aret rfl dX8_readNetPart_138
                · have z9 := x_call (M := mX8_readNetPart) (M' := mX6_init) (pc := 135) (st := [.int v_23, .int v_23, va_rf v4, .int v3, .int 1, va_rf (some σ_30.sz), va_rf (some σ_30.sz)]) (rest := [va_rf (some σ_30.sz)]) (av := [va_rf (some σ_30.sz), .int 1, .int v3, va_rf v4, .int v_23, .int v_23]) (x_linkI (M := mX8_readNetPart) (M' := mX6_init) (As := [.int 1, .int v3, va_rf v4, .int v_23, .int v_23]) (index := 131) (b := σ_30.sz) rfl wd_384 wd_385 wd_383 (by decide) rfl rfl dX8_readNetPart_135) (ev_X6_init hO hP h_51) xw_X6_init rfl wd_22 dX8_readNetPart_135 (by decide) (by decide) (by simp [x_cat, x_catI, x_catJ])
                  cases h
                  exact x_callX z9 (evX_out rfl)
              · rw [if_neg c_33] at h
                refine ev_if_ne (x := v_29) (tgt := 139) dX8_readNetPart_120 (by decide) (fun _ => ?_) (fun q9 => absurd q9 c_33)
                refine ev_aload_n (j := 1) (x := (some a0)) dX8_readNetPart_139 rfl rfl ?_
                obtain ⟨c_34, h⟩ := x_chk_e h
                refine x_via (A := Ev l G mX8_readNetPart 143 [(5, .int v_23), (0, va_rf (some a0)), (1, .int v1), (2, .int v2), (3, .int v3), (4, va_rf v4)] [va_rf (σ_30.R 300 a0)] σ_30 (xrR rr) σ') (fun z9 => ?_) ?_
                · rcases c_34 with w9 | w9
                  · exact ev_get (C := RX3) (T := TX3) (k := 0) inX3 (xE_4 w9) rfl (by decide) wd_100 (Or.inl rfl) rfl dX8_readNetPart_140 z9
                  · exact ev_get (C := RX9) (T := TX9) (k := 0) inX9 (xE_9 w9) rfl (by decide) wd_100 (Or.inl rfl) rfl dX8_readNetPart_140 z9
                refine ev_iconst (v := 0) dX8_readNetPart_143 (by decide) ?_
                refine ev_iload (j := 0) (x := v_23) dX8_readNetPart_144 rfl ?_
                obtain ⟨a_35, ea_35, h⟩ := x_some_e h
                refine ev_at (st' := [.int v_23, .int 0, va_rf (some a_35)]) rfl (by rw [ea_35]) ?_
                obtain ⟨c_39, h⟩ := x_chk_e h
                rcases x_bind_e h with ⟨v_36, σ_37, h_38, h⟩ | ⟨E_46, σ_37, h_38, h⟩
                · have z9 := x_call (M := mX8_readNetPart) (M' := mX10_takeNumber) (pc := 146) (st := [.int v_23, .int 0, va_rf (some a_35)]) (rest := []) (av := [va_rf (some a_35), .int 0, .int v_23]) (x_linkV (M := mX8_readNetPart) (M' := mX10_takeNumber) (As := [.int 0, .int v_23]) (index := 134) (C := RX10) (T := TX10) (xE_10 c_39) rfl wd_382 wd_352 wd_350 xw_X10_takeNumber rfl (by decide) rfl rfl dX8_readNetPart_146) (ev_X10_takeNumber hO hP h_38) xw_X10_takeNumber rfl wd_118 dX8_readNetPart_146 (by decide) (by decide) (by simp [x_cat, x_catI, x_catJ])
                  refine x_callR z9 ?_
                  refine ev_at (st' := [.int v_36]) rfl rfl ?_
                  refine ev_istore (i := 6) (lv' := [(6, .int v_36), (5, .int v_23), (0, va_rf (some a0)), (1, .int v1), (2, .int v2), (3, .int v3), (4, va_rf v4)]) dX8_readNetPart_149 (by decide) rfl ?_
                  obtain ⟨c_40, h⟩ := x_chk_e h
                  obtain ⟨σ_41, eσ_41, h⟩ := x_let_e h
                  refine ev_new (C := RX6) (T := TX6) (N := 6) (ci := 6) inX6 tyX6 tyX6_ok rfl (by decide) wd_372 wd_373 wd_22 (hP.2.1 ▸ c_40.1) (hP.2.2.1 ▸ c_40.2) (nE_7 _ _) nF_7 dX8_readNetPart_151 (eσ_41 ▸ ?_)
                  refine ev_dup dX8_readNetPart_154 (x_cat _) ?_
                  refine ev_iconst (v := 2) dX8_readNetPart_155 (by decide) ?_
                  refine ev_iload_n (j := 5) (x := v3) dX8_readNetPart_156 rfl rfl ?_
                  refine ev_aload (j := 6) (x := v4) dX8_readNetPart_157 rfl ?_
                  refine ev_iload (j := 1) (x := v_23) dX8_readNetPart_159 rfl ?_
                  refine ev_iload (j := 0) (x := v_36) dX8_readNetPart_161 rfl ?_
                  rcases x_bind_e h with ⟨v_42, σ_43, h_44, h⟩ | ⟨E_45, σ_43, h_44, h⟩
                  · have z9 := x_call (M := mX8_readNetPart) (M' := mX6_init) (pc := 163) (st := [.int v_36, .int v_23, va_rf v4, .int v3, .int 2, va_rf (some σ_37.sz), va_rf (some σ_37.sz)]) (rest := [va_rf (some σ_37.sz)]) (av := [va_rf (some σ_37.sz), .int 2, .int v3, va_rf v4, .int v_23, .int v_36]) (x_linkI (M := mX8_readNetPart) (M' := mX6_init) (As := [.int 2, .int v3, va_rf v4, .int v_23, .int v_36]) (index := 131) (b := σ_37.sz) rfl wd_384 wd_385 wd_383 (by decide) rfl rfl dX8_readNetPart_163) (ev_X6_init hO hP h_44) xw_X6_init rfl wd_22 dX8_readNetPart_163 (by decide) (by decide) (by simp [x_cat, x_catI, x_catJ])
                    refine x_callR z9 ?_
                    refine ev_at (st' := [va_rf (some σ_37.sz)]) rfl rfl ?_
                    cases h
                    exact ev_aret rfl dX8_readNetPart_166
                  · have z9 := x_call (M := mX8_readNetPart) (M' := mX6_init) (pc := 163) (st := [.int v_36, .int v_23, va_rf v4, .int v3, .int 2, va_rf (some σ_37.sz), va_rf (some σ_37.sz)]) (rest := [va_rf (some σ_37.sz)]) (av := [va_rf (some σ_37.sz), .int 2, .int v3, va_rf v4, .int v_23, .int v_36]) (x_linkI (M := mX8_readNetPart) (M' := mX6_init) (As := [.int 2, .int v3, va_rf v4, .int v_23, .int v_36]) (index := 131) (b := σ_37.sz) rfl wd_384 wd_385 wd_383 (by decide) rfl rfl dX8_readNetPart_163) (ev_X6_init hO hP h_44) xw_X6_init rfl wd_22 dX8_readNetPart_163 (by decide) (by decide) (by simp [x_cat, x_catI, x_catJ])
                    cases h
                    exact x_callX z9 (evX_out rfl)
                · have z9 := x_call (M := mX8_readNetPart) (M' := mX10_takeNumber) (pc := 146) (st := [.int v_23, .int 0, va_rf (some a_35)]) (rest := []) (av := [va_rf (some a_35), .int 0, .int v_23]) (x_linkV (M := mX8_readNetPart) (M' := mX10_takeNumber) (As := [.int 0, .int v_23]) (index := 134) (C := RX10) (T := TX10) (xE_10 c_39) rfl wd_382 wd_352 wd_350 xw_X10_takeNumber rfl (by decide) rfl rfl dX8_readNetPart_146) (ev_X10_takeNumber hO hP h_38) xw_X10_takeNumber rfl wd_118 dX8_readNetPart_146 (by decide) (by decide) (by simp [x_cat, x_catI, x_catJ])
                  cases h
                  exact x_callX z9 (evX_out rfl)
            · have z9 := x_call (M := mX8_readNetPart) (M' := mX10_skips) (pc := 117) (st := [.int v2, va_rf (some a_28)]) (rest := []) (av := [va_rf (some a_28), .int v2]) (x_linkV (M := mX8_readNetPart) (M' := mX10_skips) (As := [.int v2]) (index := 101) (C := RX10) (T := TX10) (xE_10 c_32) rfl wd_380 wd_348 wd_346 xw_X10_skips rfl (by decide) rfl rfl dX8_readNetPart_117) (ev_X10_skips hO hP h_31) xw_X10_skips rfl wd_118 dX8_readNetPart_117 (by decide) (by decide) (by simp [x_cat, x_catI, x_catJ])
              cases h
              exact x_callX z9 (evX_out rfl)
          · have z9 := x_call (M := mX8_readNetPart) (M' := mX10_takeNumber) (pc := 107) (st := [.int ((σ_15.I 402 a_20) - 1), .int 0, va_rf (some a_22)]) (rest := []) (av := [va_rf (some a_22), .int 0, .int ((σ_15.I 402 a_20) - 1)]) (x_linkV (M := mX8_readNetPart) (M' := mX10_takeNumber) (As := [.int 0, .int ((σ_15.I 402 a_20) - 1)]) (index := 134) (C := RX10) (T := TX10) (xE_10 c_26) rfl wd_382 wd_352 wd_350 xw_X10_takeNumber rfl (by decide) rfl rfl dX8_readNetPart_107) (ev_X10_takeNumber hO hP h_25) xw_X10_takeNumber rfl wd_118 dX8_readNetPart_107 (by decide) (by decide) (by simp [x_cat, x_catI, x_catJ])
            cases h
            exact x_callX z9 (evX_out rfl)
      · have z9 := x_call (M := mX8_readNetPart) (M' := mX10_skips) (pc := 69) (st := [.int v1, va_rf (some a_13)]) (rest := []) (av := [va_rf (some a_13), .int v1]) (x_linkV (M := mX8_readNetPart) (M' := mX10_skips) (As := [.int v1]) (index := 101) (C := RX10) (T := TX10) (xE_10 c_17) rfl wd_380 wd_348 wd_346 xw_X10_skips rfl (by decide) rfl rfl dX8_readNetPart_69) (ev_X10_skips hO hP h_16) xw_X10_skips rfl wd_118 dX8_readNetPart_69 (by decide) (by decide) (by simp [x_cat, x_catI, x_catJ])
        cases h
        exact x_callX z9 (evX_out rfl)
    · have z9 := x_call (M := mX8_readNetPart) (M' := mX10_step) (pc := 61) (st := [va_rf (some a_7)]) (rest := []) (av := [va_rf (some a_7)]) (x_linkV (M := mX8_readNetPart) (M' := mX10_step) (As := []) (index := 59) (C := RX10) (T := TX10) (xE_10 c_11) rfl wd_295 wd_247 wd_245 xw_X10_step rfl (by decide) rfl rfl dX8_readNetPart_61) (ev_X10_step hO hP h_10) xw_X10_step rfl wd_118 dX8_readNetPart_61 (by decide) (by decide) (by simp [x_cat, x_catI, x_catJ])
      cases h
      exact x_callX z9 (evX_out rfl)
  · have z9 := x_call (M := mX8_readNetPart) (M' := mX10_refuseIf) (pc := 54) (st := [.int s1, va_rf (some a_1)]) (rest := []) (av := [va_rf (some a_1), .int s1]) (x_linkV (M := mX8_readNetPart) (M' := mX10_refuseIf) (As := [.int s1]) (index := 51) (C := RX10) (T := TX10) (xE_10 c_5) rfl wd_286 wd_243 wd_241 xw_X10_refuseIf rfl (by decide) rfl rfl dX8_readNetPart_54) (ev_X10_refuseIf hO hP h_4) xw_X10_refuseIf rfl wd_118 dX8_readNetPart_54 (by decide) (by decide) (by simp [x_cat, x_catI, x_catJ])
    cases h
    exact x_callX z9 (evX_out rfl)
set_option maxHeartbeats 4000000 in
set_option maxRecDepth 100000 in
theorem ev_X8_readNetPart_p49 {l : Launch} {G : xG} (hO : x_OK l G) {P : xP} (hP : x_PG P G) {a0 : Nat} {v1 : Int32} {v2 : Int32} {v3 : Int32} {v4 : Option Nat} {s0 : Option Nat} {σ σ' : xS} {rr : Option Nat ⊕ String} (h : dm_X8_readNetPart_p49 P a0 v1 v2 v3 v4 s0 σ = some (rr, σ')) : Ev l G mX8_readNetPart 49 [(0, va_rf (some a0)), (1, .int v1), (2, .int v2), (3, .int v3), (4, va_rf v4)] [va_rf s0] σ (xrR rr) σ' := by
  unfold dm_X8_readNetPart_p49 at h
  refine ev_iconst (v := 1) dX8_readNetPart_49 (by decide) ?_
  refine ev_goto (tgt := 54) dX8_readNetPart_50 (by decide) ?_
  exact ev_sub [0, 1, 2, 3, 4] rfl (ev_X8_readNetPart_p54 hO hP h)
set_option maxHeartbeats 4000000 in
set_option maxRecDepth 100000 in
theorem ev_X8_readNetPart {l : Launch} {G : xG} (hO : x_OK l G) {P : xP} (hP : x_PG P G) {a0 : Nat} {v1 : Int32} {v2 : Int32} {σ σ' : xS} {rr : Option Nat ⊕ String} (h : dm_X8_readNetPart P a0 v1 v2 σ = some (rr, σ')) : EvM l G mX8_readNetPart [va_rf (some a0), .int v1, .int v2] σ (xrR rr) σ' := by
  unfold dm_X8_readNetPart at h
  refine evM_of hO (by decide +kernel) (x_lenI (by simp [x_cat, x_catI, x_catJ, mX8_readNetPart, xM.maxL])) ?_
  refine Eq.mp (congrArg (fun z => Ev l G mX8_readNetPart 0 z [] σ (xrR rr) σ') (show [(0, va_rf (some a0)), (1, .int v1), (2, .int v2)] = lv_args 0 [va_rf (some a0), .int v1, .int v2] by simp [lv_args, x_cat, x_catI, x_catJ])) ?_
  refine ev_aload_n (j := 0) (x := (some a0)) dX8_readNetPart_0 rfl rfl ?_
  obtain ⟨c_1, h⟩ := x_chk_e h
  refine x_via (A := Ev l G mX8_readNetPart 4 [(0, va_rf (some a0)), (1, .int v1), (2, .int v2)] [va_rf (σ.R 300 a0)] σ (xrR rr) σ') (fun z9 => ?_) ?_
  · rcases c_1 with w9 | w9
    · exact ev_get (C := RX3) (T := TX3) (k := 0) inX3 (xE_4 w9) rfl (by decide) wd_100 (Or.inl rfl) rfl dX8_readNetPart_1 z9
    · exact ev_get (C := RX9) (T := TX9) (k := 0) inX9 (xE_9 w9) rfl (by decide) wd_100 (Or.inl rfl) rfl dX8_readNetPart_1 z9
  obtain ⟨a_2, ea_2, h⟩ := x_some_e h
  refine ev_at (st' := [va_rf (some a_2)]) rfl (by rw [ea_2]) ?_
  obtain ⟨c_6, h⟩ := x_chk_e h
  rcases x_bind_e h with ⟨v_3, σ_4, h_5, h⟩ | ⟨E_26, σ_4, h_5, h⟩
  · have z9 := x_call (M := mX8_readNetPart) (M' := mX10_place) (pc := 4) (st := [va_rf (some a_2)]) (rest := []) (av := [va_rf (some a_2)]) (x_linkV (M := mX8_readNetPart) (M' := mX10_place) (As := []) (index := 34) (C := RX10) (T := TX10) (xE_10 c_6) rfl wd_289 wd_290 wd_288 xw_X10_place rfl (by decide) rfl rfl dX8_readNetPart_4) (ev_X10_place hO hP h_5) xw_X10_place rfl wd_118 dX8_readNetPart_4 (by decide) (by decide) (by simp [x_cat, x_catI, x_catJ])
    refine x_callR z9 ?_
    refine ev_at (st' := [.int v_3]) rfl rfl ?_
    refine ev_istore_n (i := 3) (lv' := [(3, .int v_3), (0, va_rf (some a0)), (1, .int v1), (2, .int v2)]) dX8_readNetPart_7 rfl (by decide) rfl ?_
    refine ev_aload_n (j := 1) (x := (some a0)) dX8_readNetPart_8 rfl rfl ?_
    obtain ⟨c_7, h⟩ := x_chk_e h
    refine x_via (A := Ev l G mX8_readNetPart 12 [(3, .int v_3), (0, va_rf (some a0)), (1, .int v1), (2, .int v2)] [va_rf (σ_4.R 302 a0)] σ_4 (xrR rr) σ') (fun z9 => ?_) ?_
    · rcases c_7 with w9 | w9
      · exact ev_get (C := RX3) (T := TX3) (k := 2) inX3 (xE_4 w9) rfl (by decide) wd_99 (Or.inl rfl) rfl dX8_readNetPart_9 z9
      · exact ev_get (C := RX9) (T := TX9) (k := 2) inX9 (xE_9 w9) rfl (by decide) wd_99 (Or.inl rfl) rfl dX8_readNetPart_9 z9
    refine ev_aload_n (j := 1) (x := (some a0)) dX8_readNetPart_12 rfl rfl ?_
    refine x_via (A := Ev l G mX8_readNetPart 16 [(3, .int v_3), (0, va_rf (some a0)), (1, .int v1), (2, .int v2)] [va_rf (σ_4.R 302 a0), va_rf (σ_4.R 302 a0)] σ_4 (xrR rr) σ') (fun z9 => ?_) ?_
    · rcases c_7 with w9 | w9
      · exact ev_get (C := RX3) (T := TX3) (k := 2) inX3 (xE_4 w9) rfl (by decide) wd_99 (Or.inl rfl) rfl dX8_readNetPart_13 z9
      · exact ev_get (C := RX9) (T := TX9) (k := 2) inX9 (xE_9 w9) rfl (by decide) wd_99 (Or.inl rfl) rfl dX8_readNetPart_13 z9
    obtain ⟨a_8, ea_8, h⟩ := x_some_e h
    refine ev_at (st' := [va_rf (some a_8), va_rf (σ_4.R 302 a0)]) rfl (by rw [ea_8]) ?_
    obtain ⟨c_9, h⟩ := x_chk_e h
    refine ev_get (C := RX5) (T := TX5) (k := 4) inX5 (xE_6 c_9) rfl (by decide) wd_377 (Or.inl rfl) rfl dX8_readNetPart_16 ?_
    refine ev_aload_n (j := 1) (x := (some a0)) dX8_readNetPart_19 rfl rfl ?_
    refine x_via (A := Ev l G mX8_readNetPart 23 [(3, .int v_3), (0, va_rf (some a0)), (1, .int v1), (2, .int v2)] [va_rf (σ_4.R 300 a0), .int (σ_4.I 504 a_8), va_rf (σ_4.R 302 a0)] σ_4 (xrR rr) σ') (fun z9 => ?_) ?_
    · rcases c_7 with w9 | w9
      · exact ev_get (C := RX3) (T := TX3) (k := 0) inX3 (xE_4 w9) rfl (by decide) wd_100 (Or.inl rfl) rfl dX8_readNetPart_20 z9
      · exact ev_get (C := RX9) (T := TX9) (k := 0) inX9 (xE_9 w9) rfl (by decide) wd_100 (Or.inl rfl) rfl dX8_readNetPart_20 z9
    obtain ⟨a_10, ea_10, h⟩ := x_some_e h
    refine ev_at (st' := [va_rf (some a_10), .int (σ_4.I 504 a_8), va_rf (σ_4.R 302 a0)]) rfl (by rw [ea_10]) ?_
    obtain ⟨c_14, h⟩ := x_chk_e h
    rcases x_bind_e h with ⟨v_11, σ_12, h_13, h⟩ | ⟨E_25, σ_12, h_13, h⟩
    · have z9 := x_call (M := mX8_readNetPart) (M' := mX10_name) (pc := 23) (st := [va_rf (some a_10), .int (σ_4.I 504 a_8), va_rf (σ_4.R 302 a0)]) (rest := [.int (σ_4.I 504 a_8), va_rf (σ_4.R 302 a0)]) (av := [va_rf (some a_10)]) (x_linkV (M := mX8_readNetPart) (M' := mX10_name) (As := []) (index := 43) (C := RX10) (T := TX10) (xE_10 c_14) rfl wd_280 wd_281 wd_279 xw_X10_name rfl (by decide) rfl rfl dX8_readNetPart_23) (ev_X10_name hO hP h_13) xw_X10_name rfl wd_118 dX8_readNetPart_23 (by decide) (by decide) (by simp [x_cat, x_catI, x_catJ])
      refine x_callR z9 ?_
      refine ev_at (st' := [.long v_11, .int (σ_4.I 504 a_8), va_rf (σ_4.R 302 a0)]) rfl rfl ?_
      refine ev_at (st' := [.long v_11, .int (σ_4.I 504 a_8), va_rf (some a_8)]) rfl (by rw [ea_8]) ?_
      obtain ⟨c_18, h⟩ := x_chk_e h
      rcases x_bind_e h with ⟨v_15, σ_16, h_17, h⟩ | ⟨E_24, σ_16, h_17, h⟩
      · have z9 := x_call (M := mX8_readNetPart) (M' := mX5_netAmong) (pc := 26) (st := [.long v_11, .int (σ_4.I 504 a_8), va_rf (some a_8)]) (rest := []) (av := [va_rf (some a_8), .int (σ_4.I 504 a_8), .long v_11]) (x_linkV (M := mX8_readNetPart) (M' := mX5_netAmong) (As := [.int (σ_4.I 504 a_8), .long v_11]) (index := 117) (C := RX5) (T := TX5) (xE_6 c_18) rfl wd_378 wd_300 wd_298 xw_X5_netAmong rfl (by decide) rfl rfl dX8_readNetPart_26) (ev_X5_netAmong hO hP h_17) xw_X5_netAmong rfl wd_274 dX8_readNetPart_26 (by decide) (by decide) (by simp [x_cat, x_catI, x_catJ])
        refine x_callR z9 ?_
        refine ev_at (st' := [va_rf v_15]) rfl rfl ?_
        refine ev_astore (i := 4) (lv' := [(4, va_rf v_15), (3, .int v_3), (0, va_rf (some a0)), (1, .int v1), (2, .int v2)]) dX8_readNetPart_29 (by decide) rfl ?_
        refine ev_aload_n (j := 2) (x := (some a0)) dX8_readNetPart_31 rfl rfl ?_
        obtain ⟨c_19, h⟩ := x_chk_e h
        refine x_via (A := Ev l G mX8_readNetPart 35 [(4, va_rf v_15), (3, .int v_3), (0, va_rf (some a0)), (1, .int v1), (2, .int v2)] [va_rf (σ_16.R 300 a0)] σ_16 (xrR rr) σ') (fun z9 => ?_) ?_
        · rcases c_19 with w9 | w9
          · exact ev_get (C := RX3) (T := TX3) (k := 0) inX3 (xE_4 w9) rfl (by decide) wd_100 (Or.inl rfl) rfl dX8_readNetPart_32 z9
          · exact ev_get (C := RX9) (T := TX9) (k := 0) inX9 (xE_9 w9) rfl (by decide) wd_100 (Or.inl rfl) rfl dX8_readNetPart_32 z9
        refine ev_aload (j := 0) (x := v_15) dX8_readNetPart_35 rfl ?_
        by_cases c_20 : v_15 = none
        · rw [if_pos c_20] at h
          refine ev_ifnull (x := v_15) (tgt := 49) dX8_readNetPart_37 (by decide) (fun _ => ?_) (fun q9 => absurd c_20 q9)
          exact ev_sub [2, 3, 4, 1, 0] rfl (ev_X8_readNetPart_p49 hO hP h)
        · rw [if_neg c_20] at h
          refine ev_ifnull (x := v_15) (tgt := 49) dX8_readNetPart_37 (by decide) (fun q9 => absurd q9 c_20) (fun _ => ?_)
          refine ev_aload (j := 0) (x := v_15) dX8_readNetPart_40 rfl ?_
          obtain ⟨a_21, ea_21, h⟩ := x_some_e h
          refine ev_at (st' := [va_rf (some a_21), va_rf (σ_16.R 300 a0)]) rfl (by rw [ea_21]) ?_
          obtain ⟨c_22, h⟩ := x_chk_e h
          refine ev_get (C := RX4) (T := TX4) (k := 1) inX4 (xE_5 c_22) rfl (by decide) wd_379 (Or.inl rfl) rfl dX8_readNetPart_42 ?_
          refine ev_iconst (v := -1) dX8_readNetPart_45 (by decide) ?_
          by_cases c_23 : (σ_16.I 401 a_21) = (-1)
          · rw [if_pos c_23] at h
            refine ev_icmp_ne (x := (σ_16.I 401 a_21)) (y := (-1)) (tgt := 53) dX8_readNetPart_46 (by decide) (fun q9 => absurd c_23 q9) (fun _ => ?_)
            exact ev_sub [2, 3, 4, 1, 0] rfl (ev_X8_readNetPart_p49 hO hP h)
          · rw [if_neg c_23] at h
            refine ev_icmp_ne (x := (σ_16.I 401 a_21)) (y := (-1)) (tgt := 53) dX8_readNetPart_46 (by decide) (fun _ => ?_) (fun q9 => absurd q9 c_23)
            refine ev_iconst (v := 0) dX8_readNetPart_53 (by decide) ?_
            exact ev_sub [2, 3, 4, 1, 0] rfl (ev_X8_readNetPart_p54 hO hP h)
      · have z9 := x_call (M := mX8_readNetPart) (M' := mX5_netAmong) (pc := 26) (st := [.long v_11, .int (σ_4.I 504 a_8), va_rf (some a_8)]) (rest := []) (av := [va_rf (some a_8), .int (σ_4.I 504 a_8), .long v_11]) (x_linkV (M := mX8_readNetPart) (M' := mX5_netAmong) (As := [.int (σ_4.I 504 a_8), .long v_11]) (index := 117) (C := RX5) (T := TX5) (xE_6 c_18) rfl wd_378 wd_300 wd_298 xw_X5_netAmong rfl (by decide) rfl rfl dX8_readNetPart_26) (ev_X5_netAmong hO hP h_17) xw_X5_netAmong rfl wd_274 dX8_readNetPart_26 (by decide) (by decide) (by simp [x_cat, x_catI, x_catJ])
        cases h
        exact x_callX z9 (evX_out rfl)
    · have z9 := x_call (M := mX8_readNetPart) (M' := mX10_name) (pc := 23) (st := [va_rf (some a_10), .int (σ_4.I 504 a_8), va_rf (σ_4.R 302 a0)]) (rest := [.int (σ_4.I 504 a_8), va_rf (σ_4.R 302 a0)]) (av := [va_rf (some a_10)]) (x_linkV (M := mX8_readNetPart) (M' := mX10_name) (As := []) (index := 43) (C := RX10) (T := TX10) (xE_10 c_14) rfl wd_280 wd_281 wd_279 xw_X10_name rfl (by decide) rfl rfl dX8_readNetPart_23) (ev_X10_name hO hP h_13) xw_X10_name rfl wd_118 dX8_readNetPart_23 (by decide) (by decide) (by simp [x_cat, x_catI, x_catJ])
      cases h
      exact x_callX z9 (evX_out rfl)
  · have z9 := x_call (M := mX8_readNetPart) (M' := mX10_place) (pc := 4) (st := [va_rf (some a_2)]) (rest := []) (av := [va_rf (some a_2)]) (x_linkV (M := mX8_readNetPart) (M' := mX10_place) (As := []) (index := 34) (C := RX10) (T := TX10) (xE_10 c_6) rfl wd_289 wd_290 wd_288 xw_X10_place rfl (by decide) rfl rfl dX8_readNetPart_4) (ev_X10_place hO hP h_5) xw_X10_place rfl wd_118 dX8_readNetPart_4 (by decide) (by decide) (by simp [x_cat, x_catI, x_catJ])
    cases h
    exact x_callX z9 (evX_out rfl)
set_option maxHeartbeats 4000000 in
set_option maxRecDepth 100000 in
theorem ev_X3_readPart_p71 {l : Launch} {G : xG} (hO : x_OK l G) {P : xP} (hP : x_PG P G) {a0 : Nat} {v1 : Option Nat} {σ σ' : xS} {rr : Option Nat ⊕ String} (h : dm_X3_readPart_p71 P a0 v1 σ = some (rr, σ')) : Ev l G mX3_readPart 71 [(1, va_rf v1)] [] σ (xrR rr) σ' := by
  unfold dm_X3_readPart_p71 at h
  refine ev_aload_n (j := 0) (x := v1) dX3_readPart_71 rfl rfl ?_
  cases h
  exact ev_aret rfl dX3_readPart_72
set_option maxHeartbeats 4000000 in
set_option maxRecDepth 100000 in
theorem ev_X3_readPart {l : Launch} {G : xG} (hO : x_OK l G) {P : xP} (hP : x_PG P G) {a0 : Nat} {σ σ' : xS} {rr : Option Nat ⊕ String} (h : dm_X3_readPart P a0 σ = some (rr, σ')) : EvM l G mX3_readPart [va_rf (some a0)] σ (xrR rr) σ' := by
  unfold dm_X3_readPart at h
  refine evM_of hO (by decide +kernel) (x_lenI (by simp [x_cat, x_catI, x_catJ, mX3_readPart, xM.maxL])) ?_
  refine Eq.mp (congrArg (fun z => Ev l G mX3_readPart 0 z [] σ (xrR rr) σ') (show [(0, va_rf (some a0))] = lv_args 0 [va_rf (some a0)] by simp [lv_args, x_cat, x_catI, x_catJ])) ?_
  refine ev_aload_n (j := 0) (x := (some a0)) dX3_readPart_0 rfl rfl ?_
  obtain ⟨c_1, h⟩ := x_chk_e h
  refine ev_get (C := RX3) (T := TX3) (k := 0) inX3 (xE_4 c_1) rfl (by decide) wd_308 (Or.inr wd_307) rfl dX3_readPart_1 ?_
  obtain ⟨a_2, ea_2, h⟩ := x_some_e h
  refine ev_at (st' := [va_rf (some a_2)]) rfl (by rw [ea_2]) ?_
  obtain ⟨c_6, h⟩ := x_chk_e h
  rcases x_bind_e h with ⟨v_3, σ_4, h_5, h⟩ | ⟨E_49, σ_4, h_5, h⟩
  · have z9 := x_call (M := mX3_readPart) (M' := mX10_isNumber) (pc := 4) (st := [va_rf (some a_2)]) (rest := []) (av := [va_rf (some a_2)]) (x_linkV (M := mX3_readPart) (M' := mX10_isNumber) (As := []) (index := 171) (C := RX10) (T := TX10) (xE_10 c_6) rfl wd_388 wd_389 wd_387 xw_X10_isNumber rfl (by decide) rfl rfl dX3_readPart_4) (ev_X10_isNumber hO hP h_5) xw_X10_isNumber rfl wd_118 dX3_readPart_4 (by decide) (by decide) (by simp [x_cat, x_catI, x_catJ])
    refine x_callR z9 ?_
    refine ev_at (st' := [.int v_3]) rfl rfl ?_
    by_cases c_7 : v_3 = 0
    · rw [if_pos c_7] at h
      refine ev_if_eq (x := v_3) (tgt := 46) dX3_readPart_7 (by decide) (fun _ => ?_) (fun q9 => absurd c_7 q9)
      refine ev_aload_n (j := 0) (x := (some a0)) dX3_readPart_46 rfl rfl ?_
      refine ev_bipush (v := 91) dX3_readPart_47 (by decide) ?_
      refine ev_bipush (v := 58) dX3_readPart_49 (by decide) ?_
      obtain ⟨c_11, h⟩ := x_chk_e h
      rcases x_bind_e h with ⟨v_8, σ_9, h_10, h⟩ | ⟨E_22, σ_9, h_10, h⟩
      · have z9 := x_call (M := mX3_readPart) (M' := mX8_readNetPart) (pc := 51) (st := [.int 58, .int 91, va_rf (some a0)]) (rest := []) (av := [va_rf (some a0), .int 91, .int 58]) (x_linkU (M := mX3_readPart) (M' := mX8_readNetPart) (As := [.int 91, .int 58]) (index := 178) (C := RX3) (T := TX3) (owner := "NetlistForms$Reader") (x := ⟨"NetlistForms$LongReader", "readNetPart", "(CC)LNetlistForms$Part;"⟩) (xE_4 c_11) rfl wd_391 wd_392 (Or.inr rfl) wd_393 wd_394 xw_X8_readNetPart rfl (by decide) rfl rfl dX3_readPart_51) (ev_X8_readNetPart hO hP h_10) xw_X8_readNetPart rfl wd_104 dX3_readPart_51 (by decide) (by decide) (by simp [x_cat, x_catI, x_catJ])
        refine x_callR z9 ?_
        refine ev_at (st' := [va_rf v_8]) rfl rfl ?_
        refine ev_astore_n (i := 1) (lv' := [(1, va_rf v_8), (0, va_rf (some a0))]) dX3_readPart_54 rfl (by decide) (by simp [x_cat, x_catI, x_catJ]) ?_
        refine ev_aload_n (j := 0) (x := v_8) dX3_readPart_55 rfl rfl ?_
        obtain ⟨a_12, ea_12, h⟩ := x_some_e h
        refine ev_at (st' := [va_rf (some a_12)]) rfl (by rw [ea_12]) ?_
        obtain ⟨c_13, h⟩ := x_chk_e h
        refine ev_get (C := RX6) (T := TX6) (k := 0) inX6 (xE_7 c_13) rfl (by decide) wd_395 (Or.inl rfl) rfl dX3_readPart_56 ?_
        by_cases c_14 : (σ_9.I 600 a_12) = 0
        · rw [if_pos c_14] at h
          refine ev_if_eq (x := (σ_9.I 600 a_12)) (tgt := 71) dX3_readPart_59 (by decide) (fun _ => ?_) (fun q9 => absurd c_14 q9)
          exact ev_sub [0] rfl (ev_X3_readPart_p71 hO hP h)
        · rw [if_neg c_14] at h
          refine ev_if_eq (x := (σ_9.I 600 a_12)) (tgt := 71) dX3_readPart_59 (by decide) (fun q9 => absurd q9 c_14) (fun _ => ?_)
          refine ev_aload_n (j := 1) (x := (some a0)) dX3_readPart_62 rfl rfl ?_
          obtain ⟨c_15, h⟩ := x_chk_e h
          refine ev_get (C := RX3) (T := TX3) (k := 0) inX3 (xE_4 c_15) rfl (by decide) wd_308 (Or.inr wd_307) rfl dX3_readPart_63 ?_
          refine ev_bipush (v := 93) dX3_readPart_66 (by decide) ?_
          obtain ⟨a_16, ea_16, h⟩ := x_some_e h
          refine ev_at (st' := [.int 93, va_rf (some a_16)]) rfl (by rw [ea_16]) ?_
          obtain ⟨c_20, h⟩ := x_chk_e h
          rcases x_bind_e h with ⟨v_17, σ_18, h_19, h⟩ | ⟨E_21, σ_18, h_19, h⟩
          · have z9 := x_call (M := mX3_readPart) (M' := mX10_takeSign) (pc := 68) (st := [.int 93, va_rf (some a_16)]) (rest := []) (av := [va_rf (some a_16), .int 93]) (x_linkV (M := mX3_readPart) (M' := mX10_takeSign) (As := [.int 93]) (index := 76) (C := RX10) (T := TX10) (xE_10 c_20) rfl wd_320 wd_321 wd_319 xw_X10_takeSign rfl (by decide) rfl rfl dX3_readPart_68) (ev_X10_takeSign hO hP h_19) xw_X10_takeSign rfl wd_118 dX3_readPart_68 (by decide) (by decide) (by simp [x_cat, x_catI, x_catJ])
            refine x_callR z9 ?_
            refine ev_at (st' := []) rfl rfl ?_
            exact ev_sub [0] rfl (ev_X3_readPart_p71 hO hP h)
          · have z9 := x_call (M := mX3_readPart) (M' := mX10_takeSign) (pc := 68) (st := [.int 93, va_rf (some a_16)]) (rest := []) (av := [va_rf (some a_16), .int 93]) (x_linkV (M := mX3_readPart) (M' := mX10_takeSign) (As := [.int 93]) (index := 76) (C := RX10) (T := TX10) (xE_10 c_20) rfl wd_320 wd_321 wd_319 xw_X10_takeSign rfl (by decide) rfl rfl dX3_readPart_68) (ev_X10_takeSign hO hP h_19) xw_X10_takeSign rfl wd_118 dX3_readPart_68 (by decide) (by decide) (by simp [x_cat, x_catI, x_catJ])
            cases h
            exact x_callX z9 (evX_out rfl)
      · have z9 := x_call (M := mX3_readPart) (M' := mX8_readNetPart) (pc := 51) (st := [.int 58, .int 91, va_rf (some a0)]) (rest := []) (av := [va_rf (some a0), .int 91, .int 58]) (x_linkU (M := mX3_readPart) (M' := mX8_readNetPart) (As := [.int 91, .int 58]) (index := 178) (C := RX3) (T := TX3) (owner := "NetlistForms$Reader") (x := ⟨"NetlistForms$LongReader", "readNetPart", "(CC)LNetlistForms$Part;"⟩) (xE_4 c_11) rfl wd_391 wd_392 (Or.inr rfl) wd_393 wd_394 xw_X8_readNetPart rfl (by decide) rfl rfl dX3_readPart_51) (ev_X8_readNetPart hO hP h_10) xw_X8_readNetPart rfl wd_104 dX3_readPart_51 (by decide) (by decide) (by simp [x_cat, x_catI, x_catJ])
        cases h
        exact x_callX z9 (evX_out rfl)
    · rw [if_neg c_7] at h
      refine ev_if_eq (x := v_3) (tgt := 46) dX3_readPart_7 (by decide) (fun q9 => absurd q9 c_7) (fun _ => ?_)
      refine ev_aload_n (j := 0) (x := (some a0)) dX3_readPart_10 rfl rfl ?_
      obtain ⟨c_23, h⟩ := x_chk_e h
      refine ev_get (C := RX3) (T := TX3) (k := 0) inX3 (xE_4 c_23) rfl (by decide) wd_308 (Or.inr wd_307) rfl dX3_readPart_11 ?_
      obtain ⟨a_24, ea_24, h⟩ := x_some_e h
      refine ev_at (st' := [va_rf (some a_24)]) rfl (by rw [ea_24]) ?_
      obtain ⟨c_28, h⟩ := x_chk_e h
      rcases x_bind_e h with ⟨v_25, σ_26, h_27, h⟩ | ⟨E_48, σ_26, h_27, h⟩
      · have z9 := x_call (M := mX3_readPart) (M' := mX10_place) (pc := 14) (st := [va_rf (some a_24)]) (rest := []) (av := [va_rf (some a_24)]) (x_linkV (M := mX3_readPart) (M' := mX10_place) (As := []) (index := 155) (C := RX10) (T := TX10) (xE_10 c_28) rfl wd_396 wd_290 wd_288 xw_X10_place rfl (by decide) rfl rfl dX3_readPart_14) (ev_X10_place hO hP h_27) xw_X10_place rfl wd_118 dX3_readPart_14 (by decide) (by decide) (by simp [x_cat, x_catI, x_catJ])
        refine x_callR z9 ?_
        refine ev_at (st' := [.int v_25]) rfl rfl ?_
        refine ev_istore_n (i := 1) (lv' := [(1, .int v_25), (0, va_rf (some a0))]) dX3_readPart_17 rfl (by decide) (by simp [x_cat, x_catI, x_catJ]) ?_
        refine ev_aload_n (j := 1) (x := (some a0)) dX3_readPart_18 rfl rfl ?_
        obtain ⟨c_29, h⟩ := x_chk_e h
        refine ev_get (C := RX3) (T := TX3) (k := 0) inX3 (xE_4 c_29) rfl (by decide) wd_308 (Or.inr wd_307) rfl dX3_readPart_19 ?_
        refine ev_iconst (v := 1) dX3_readPart_22 (by decide) ?_
        refine ev_bipush (v := 7) dX3_readPart_23 (by decide) ?_
        obtain ⟨a_30, ea_30, h⟩ := x_some_e h
        refine ev_at (st' := [.int 7, .int 1, va_rf (some a_30)]) rfl (by rw [ea_30]) ?_
        obtain ⟨c_34, h⟩ := x_chk_e h
        rcases x_bind_e h with ⟨v_31, σ_32, h_33, h⟩ | ⟨E_47, σ_32, h_33, h⟩
        · have z9 := x_call (M := mX3_readPart) (M' := mX10_takeNumber) (pc := 25) (st := [.int 7, .int 1, va_rf (some a_30)]) (rest := []) (av := [va_rf (some a_30), .int 1, .int 7]) (x_linkV (M := mX3_readPart) (M' := mX10_takeNumber) (As := [.int 1, .int 7]) (index := 113) (C := RX10) (T := TX10) (xE_10 c_34) rfl wd_351 wd_352 wd_350 xw_X10_takeNumber rfl (by decide) rfl rfl dX3_readPart_25) (ev_X10_takeNumber hO hP h_33) xw_X10_takeNumber rfl wd_118 dX3_readPart_25 (by decide) (by decide) (by simp [x_cat, x_catI, x_catJ])
          refine x_callR z9 ?_
          refine ev_at (st' := [.int v_31]) rfl rfl ?_
          refine ev_istore_n (i := 2) (lv' := [(2, .int v_31), (1, .int v_25), (0, va_rf (some a0))]) dX3_readPart_28 rfl (by decide) rfl ?_
          refine ev_aload_n (j := 2) (x := (some a0)) dX3_readPart_29 rfl rfl ?_
          obtain ⟨c_35, h⟩ := x_chk_e h
          refine ev_get (C := RX3) (T := TX3) (k := 0) inX3 (xE_4 c_35) rfl (by decide) wd_308 (Or.inr wd_307) rfl dX3_readPart_30 ?_
          refine ev_bipush (v := 39) dX3_readPart_33 (by decide) ?_
          obtain ⟨a_36, ea_36, h⟩ := x_some_e h
          refine ev_at (st' := [.int 39, va_rf (some a_36)]) rfl (by rw [ea_36]) ?_
          obtain ⟨c_40, h⟩ := x_chk_e h
          rcases x_bind_e h with ⟨v_37, σ_38, h_39, h⟩ | ⟨E_46, σ_38, h_39, h⟩
          · have z9 := x_call (M := mX3_readPart) (M' := mX10_takeSign) (pc := 35) (st := [.int 39, va_rf (some a_36)]) (rest := []) (av := [va_rf (some a_36), .int 39]) (x_linkV (M := mX3_readPart) (M' := mX10_takeSign) (As := [.int 39]) (index := 76) (C := RX10) (T := TX10) (xE_10 c_40) rfl wd_320 wd_321 wd_319 xw_X10_takeSign rfl (by decide) rfl rfl dX3_readPart_35) (ev_X10_takeSign hO hP h_39) xw_X10_takeSign rfl wd_118 dX3_readPart_35 (by decide) (by decide) (by simp [x_cat, x_catI, x_catJ])
            refine x_callR z9 ?_
            refine ev_at (st' := []) rfl rfl ?_
            refine ev_aload_n (j := 2) (x := (some a0)) dX3_readPart_38 rfl rfl ?_
            refine ev_iload_n (j := 1) (x := v_25) dX3_readPart_39 rfl rfl ?_
            refine ev_iload_n (j := 0) (x := v_31) dX3_readPart_40 rfl rfl ?_
            refine ev_iload_n (j := 0) (x := v_31) dX3_readPart_41 rfl rfl ?_
            obtain ⟨c_44, h⟩ := x_chk_e h
            rcases x_bind_e h with ⟨v_41, σ_42, h_43, h⟩ | ⟨E_45, σ_42, h_43, h⟩
            · have z9 := x_call (M := mX3_readPart) (M' := mX8_readDigits) (pc := 42) (st := [.int v_31, .int v_31, .int v_25, va_rf (some a0)]) (rest := []) (av := [va_rf (some a0), .int v_25, .int v_31, .int v_31]) (x_linkU (M := mX3_readPart) (M' := mX8_readDigits) (As := [.int v_25, .int v_31, .int v_31]) (index := 174) (C := RX3) (T := TX3) (owner := "NetlistForms$Reader") (x := ⟨"NetlistForms$LongReader", "readDigits", "(III)LNetlistForms$Part;"⟩) (xE_4 c_44) rfl wd_398 wd_399 (Or.inr rfl) wd_400 wd_401 xw_X8_readDigits rfl (by decide) rfl rfl dX3_readPart_42) (ev_X8_readDigits hO hP h_43) xw_X8_readDigits rfl wd_104 dX3_readPart_42 (by decide) (by decide) (by simp [x_cat, x_catI, x_catJ])
              refine x_callR z9 ?_
              refine ev_at (st' := [va_rf v_41]) rfl rfl ?_
              cases h
              exact ev_aret rfl dX3_readPart_45
            · have z9 := x_call (M := mX3_readPart) (M' := mX8_readDigits) (pc := 42) (st := [.int v_31, .int v_31, .int v_25, va_rf (some a0)]) (rest := []) (av := [va_rf (some a0), .int v_25, .int v_31, .int v_31]) (x_linkU (M := mX3_readPart) (M' := mX8_readDigits) (As := [.int v_25, .int v_31, .int v_31]) (index := 174) (C := RX3) (T := TX3) (owner := "NetlistForms$Reader") (x := ⟨"NetlistForms$LongReader", "readDigits", "(III)LNetlistForms$Part;"⟩) (xE_4 c_44) rfl wd_398 wd_399 (Or.inr rfl) wd_400 wd_401 xw_X8_readDigits rfl (by decide) rfl rfl dX3_readPart_42) (ev_X8_readDigits hO hP h_43) xw_X8_readDigits rfl wd_104 dX3_readPart_42 (by decide) (by decide) (by simp [x_cat, x_catI, x_catJ])
              cases h
              exact x_callX z9 (evX_out rfl)
          · have z9 := x_call (M := mX3_readPart) (M' := mX10_takeSign) (pc := 35) (st := [.int 39, va_rf (some a_36)]) (rest := []) (av := [va_rf (some a_36), .int 39]) (x_linkV (M := mX3_readPart) (M' := mX10_takeSign) (As := [.int 39]) (index := 76) (C := RX10) (T := TX10) (xE_10 c_40) rfl wd_320 wd_321 wd_319 xw_X10_takeSign rfl (by decide) rfl rfl dX3_readPart_35) (ev_X10_takeSign hO hP h_39) xw_X10_takeSign rfl wd_118 dX3_readPart_35 (by decide) (by decide) (by simp [x_cat, x_catI, x_catJ])
            cases h
            exact x_callX z9 (evX_out rfl)
        · have z9 := x_call (M := mX3_readPart) (M' := mX10_takeNumber) (pc := 25) (st := [.int 7, .int 1, va_rf (some a_30)]) (rest := []) (av := [va_rf (some a_30), .int 1, .int 7]) (x_linkV (M := mX3_readPart) (M' := mX10_takeNumber) (As := [.int 1, .int 7]) (index := 113) (C := RX10) (T := TX10) (xE_10 c_34) rfl wd_351 wd_352 wd_350 xw_X10_takeNumber rfl (by decide) rfl rfl dX3_readPart_25) (ev_X10_takeNumber hO hP h_33) xw_X10_takeNumber rfl wd_118 dX3_readPart_25 (by decide) (by decide) (by simp [x_cat, x_catI, x_catJ])
          cases h
          exact x_callX z9 (evX_out rfl)
      · have z9 := x_call (M := mX3_readPart) (M' := mX10_place) (pc := 14) (st := [va_rf (some a_24)]) (rest := []) (av := [va_rf (some a_24)]) (x_linkV (M := mX3_readPart) (M' := mX10_place) (As := []) (index := 155) (C := RX10) (T := TX10) (xE_10 c_28) rfl wd_396 wd_290 wd_288 xw_X10_place rfl (by decide) rfl rfl dX3_readPart_14) (ev_X10_place hO hP h_27) xw_X10_place rfl wd_118 dX3_readPart_14 (by decide) (by decide) (by simp [x_cat, x_catI, x_catJ])
        cases h
        exact x_callX z9 (evX_out rfl)
  · have z9 := x_call (M := mX3_readPart) (M' := mX10_isNumber) (pc := 4) (st := [va_rf (some a_2)]) (rest := []) (av := [va_rf (some a_2)]) (x_linkV (M := mX3_readPart) (M' := mX10_isNumber) (As := []) (index := 171) (C := RX10) (T := TX10) (xE_10 c_6) rfl wd_388 wd_389 wd_387 xw_X10_isNumber rfl (by decide) rfl rfl dX3_readPart_4) (ev_X10_isNumber hO hP h_5) xw_X10_isNumber rfl wd_118 dX3_readPart_4 (by decide) (by decide) (by simp [x_cat, x_catI, x_catJ])
    cases h
    exact x_callX z9 (evX_out rfl)
set_option maxHeartbeats 4000000 in
set_option maxRecDepth 100000 in
theorem ev_X9_readPart {l : Launch} {G : xG} (hO : x_OK l G) {P : xP} (hP : x_PG P G) {a0 : Nat} {σ σ' : xS} {rr : Option Nat ⊕ String} (h : dm_X9_readPart P a0 σ = some (rr, σ')) : EvM l G mX9_readPart [va_rf (some a0)] σ (xrR rr) σ' := by
  unfold dm_X9_readPart at h
  refine evM_of hO (by decide +kernel) (x_lenI (by simp [x_cat, x_catI, x_catJ, mX9_readPart, xM.maxL])) ?_
  refine Eq.mp (congrArg (fun z => Ev l G mX9_readPart 0 z [] σ (xrR rr) σ') (show [(0, va_rf (some a0))] = lv_args 0 [va_rf (some a0)] by simp [lv_args, x_cat, x_catI, x_catJ])) ?_
  refine ev_aload_n (j := 0) (x := (some a0)) dX9_readPart_0 rfl rfl ?_
  obtain ⟨c_1, h⟩ := x_chk_e h
  refine ev_get (C := RX9) (T := TX9) (k := 0) inX9 (xE_9 c_1) rfl (by decide) wd_403 (Or.inr wd_402) rfl dX9_readPart_1 ?_
  obtain ⟨a_2, ea_2, h⟩ := x_some_e h
  refine ev_at (st' := [va_rf (some a_2)]) rfl (by rw [ea_2]) ?_
  obtain ⟨c_6, h⟩ := x_chk_e h
  rcases x_bind_e h with ⟨v_3, σ_4, h_5, h⟩ | ⟨E_25, σ_4, h_5, h⟩
  · have z9 := x_call (M := mX9_readPart) (M' := mX10_place) (pc := 4) (st := [va_rf (some a_2)]) (rest := []) (av := [va_rf (some a_2)]) (x_linkV (M := mX9_readPart) (M' := mX10_place) (As := []) (index := 106) (C := RX10) (T := TX10) (xE_10 c_6) rfl wd_404 wd_290 wd_288 xw_X10_place rfl (by decide) rfl rfl dX9_readPart_4) (ev_X10_place hO hP h_5) xw_X10_place rfl wd_118 dX9_readPart_4 (by decide) (by decide) (by simp [x_cat, x_catI, x_catJ])
    refine x_callR z9 ?_
    refine ev_at (st' := [.int v_3]) rfl rfl ?_
    refine ev_istore_n (i := 1) (lv' := [(1, .int v_3), (0, va_rf (some a0))]) dX9_readPart_7 rfl (by decide) (by simp [x_cat, x_catI, x_catJ]) ?_
    refine ev_aload_n (j := 1) (x := (some a0)) dX9_readPart_8 rfl rfl ?_
    obtain ⟨c_7, h⟩ := x_chk_e h
    refine ev_get (C := RX9) (T := TX9) (k := 0) inX9 (xE_9 c_7) rfl (by decide) wd_403 (Or.inr wd_402) rfl dX9_readPart_9 ?_
    refine ev_bipush (v := 39) dX9_readPart_12 (by decide) ?_
    obtain ⟨a_8, ea_8, h⟩ := x_some_e h
    refine ev_at (st' := [.int 39, va_rf (some a_8)]) rfl (by rw [ea_8]) ?_
    obtain ⟨c_12, h⟩ := x_chk_e h
    rcases x_bind_e h with ⟨v_9, σ_10, h_11, h⟩ | ⟨E_24, σ_10, h_11, h⟩
    · have z9 := x_call (M := mX9_readPart) (M' := mX10_skips) (pc := 14) (st := [.int 39, va_rf (some a_8)]) (rest := []) (av := [va_rf (some a_8), .int 39]) (x_linkV (M := mX9_readPart) (M' := mX10_skips) (As := [.int 39]) (index := 110) (C := RX10) (T := TX10) (xE_10 c_12) rfl wd_405 wd_348 wd_346 xw_X10_skips rfl (by decide) rfl rfl dX9_readPart_14) (ev_X10_skips hO hP h_11) xw_X10_skips rfl wd_118 dX9_readPart_14 (by decide) (by decide) (by simp [x_cat, x_catI, x_catJ])
      refine x_callR z9 ?_
      refine ev_at (st' := [.int v_9]) rfl rfl ?_
      by_cases c_13 : v_9 = 0
      · rw [if_pos c_13] at h
        refine ev_if_eq (x := v_9) (tgt := 29) dX9_readPart_17 (by decide) (fun _ => ?_) (fun q9 => absurd c_13 q9)
        refine ev_aload_n (j := 1) (x := (some a0)) dX9_readPart_29 rfl rfl ?_
        refine ev_bipush (v := 46) dX9_readPart_30 (by decide) ?_
        refine ev_bipush (v := 46) dX9_readPart_32 (by decide) ?_
        obtain ⟨c_17, h⟩ := x_chk_e h
        rcases x_bind_e h with ⟨v_14, σ_15, h_16, h⟩ | ⟨E_18, σ_15, h_16, h⟩
        · have z9 := x_call (M := mX9_readPart) (M' := mX8_readNetPart) (pc := 34) (st := [.int 46, .int 46, va_rf (some a0)]) (rest := []) (av := [va_rf (some a0), .int 46, .int 46]) (x_linkU (M := mX9_readPart) (M' := mX8_readNetPart) (As := [.int 46, .int 46]) (index := 117) (C := RX9) (T := TX9) (owner := "NetlistForms$Reader") (x := ⟨"NetlistForms$ShortReader", "readNetPart", "(CC)LNetlistForms$Part;"⟩) (xE_9 c_17) rfl wd_406 wd_407 (Or.inr rfl) wd_393 wd_408 xw_X8_readNetPart rfl (by decide) rfl rfl dX9_readPart_34) (ev_X8_readNetPart hO hP h_16) xw_X8_readNetPart rfl wd_104 dX9_readPart_34 (by decide) (by decide) (by simp [x_cat, x_catI, x_catJ])
          refine x_callR z9 ?_
          refine ev_at (st' := [va_rf v_14]) rfl rfl ?_
          cases h
          exact ev_aret rfl dX9_readPart_37
        · have z9 := x_call (M := mX9_readPart) (M' := mX8_readNetPart) (pc := 34) (st := [.int 46, .int 46, va_rf (some a0)]) (rest := []) (av := [va_rf (some a0), .int 46, .int 46]) (x_linkU (M := mX9_readPart) (M' := mX8_readNetPart) (As := [.int 46, .int 46]) (index := 117) (C := RX9) (T := TX9) (owner := "NetlistForms$Reader") (x := ⟨"NetlistForms$ShortReader", "readNetPart", "(CC)LNetlistForms$Part;"⟩) (xE_9 c_17) rfl wd_406 wd_407 (Or.inr rfl) wd_393 wd_408 xw_X8_readNetPart rfl (by decide) rfl rfl dX9_readPart_34) (ev_X8_readNetPart hO hP h_16) xw_X8_readNetPart rfl wd_104 dX9_readPart_34 (by decide) (by decide) (by simp [x_cat, x_catI, x_catJ])
          cases h
          exact x_callX z9 (evX_out rfl)
      · rw [if_neg c_13] at h
        refine ev_if_eq (x := v_9) (tgt := 29) dX9_readPart_17 (by decide) (fun q9 => absurd q9 c_13) (fun _ => ?_)
        refine ev_aload_n (j := 1) (x := (some a0)) dX9_readPart_20 rfl rfl ?_
        refine ev_iload_n (j := 0) (x := v_3) dX9_readPart_21 rfl rfl ?_
        refine ev_iconst (v := 1) dX9_readPart_22 (by decide) ?_
        refine ev_bipush (v := 7) dX9_readPart_23 (by decide) ?_
        obtain ⟨c_22, h⟩ := x_chk_e h
        rcases x_bind_e h with ⟨v_19, σ_20, h_21, h⟩ | ⟨E_23, σ_20, h_21, h⟩
        · have z9 := x_call (M := mX9_readPart) (M' := mX8_readDigits) (pc := 25) (st := [.int 7, .int 1, .int v_3, va_rf (some a0)]) (rest := []) (av := [va_rf (some a0), .int v_3, .int 1, .int 7]) (x_linkU (M := mX9_readPart) (M' := mX8_readDigits) (As := [.int v_3, .int 1, .int 7]) (index := 113) (C := RX9) (T := TX9) (owner := "NetlistForms$Reader") (x := ⟨"NetlistForms$ShortReader", "readDigits", "(III)LNetlistForms$Part;"⟩) (xE_9 c_22) rfl wd_409 wd_410 (Or.inr rfl) wd_400 wd_411 xw_X8_readDigits rfl (by decide) rfl rfl dX9_readPart_25) (ev_X8_readDigits hO hP h_21) xw_X8_readDigits rfl wd_104 dX9_readPart_25 (by decide) (by decide) (by simp [x_cat, x_catI, x_catJ])
          refine x_callR z9 ?_
          refine ev_at (st' := [va_rf v_19]) rfl rfl ?_
          cases h
          exact ev_aret rfl dX9_readPart_28
        · have z9 := x_call (M := mX9_readPart) (M' := mX8_readDigits) (pc := 25) (st := [.int 7, .int 1, .int v_3, va_rf (some a0)]) (rest := []) (av := [va_rf (some a0), .int v_3, .int 1, .int 7]) (x_linkU (M := mX9_readPart) (M' := mX8_readDigits) (As := [.int v_3, .int 1, .int 7]) (index := 113) (C := RX9) (T := TX9) (owner := "NetlistForms$Reader") (x := ⟨"NetlistForms$ShortReader", "readDigits", "(III)LNetlistForms$Part;"⟩) (xE_9 c_22) rfl wd_409 wd_410 (Or.inr rfl) wd_400 wd_411 xw_X8_readDigits rfl (by decide) rfl rfl dX9_readPart_25) (ev_X8_readDigits hO hP h_21) xw_X8_readDigits rfl wd_104 dX9_readPart_25 (by decide) (by decide) (by simp [x_cat, x_catI, x_catJ])
          cases h
          exact x_callX z9 (evX_out rfl)
    · have z9 := x_call (M := mX9_readPart) (M' := mX10_skips) (pc := 14) (st := [.int 39, va_rf (some a_8)]) (rest := []) (av := [va_rf (some a_8), .int 39]) (x_linkV (M := mX9_readPart) (M' := mX10_skips) (As := [.int 39]) (index := 110) (C := RX10) (T := TX10) (xE_10 c_12) rfl wd_405 wd_348 wd_346 xw_X10_skips rfl (by decide) rfl rfl dX9_readPart_14) (ev_X10_skips hO hP h_11) xw_X10_skips rfl wd_118 dX9_readPart_14 (by decide) (by decide) (by simp [x_cat, x_catI, x_catJ])
      cases h
      exact x_callX z9 (evX_out rfl)
  · have z9 := x_call (M := mX9_readPart) (M' := mX10_place) (pc := 4) (st := [va_rf (some a_2)]) (rest := []) (av := [va_rf (some a_2)]) (x_linkV (M := mX9_readPart) (M' := mX10_place) (As := []) (index := 106) (C := RX10) (T := TX10) (xE_10 c_6) rfl wd_404 wd_290 wd_288 xw_X10_place rfl (by decide) rfl rfl dX9_readPart_4) (ev_X10_place hO hP h_5) xw_X10_place rfl wd_118 dX9_readPart_4 (by decide) (by decide) (by simp [x_cat, x_catI, x_catJ])
    cases h
    exact x_callX z9 (evX_out rfl)
set_option maxHeartbeats 4000000 in
set_option maxRecDepth 100000 in
theorem ev_X5_addAssign_p39 {l : Launch} {G : xG} (hO : x_OK l G) {P : xP} (hP : x_PG P G) {a0 : Nat} {σ σ' : xS} {rr : Unit ⊕ String} (h : dm_X5_addAssign_p39 P a0 σ = some (rr, σ')) : Ev l G mX5_addAssign 39 [] [] σ (xrV rr) σ' := by
  unfold dm_X5_addAssign_p39 at h
  cases h
  exact ev_vret rfl dX5_addAssign_39
set_option maxHeartbeats 4000000 in
set_option maxRecDepth 100000 in
theorem ev_X5_addAssign {l : Launch} {G : xG} (hO : x_OK l G) {P : xP} (hP : x_PG P G) {a0 : Nat} {v1 : Option Nat} {v2 : Option Nat} {σ σ' : xS} {rr : Unit ⊕ String} (h : dm_X5_addAssign P a0 v1 v2 σ = some (rr, σ')) : EvM l G mX5_addAssign [va_rf (some a0), va_rf v1, va_rf v2] σ (xrV rr) σ' := by
  unfold dm_X5_addAssign at h
  refine evM_of hO (by decide +kernel) (x_lenI (by simp [x_cat, x_catI, x_catJ, mX5_addAssign, xM.maxL])) ?_
  refine Eq.mp (congrArg (fun z => Ev l G mX5_addAssign 0 z [] σ (xrV rr) σ') (show [(0, va_rf (some a0)), (1, va_rf v1), (2, va_rf v2)] = lv_args 0 [va_rf (some a0), va_rf v1, va_rf v2] by simp [lv_args, x_cat, x_catI, x_catJ])) ?_
  refine ev_aload_n (j := 0) (x := (some a0)) dX5_addAssign_0 rfl rfl ?_
  obtain ⟨c_1, h⟩ := x_chk_e h
  refine ev_get (C := RX5) (T := TX5) (k := 9) inX5 (xE_6 c_1) rfl (by decide) wd_264 (Or.inl rfl) rfl dX5_addAssign_1 ?_
  refine ev_bipush (v := 8) dX5_addAssign_4 (by decide) ?_
  by_cases c_2 : 8 ≤ (σ.I 509 a0)
  · rw [if_pos c_2] at h
    refine ev_icmp_ge (x := (σ.I 509 a0)) (y := 8) (tgt := 39) dX5_addAssign_6 (by decide) (fun _ => ?_) (fun q9 => absurd c_2 q9)
    exact ev_sub [] rfl (ev_X5_addAssign_p39 hO hP h)
  · rw [if_neg c_2] at h
    refine ev_icmp_ge (x := (σ.I 509 a0)) (y := 8) (tgt := 39) dX5_addAssign_6 (by decide) (fun q9 => absurd q9 c_2) (fun _ => ?_)
    refine ev_aload_n (j := 0) (x := (some a0)) dX5_addAssign_9 rfl rfl ?_
    refine ev_get (C := RX5) (T := TX5) (k := 7) inX5 (xE_6 c_1) rfl (by decide) wd_262 (Or.inl rfl) rfl dX5_addAssign_10 ?_
    refine ev_aload_n (j := 0) (x := (some a0)) dX5_addAssign_13 rfl rfl ?_
    refine ev_get (C := RX5) (T := TX5) (k := 9) inX5 (xE_6 c_1) rfl (by decide) wd_264 (Or.inl rfl) rfl dX5_addAssign_14 ?_
    refine ev_aload_n (j := 1) (x := v1) dX5_addAssign_17 rfl rfl ?_
    obtain ⟨a_3, ea_3, h⟩ := x_some_e h
    refine ev_at (st' := [va_rf v1, .int (σ.I 509 a0), va_rf (some a_3)]) rfl (by rw [ea_3]) ?_
    obtain ⟨c_4, h⟩ := x_chk_e h
    obtain ⟨σ_5, eσ_5, h⟩ := x_let_e h
    refine ev_aast_28 c_4.1 c_4.2.1 (hP.2.2.2.1 ▸ c_4.2.2.1) (x_kind_e c_4.2.2.2) dX5_addAssign_18 (eσ_5 ▸ ?_)
    refine ev_aload_n (j := 0) (x := (some a0)) dX5_addAssign_19 rfl rfl ?_
    obtain ⟨c_6, h⟩ := x_chk_e h
    refine ev_get (C := RX5) (T := TX5) (k := 8) inX5 (xE_6 c_6) rfl (by decide) wd_263 (Or.inl rfl) rfl dX5_addAssign_20 ?_
    refine ev_aload_n (j := 0) (x := (some a0)) dX5_addAssign_23 rfl rfl ?_
    refine ev_get (C := RX5) (T := TX5) (k := 9) inX5 (xE_6 c_6) rfl (by decide) wd_264 (Or.inl rfl) rfl dX5_addAssign_24 ?_
    refine ev_aload_n (j := 2) (x := v2) dX5_addAssign_27 rfl rfl ?_
    obtain ⟨a_7, ea_7, h⟩ := x_some_e h
    refine ev_at (st' := [va_rf v2, .int (σ_5.I 509 a0), va_rf (some a_7)]) rfl (by rw [ea_7]) ?_
    obtain ⟨c_8, h⟩ := x_chk_e h
    obtain ⟨σ_9, eσ_9, h⟩ := x_let_e h
    refine ev_aast_28 c_8.1 c_8.2.1 (hP.2.2.2.1 ▸ c_8.2.2.1) (x_kind_e c_8.2.2.2) dX5_addAssign_28 (eσ_9 ▸ ?_)
    refine ev_aload_n (j := 0) (x := (some a0)) dX5_addAssign_29 rfl rfl ?_
    refine ev_dup dX5_addAssign_30 (x_cat _) ?_
    obtain ⟨c_10, h⟩ := x_chk_e h
    refine ev_get (C := RX5) (T := TX5) (k := 9) inX5 (xE_6 c_10) rfl (by decide) wd_264 (Or.inl rfl) rfl dX5_addAssign_31 ?_
    refine ev_iconst (v := 1) dX5_addAssign_34 (by decide) ?_
    refine ev_iadd (x := (σ_9.I 509 a0)) (y := 1) dX5_addAssign_35 ?_
    obtain ⟨c_11, h⟩ := x_chk_e h
    obtain ⟨σ_12, eσ_12, h⟩ := x_let_e h
    refine ev_put (σ2 := σ_12) (C := RX5) (T := TX5) (k := 9) inX5 tyX5 tyX5_ok nmX5 (xE_6 c_11.1) rfl (by decide) wd_264 (Or.inl rfl) rfl rfl rfl rfl (Nat.le_of_ble_eq_true rfl) (hP.2.2.2.1 ▸ c_11.2) (by rw [eσ_12]; exact xP_6_9 _ c_11.1) (by rw [eσ_12]; exact xPut_I) dX5_addAssign_36 ?_
    exact ev_sub [] rfl (ev_X5_addAssign_p39 hO hP h)
set_option maxHeartbeats 4000000 in
set_option maxRecDepth 100000 in
theorem ev_X8_readAssign_p49 {l : Launch} {G : xG} (hO : x_OK l G) {P : xP} (hP : x_PG P G) {a0 : Nat} {v2 : Option Nat} {σ σ' : xS} {rr : Unit ⊕ String} (h : dm_X8_readAssign_p49 P a0 v2 σ = some (rr, σ')) : Ev l G mX8_readAssign 49 [(0, va_rf (some a0)), (2, va_rf v2)] [] σ (xrV rr) σ' := by
  unfold dm_X8_readAssign_p49 at h
  refine ev_aload_n (j := 0) (x := (some a0)) dX8_readAssign_49 rfl rfl ?_
  obtain ⟨c_4, h⟩ := x_chk_e h
  rcases x_bind_e h with ⟨v_1, σ_2, h_3, h⟩ | ⟨E_19, σ_2, h_3, h⟩
  · have z9 : xCall l G mX8_readAssign 50 [va_rf (some a0)] [] σ (xrR (.inl v_1)) σ_2 := by
      rcases c_4 with w9 | w9
      · rw [if_pos (by rw [w9])] at h_3
        exact x_call (M := mX8_readAssign) (M' := mX3_readPart) (pc := 50) (st := [va_rf (some a0)]) (rest := []) (av := [va_rf (some a0)]) (x_linkU (M := mX8_readAssign) (M' := mX3_readPart) (As := []) (index := 71) (C := RX3) (T := TX3) (owner := "NetlistForms$Reader") (x := ⟨"NetlistForms$Reader", "readPart", "()LNetlistForms$Part;"⟩) (xE_4 w9) rfl wd_416 wd_417 (Or.inl wd_415) wd_418 wd_419 xw_X3_readPart rfl (by decide) rfl rfl dX8_readAssign_50) (ev_X3_readPart hO hP h_3) xw_X3_readPart rfl wd_124 dX8_readAssign_50 (by decide) (by decide) (by simp [x_cat, x_catI, x_catJ])
      · rw [if_neg (by rw [w9]; decide)] at h_3
        exact x_call (M := mX8_readAssign) (M' := mX9_readPart) (pc := 50) (st := [va_rf (some a0)]) (rest := []) (av := [va_rf (some a0)]) (x_linkU (M := mX8_readAssign) (M' := mX9_readPart) (As := []) (index := 71) (C := RX9) (T := TX9) (owner := "NetlistForms$Reader") (x := ⟨"NetlistForms$Reader", "readPart", "()LNetlistForms$Part;"⟩) (xE_9 w9) rfl wd_416 wd_417 (Or.inl wd_415) wd_421 wd_422 xw_X9_readPart rfl (by decide) rfl rfl dX8_readAssign_50) (ev_X9_readPart hO hP h_3) xw_X9_readPart rfl wd_131 dX8_readAssign_50 (by decide) (by decide) (by simp [x_cat, x_catI, x_catJ])
    refine x_callR z9 ?_
    refine ev_at (st' := [va_rf v_1]) rfl rfl ?_
    refine ev_astore_n (i := 3) (lv' := [(3, va_rf v_1), (0, va_rf (some a0)), (2, va_rf v2)]) dX8_readAssign_53 rfl (by decide) (by simp [x_cat, x_catI, x_catJ]) ?_
    refine ev_aload_n (j := 1) (x := (some a0)) dX8_readAssign_54 rfl rfl ?_
    obtain ⟨c_5, h⟩ := x_chk_e h
    refine x_via (A := Ev l G mX8_readAssign 58 [(3, va_rf v_1), (0, va_rf (some a0)), (2, va_rf v2)] [va_rf (σ_2.R 300 a0)] σ_2 (xrV rr) σ') (fun z9 => ?_) ?_
    · rcases c_5 with w9 | w9
      · exact ev_get (C := RX3) (T := TX3) (k := 0) inX3 (xE_4 w9) rfl (by decide) wd_100 (Or.inl rfl) rfl dX8_readAssign_55 z9
      · exact ev_get (C := RX9) (T := TX9) (k := 0) inX9 (xE_9 w9) rfl (by decide) wd_100 (Or.inl rfl) rfl dX8_readAssign_55 z9
    refine ev_bipush (v := 59) dX8_readAssign_58 (by decide) ?_
    obtain ⟨a_6, ea_6, h⟩ := x_some_e h
    refine ev_at (st' := [.int 59, va_rf (some a_6)]) rfl (by rw [ea_6]) ?_
    obtain ⟨c_10, h⟩ := x_chk_e h
    rcases x_bind_e h with ⟨v_7, σ_8, h_9, h⟩ | ⟨E_18, σ_8, h_9, h⟩
    · have z9 := x_call (M := mX8_readAssign) (M' := mX10_takeSign) (pc := 60) (st := [.int 59, va_rf (some a_6)]) (rest := []) (av := [va_rf (some a_6), .int 59]) (x_linkV (M := mX8_readAssign) (M' := mX10_takeSign) (As := [.int 59]) (index := 75) (C := RX10) (T := TX10) (xE_10 c_10) rfl wd_413 wd_321 wd_319 xw_X10_takeSign rfl (by decide) rfl rfl dX8_readAssign_60) (ev_X10_takeSign hO hP h_9) xw_X10_takeSign rfl wd_118 dX8_readAssign_60 (by decide) (by decide) (by simp [x_cat, x_catI, x_catJ])
      refine x_callR z9 ?_
      refine ev_at (st' := []) rfl rfl ?_
      refine ev_aload_n (j := 1) (x := (some a0)) dX8_readAssign_63 rfl rfl ?_
      obtain ⟨c_11, h⟩ := x_chk_e h
      refine x_via (A := Ev l G mX8_readAssign 67 [(3, va_rf v_1), (0, va_rf (some a0)), (2, va_rf v2)] [va_rf (σ_8.R 302 a0)] σ_8 (xrV rr) σ') (fun z9 => ?_) ?_
      · rcases c_11 with w9 | w9
        · exact ev_get (C := RX3) (T := TX3) (k := 2) inX3 (xE_4 w9) rfl (by decide) wd_99 (Or.inl rfl) rfl dX8_readAssign_64 z9
        · exact ev_get (C := RX9) (T := TX9) (k := 2) inX9 (xE_9 w9) rfl (by decide) wd_99 (Or.inl rfl) rfl dX8_readAssign_64 z9
      refine ev_aload_n (j := 2) (x := v2) dX8_readAssign_67 rfl rfl ?_
      refine ev_aload_n (j := 0) (x := v_1) dX8_readAssign_68 rfl rfl ?_
      obtain ⟨a_12, ea_12, h⟩ := x_some_e h
      refine ev_at (st' := [va_rf v_1, va_rf v2, va_rf (some a_12)]) rfl (by rw [ea_12]) ?_
      obtain ⟨c_16, h⟩ := x_chk_e h
      rcases x_bind_e h with ⟨v_13, σ_14, h_15, h⟩ | ⟨E_17, σ_14, h_15, h⟩
      · have z9 := x_call (M := mX8_readAssign) (M' := mX5_addAssign) (pc := 69) (st := [va_rf v_1, va_rf v2, va_rf (some a_12)]) (rest := []) (av := [va_rf (some a_12), va_rf v2, va_rf v_1]) (x_linkV (M := mX8_readAssign) (M' := mX5_addAssign) (As := [va_rf v2, va_rf v_1]) (index := 79) (C := RX5) (T := TX5) (xE_6 c_16) rfl wd_425 wd_426 wd_424 xw_X5_addAssign rfl (by decide) rfl rfl dX8_readAssign_69) (ev_X5_addAssign hO hP h_15) xw_X5_addAssign rfl wd_274 dX8_readAssign_69 (by decide) (by decide) (by simp [x_cat, x_catI, x_catJ])
        refine x_callR z9 ?_
        refine ev_at (st' := []) rfl rfl ?_
        cases h
        exact ev_vret rfl dX8_readAssign_72
      · have z9 := x_call (M := mX8_readAssign) (M' := mX5_addAssign) (pc := 69) (st := [va_rf v_1, va_rf v2, va_rf (some a_12)]) (rest := []) (av := [va_rf (some a_12), va_rf v2, va_rf v_1]) (x_linkV (M := mX8_readAssign) (M' := mX5_addAssign) (As := [va_rf v2, va_rf v_1]) (index := 79) (C := RX5) (T := TX5) (xE_6 c_16) rfl wd_425 wd_426 wd_424 xw_X5_addAssign rfl (by decide) rfl rfl dX8_readAssign_69) (ev_X5_addAssign hO hP h_15) xw_X5_addAssign rfl wd_274 dX8_readAssign_69 (by decide) (by decide) (by simp [x_cat, x_catI, x_catJ])
        cases h
        exact x_callX z9 (evX_out rfl)
    · have z9 := x_call (M := mX8_readAssign) (M' := mX10_takeSign) (pc := 60) (st := [.int 59, va_rf (some a_6)]) (rest := []) (av := [va_rf (some a_6), .int 59]) (x_linkV (M := mX8_readAssign) (M' := mX10_takeSign) (As := [.int 59]) (index := 75) (C := RX10) (T := TX10) (xE_10 c_10) rfl wd_413 wd_321 wd_319 xw_X10_takeSign rfl (by decide) rfl rfl dX8_readAssign_60) (ev_X10_takeSign hO hP h_9) xw_X10_takeSign rfl wd_118 dX8_readAssign_60 (by decide) (by decide) (by simp [x_cat, x_catI, x_catJ])
      cases h
      exact x_callX z9 (evX_out rfl)
  · have z9 : xCall l G mX8_readAssign 50 [va_rf (some a0)] [] σ (xrR (.inr E_19)) σ_2 := by
      rcases c_4 with w9 | w9
      · rw [if_pos (by rw [w9])] at h_3
        exact x_call (M := mX8_readAssign) (M' := mX3_readPart) (pc := 50) (st := [va_rf (some a0)]) (rest := []) (av := [va_rf (some a0)]) (x_linkU (M := mX8_readAssign) (M' := mX3_readPart) (As := []) (index := 71) (C := RX3) (T := TX3) (owner := "NetlistForms$Reader") (x := ⟨"NetlistForms$Reader", "readPart", "()LNetlistForms$Part;"⟩) (xE_4 w9) rfl wd_416 wd_417 (Or.inl wd_415) wd_418 wd_419 xw_X3_readPart rfl (by decide) rfl rfl dX8_readAssign_50) (ev_X3_readPart hO hP h_3) xw_X3_readPart rfl wd_124 dX8_readAssign_50 (by decide) (by decide) (by simp [x_cat, x_catI, x_catJ])
      · rw [if_neg (by rw [w9]; decide)] at h_3
        exact x_call (M := mX8_readAssign) (M' := mX9_readPart) (pc := 50) (st := [va_rf (some a0)]) (rest := []) (av := [va_rf (some a0)]) (x_linkU (M := mX8_readAssign) (M' := mX9_readPart) (As := []) (index := 71) (C := RX9) (T := TX9) (owner := "NetlistForms$Reader") (x := ⟨"NetlistForms$Reader", "readPart", "()LNetlistForms$Part;"⟩) (xE_9 w9) rfl wd_416 wd_417 (Or.inl wd_415) wd_421 wd_422 xw_X9_readPart rfl (by decide) rfl rfl dX8_readAssign_50) (ev_X9_readPart hO hP h_3) xw_X9_readPart rfl wd_131 dX8_readAssign_50 (by decide) (by decide) (by simp [x_cat, x_catI, x_catJ])
    cases h
    exact x_callX z9 (evX_out rfl)
set_option maxHeartbeats 4000000 in
set_option maxRecDepth 100000 in
theorem ev_X8_readAssign_p21 {l : Launch} {G : xG} (hO : x_OK l G) {P : xP} (hP : x_PG P G) {a0 : Nat} {v1 : Int32} {s0 : Option Nat} {s1 : Int32} {σ σ' : xS} {rr : Unit ⊕ String} (h : dm_X8_readAssign_p21 P a0 v1 s0 s1 σ = some (rr, σ')) : Ev l G mX8_readAssign 21 [(0, va_rf (some a0)), (1, .int v1)] [.int s1, va_rf s0] σ (xrV rr) σ' := by
  unfold dm_X8_readAssign_p21 at h
  obtain ⟨a_1, ea_1, h⟩ := x_some_e h
  refine ev_at (st' := [.int s1, va_rf (some a_1)]) rfl (by rw [ea_1]) ?_
  obtain ⟨c_5, h⟩ := x_chk_e h
  rcases x_bind_e h with ⟨v_2, σ_3, h_4, h⟩ | ⟨E_26, σ_3, h_4, h⟩
  · have z9 := x_call (M := mX8_readAssign) (M' := mX10_refuseIf) (pc := 21) (st := [.int s1, va_rf (some a_1)]) (rest := []) (av := [va_rf (some a_1), .int s1]) (x_linkV (M := mX8_readAssign) (M' := mX10_refuseIf) (As := [.int s1]) (index := 51) (C := RX10) (T := TX10) (xE_10 c_5) rfl wd_286 wd_243 wd_241 xw_X10_refuseIf rfl (by decide) rfl rfl dX8_readAssign_21) (ev_X10_refuseIf hO hP h_4) xw_X10_refuseIf rfl wd_118 dX8_readAssign_21 (by decide) (by decide) (by simp [x_cat, x_catI, x_catJ])
    refine x_callR z9 ?_
    refine ev_at (st' := []) rfl rfl ?_
    refine ev_aload_n (j := 0) (x := (some a0)) dX8_readAssign_24 rfl rfl ?_
    obtain ⟨c_6, h⟩ := x_chk_e h
    refine x_via (A := Ev l G mX8_readAssign 28 [(0, va_rf (some a0)), (1, .int v1)] [va_rf (σ_3.R 300 a0)] σ_3 (xrV rr) σ') (fun z9 => ?_) ?_
    · rcases c_6 with w9 | w9
      · exact ev_get (C := RX3) (T := TX3) (k := 0) inX3 (xE_4 w9) rfl (by decide) wd_100 (Or.inl rfl) rfl dX8_readAssign_25 z9
      · exact ev_get (C := RX9) (T := TX9) (k := 0) inX9 (xE_9 w9) rfl (by decide) wd_100 (Or.inl rfl) rfl dX8_readAssign_25 z9
    obtain ⟨a_7, ea_7, h⟩ := x_some_e h
    refine ev_at (st' := [va_rf (some a_7)]) rfl (by rw [ea_7]) ?_
    obtain ⟨c_11, h⟩ := x_chk_e h
    rcases x_bind_e h with ⟨v_8, σ_9, h_10, h⟩ | ⟨E_25, σ_9, h_10, h⟩
    · have z9 := x_call (M := mX8_readAssign) (M' := mX10_step) (pc := 28) (st := [va_rf (some a_7)]) (rest := []) (av := [va_rf (some a_7)]) (x_linkV (M := mX8_readAssign) (M' := mX10_step) (As := []) (index := 59) (C := RX10) (T := TX10) (xE_10 c_11) rfl wd_295 wd_247 wd_245 xw_X10_step rfl (by decide) rfl rfl dX8_readAssign_28) (ev_X10_step hO hP h_10) xw_X10_step rfl wd_118 dX8_readAssign_28 (by decide) (by decide) (by simp [x_cat, x_catI, x_catJ])
      refine x_callR z9 ?_
      refine ev_at (st' := []) rfl rfl ?_
      refine ev_aload_n (j := 0) (x := (some a0)) dX8_readAssign_31 rfl rfl ?_
      obtain ⟨c_15, h⟩ := x_chk_e h
      rcases x_bind_e h with ⟨v_12, σ_13, h_14, h⟩ | ⟨E_24, σ_13, h_14, h⟩
      · have z9 : xCall l G mX8_readAssign 32 [va_rf (some a0)] [] σ_9 (xrR (.inl v_12)) σ_13 := by
          rcases c_15 with w9 | w9
          · rw [if_pos (by rw [w9])] at h_14
            exact x_call (M := mX8_readAssign) (M' := mX3_readPart) (pc := 32) (st := [va_rf (some a0)]) (rest := []) (av := [va_rf (some a0)]) (x_linkU (M := mX8_readAssign) (M' := mX3_readPart) (As := []) (index := 71) (C := RX3) (T := TX3) (owner := "NetlistForms$Reader") (x := ⟨"NetlistForms$Reader", "readPart", "()LNetlistForms$Part;"⟩) (xE_4 w9) rfl wd_416 wd_417 (Or.inl wd_415) wd_418 wd_419 xw_X3_readPart rfl (by decide) rfl rfl dX8_readAssign_32) (ev_X3_readPart hO hP h_14) xw_X3_readPart rfl wd_124 dX8_readAssign_32 (by decide) (by decide) (by simp [x_cat, x_catI, x_catJ])
          · rw [if_neg (by rw [w9]; decide)] at h_14
            exact x_call (M := mX8_readAssign) (M' := mX9_readPart) (pc := 32) (st := [va_rf (some a0)]) (rest := []) (av := [va_rf (some a0)]) (x_linkU (M := mX8_readAssign) (M' := mX9_readPart) (As := []) (index := 71) (C := RX9) (T := TX9) (owner := "NetlistForms$Reader") (x := ⟨"NetlistForms$Reader", "readPart", "()LNetlistForms$Part;"⟩) (xE_9 w9) rfl wd_416 wd_417 (Or.inl wd_415) wd_421 wd_422 xw_X9_readPart rfl (by decide) rfl rfl dX8_readAssign_32) (ev_X9_readPart hO hP h_14) xw_X9_readPart rfl wd_131 dX8_readAssign_32 (by decide) (by decide) (by simp [x_cat, x_catI, x_catJ])
        refine x_callR z9 ?_
        refine ev_at (st' := [va_rf v_12]) rfl rfl ?_
        refine ev_astore_n (i := 2) (lv' := [(2, va_rf v_12), (0, va_rf (some a0)), (1, .int v1)]) dX8_readAssign_35 rfl (by decide) rfl ?_
        refine ev_iload_n (j := 2) (x := v1) dX8_readAssign_36 rfl rfl ?_
        by_cases c_16 : v1 = 0
        · rw [if_pos c_16] at h
          refine ev_if_eq (x := v1) (tgt := 49) dX8_readAssign_37 (by decide) (fun _ => ?_) (fun q9 => absurd c_16 q9)
          exact ev_sub [1, 0] rfl (ev_X8_readAssign_p49 hO hP h)
        · rw [if_neg c_16] at h
          refine ev_if_eq (x := v1) (tgt := 49) dX8_readAssign_37 (by decide) (fun q9 => absurd q9 c_16) (fun _ => ?_)
          refine ev_aload_n (j := 1) (x := (some a0)) dX8_readAssign_40 rfl rfl ?_
          obtain ⟨c_17, h⟩ := x_chk_e h
          refine x_via (A := Ev l G mX8_readAssign 44 [(2, va_rf v_12), (0, va_rf (some a0)), (1, .int v1)] [va_rf (σ_13.R 300 a0)] σ_13 (xrV rr) σ') (fun z9 => ?_) ?_
          · rcases c_17 with w9 | w9
            · exact ev_get (C := RX3) (T := TX3) (k := 0) inX3 (xE_4 w9) rfl (by decide) wd_100 (Or.inl rfl) rfl dX8_readAssign_41 z9
            · exact ev_get (C := RX9) (T := TX9) (k := 0) inX9 (xE_9 w9) rfl (by decide) wd_100 (Or.inl rfl) rfl dX8_readAssign_41 z9
          refine ev_bipush (v := 61) dX8_readAssign_44 (by decide) ?_
          obtain ⟨a_18, ea_18, h⟩ := x_some_e h
          refine ev_at (st' := [.int 61, va_rf (some a_18)]) rfl (by rw [ea_18]) ?_
          obtain ⟨c_22, h⟩ := x_chk_e h
          rcases x_bind_e h with ⟨v_19, σ_20, h_21, h⟩ | ⟨E_23, σ_20, h_21, h⟩
          · have z9 := x_call (M := mX8_readAssign) (M' := mX10_takeSign) (pc := 46) (st := [.int 61, va_rf (some a_18)]) (rest := []) (av := [va_rf (some a_18), .int 61]) (x_linkV (M := mX8_readAssign) (M' := mX10_takeSign) (As := [.int 61]) (index := 75) (C := RX10) (T := TX10) (xE_10 c_22) rfl wd_413 wd_321 wd_319 xw_X10_takeSign rfl (by decide) rfl rfl dX8_readAssign_46) (ev_X10_takeSign hO hP h_21) xw_X10_takeSign rfl wd_118 dX8_readAssign_46 (by decide) (by decide) (by simp [x_cat, x_catI, x_catJ])
            refine x_callR z9 ?_
            refine ev_at (st' := []) rfl rfl ?_
            exact ev_sub [1, 0] rfl (ev_X8_readAssign_p49 hO hP h)
          · have z9 := x_call (M := mX8_readAssign) (M' := mX10_takeSign) (pc := 46) (st := [.int 61, va_rf (some a_18)]) (rest := []) (av := [va_rf (some a_18), .int 61]) (x_linkV (M := mX8_readAssign) (M' := mX10_takeSign) (As := [.int 61]) (index := 75) (C := RX10) (T := TX10) (xE_10 c_22) rfl wd_413 wd_321 wd_319 xw_X10_takeSign rfl (by decide) rfl rfl dX8_readAssign_46) (ev_X10_takeSign hO hP h_21) xw_X10_takeSign rfl wd_118 dX8_readAssign_46 (by decide) (by decide) (by simp [x_cat, x_catI, x_catJ])
            cases h
            exact x_callX z9 (evX_out rfl)
      · have z9 : xCall l G mX8_readAssign 32 [va_rf (some a0)] [] σ_9 (xrR (.inr E_24)) σ_13 := by
          rcases c_15 with w9 | w9
          · rw [if_pos (by rw [w9])] at h_14
            exact x_call (M := mX8_readAssign) (M' := mX3_readPart) (pc := 32) (st := [va_rf (some a0)]) (rest := []) (av := [va_rf (some a0)]) (x_linkU (M := mX8_readAssign) (M' := mX3_readPart) (As := []) (index := 71) (C := RX3) (T := TX3) (owner := "NetlistForms$Reader") (x := ⟨"NetlistForms$Reader", "readPart", "()LNetlistForms$Part;"⟩) (xE_4 w9) rfl wd_416 wd_417 (Or.inl wd_415) wd_418 wd_419 xw_X3_readPart rfl (by decide) rfl rfl dX8_readAssign_32) (ev_X3_readPart hO hP h_14) xw_X3_readPart rfl wd_124 dX8_readAssign_32 (by decide) (by decide) (by simp [x_cat, x_catI, x_catJ])
          · rw [if_neg (by rw [w9]; decide)] at h_14
            exact x_call (M := mX8_readAssign) (M' := mX9_readPart) (pc := 32) (st := [va_rf (some a0)]) (rest := []) (av := [va_rf (some a0)]) (x_linkU (M := mX8_readAssign) (M' := mX9_readPart) (As := []) (index := 71) (C := RX9) (T := TX9) (owner := "NetlistForms$Reader") (x := ⟨"NetlistForms$Reader", "readPart", "()LNetlistForms$Part;"⟩) (xE_9 w9) rfl wd_416 wd_417 (Or.inl wd_415) wd_421 wd_422 xw_X9_readPart rfl (by decide) rfl rfl dX8_readAssign_32) (ev_X9_readPart hO hP h_14) xw_X9_readPart rfl wd_131 dX8_readAssign_32 (by decide) (by decide) (by simp [x_cat, x_catI, x_catJ])
        cases h
        exact x_callX z9 (evX_out rfl)
    · have z9 := x_call (M := mX8_readAssign) (M' := mX10_step) (pc := 28) (st := [va_rf (some a_7)]) (rest := []) (av := [va_rf (some a_7)]) (x_linkV (M := mX8_readAssign) (M' := mX10_step) (As := []) (index := 59) (C := RX10) (T := TX10) (xE_10 c_11) rfl wd_295 wd_247 wd_245 xw_X10_step rfl (by decide) rfl rfl dX8_readAssign_28) (ev_X10_step hO hP h_10) xw_X10_step rfl wd_118 dX8_readAssign_28 (by decide) (by decide) (by simp [x_cat, x_catI, x_catJ])
      cases h
      exact x_callX z9 (evX_out rfl)
  · have z9 := x_call (M := mX8_readAssign) (M' := mX10_refuseIf) (pc := 21) (st := [.int s1, va_rf (some a_1)]) (rest := []) (av := [va_rf (some a_1), .int s1]) (x_linkV (M := mX8_readAssign) (M' := mX10_refuseIf) (As := [.int s1]) (index := 51) (C := RX10) (T := TX10) (xE_10 c_5) rfl wd_286 wd_243 wd_241 xw_X10_refuseIf rfl (by decide) rfl rfl dX8_readAssign_21) (ev_X10_refuseIf hO hP h_4) xw_X10_refuseIf rfl wd_118 dX8_readAssign_21 (by decide) (by decide) (by simp [x_cat, x_catI, x_catJ])
    cases h
    exact x_callX z9 (evX_out rfl)
set_option maxHeartbeats 4000000 in
set_option maxRecDepth 100000 in
theorem ev_X8_readAssign {l : Launch} {G : xG} (hO : x_OK l G) {P : xP} (hP : x_PG P G) {a0 : Nat} {v1 : Int32} {σ σ' : xS} {rr : Unit ⊕ String} (h : dm_X8_readAssign P a0 v1 σ = some (rr, σ')) : EvM l G mX8_readAssign [va_rf (some a0), .int v1] σ (xrV rr) σ' := by
  unfold dm_X8_readAssign at h
  refine evM_of hO (by decide +kernel) (x_lenI (by simp [x_cat, x_catI, x_catJ, mX8_readAssign, xM.maxL])) ?_
  refine Eq.mp (congrArg (fun z => Ev l G mX8_readAssign 0 z [] σ (xrV rr) σ') (show [(0, va_rf (some a0)), (1, .int v1)] = lv_args 0 [va_rf (some a0), .int v1] by simp [lv_args, x_cat, x_catI, x_catJ])) ?_
  refine ev_aload_n (j := 0) (x := (some a0)) dX8_readAssign_0 rfl rfl ?_
  obtain ⟨c_1, h⟩ := x_chk_e h
  refine x_via (A := Ev l G mX8_readAssign 4 [(0, va_rf (some a0)), (1, .int v1)] [va_rf (σ.R 300 a0)] σ (xrV rr) σ') (fun z9 => ?_) ?_
  · rcases c_1 with w9 | w9
    · exact ev_get (C := RX3) (T := TX3) (k := 0) inX3 (xE_4 w9) rfl (by decide) wd_100 (Or.inl rfl) rfl dX8_readAssign_1 z9
    · exact ev_get (C := RX9) (T := TX9) (k := 0) inX9 (xE_9 w9) rfl (by decide) wd_100 (Or.inl rfl) rfl dX8_readAssign_1 z9
  refine ev_aload_n (j := 0) (x := (some a0)) dX8_readAssign_4 rfl rfl ?_
  refine x_via (A := Ev l G mX8_readAssign 8 [(0, va_rf (some a0)), (1, .int v1)] [va_rf (σ.R 302 a0), va_rf (σ.R 300 a0)] σ (xrV rr) σ') (fun z9 => ?_) ?_
  · rcases c_1 with w9 | w9
    · exact ev_get (C := RX3) (T := TX3) (k := 2) inX3 (xE_4 w9) rfl (by decide) wd_99 (Or.inl rfl) rfl dX8_readAssign_5 z9
    · exact ev_get (C := RX9) (T := TX9) (k := 2) inX9 (xE_9 w9) rfl (by decide) wd_99 (Or.inl rfl) rfl dX8_readAssign_5 z9
  obtain ⟨a_2, ea_2, h⟩ := x_some_e h
  refine ev_at (st' := [va_rf (some a_2), va_rf (σ.R 300 a0)]) rfl (by rw [ea_2]) ?_
  obtain ⟨c_3, h⟩ := x_chk_e h
  refine ev_get (C := RX5) (T := TX5) (k := 9) inX5 (xE_6 c_3) rfl (by decide) wd_412 (Or.inl rfl) rfl dX8_readAssign_8 ?_
  refine ev_bipush (v := 8) dX8_readAssign_11 (by decide) ?_
  by_cases c_4 : (σ.I 509 a_2) < 8
  · rw [if_pos c_4] at h
    refine ev_icmp_lt (x := (σ.I 509 a_2)) (y := 8) (tgt := 20) dX8_readAssign_13 (by decide) (fun _ => ?_) (fun q9 => absurd c_4 q9)
    refine ev_iconst (v := 0) dX8_readAssign_20 (by decide) ?_
    exact ev_sub [0, 1] rfl (ev_X8_readAssign_p21 hO hP h)
  · rw [if_neg c_4] at h
    refine ev_icmp_lt (x := (σ.I 509 a_2)) (y := 8) (tgt := 20) dX8_readAssign_13 (by decide) (fun q9 => absurd q9 c_4) (fun _ => ?_)
    refine ev_iconst (v := 1) dX8_readAssign_16 (by decide) ?_
    refine ev_goto (tgt := 21) dX8_readAssign_17 (by decide) ?_
    exact ev_sub [0, 1] rfl (ev_X8_readAssign_p21 hO hP h)
set_option maxHeartbeats 4000000 in
set_option maxRecDepth 100000 in
theorem ev_X5_hasUntoldPort_L2 {l : Launch} {G : xG} (hO : x_OK l G) {P : xP} (hP : x_PG P G) {a0 : Nat} : ∀ (n : Nat) {v1 : Int32} {σ σ' : xS} {rr : Int32 ⊕ String}, dm_X5_hasUntoldPort_L2 P a0 n v1 σ = some (rr, σ') → Ev l G mX5_hasUntoldPort 2 [(0, va_rf (some a0)), (1, .int v1)] [] σ (xrI rr) σ' := by
  intro n
  induction n with
  | zero => intro v1 σ σ' rr h; cases h
  | succ n ih =>
    intro v1 σ σ' rr h
    rw [dm_X5_hasUntoldPort_L2] at h
    refine ev_iload_n (j := 1) (x := v1) dX5_hasUntoldPort_2 rfl rfl ?_
    refine ev_aload_n (j := 0) (x := (some a0)) dX5_hasUntoldPort_3 rfl rfl ?_
    obtain ⟨c_1, h⟩ := x_chk_e h
    refine ev_get (C := RX5) (T := TX5) (k := 5) inX5 (xE_6 c_1) rfl (by decide) wd_258 (Or.inl rfl) rfl dX5_hasUntoldPort_4 ?_
    by_cases c_2 : (σ.I 505 a0) ≤ v1
    · rw [if_pos c_2] at h
      refine ev_icmp_ge (x := v1) (y := (σ.I 505 a0)) (tgt := 31) dX5_hasUntoldPort_7 (by decide) (fun _ => ?_) (fun q9 => absurd c_2 q9)
      refine ev_iconst (v := 0) dX5_hasUntoldPort_31 (by decide) ?_
      cases h
      exact ev_iret rfl rfl dX5_hasUntoldPort_32
    · rw [if_neg c_2] at h
      refine ev_icmp_ge (x := v1) (y := (σ.I 505 a0)) (tgt := 31) dX5_hasUntoldPort_7 (by decide) (fun q9 => absurd q9 c_2) (fun _ => ?_)
      refine ev_aload_n (j := 0) (x := (some a0)) dX5_hasUntoldPort_10 rfl rfl ?_
      refine ev_get (C := RX5) (T := TX5) (k := 3) inX5 (xE_6 c_1) rfl (by decide) wd_256 (Or.inl rfl) rfl dX5_hasUntoldPort_11 ?_
      refine ev_iload_n (j := 1) (x := v1) dX5_hasUntoldPort_14 rfl rfl ?_
      obtain ⟨a_3, ea_3, h⟩ := x_some_e h
      refine ev_at (st' := [.int v1, va_rf (some a_3)]) rfl (by rw [ea_3]) ?_
      obtain ⟨c_4, h⟩ := x_chk_e h
      refine ev_aald_26 c_4.1 c_4.2 dX5_hasUntoldPort_15 ?_
      obtain ⟨a_5, ea_5, h⟩ := x_some_e h
      refine ev_at (st' := [va_rf (some a_5)]) rfl (by rw [ea_5]) ?_
      obtain ⟨c_6, h⟩ := x_chk_e h
      refine ev_get (C := RX4) (T := TX4) (k := 1) inX4 (xE_5 c_6) rfl (by decide) wd_306 (Or.inl rfl) rfl dX5_hasUntoldPort_16 ?_
      refine ev_iconst (v := -1) dX5_hasUntoldPort_19 (by decide) ?_
      by_cases c_7 : (σ.I 401 a_5) = (-1)
      · rw [if_pos c_7] at h
        refine ev_icmp_ne (x := (σ.I 401 a_5)) (y := (-1)) (tgt := 25) dX5_hasUntoldPort_20 (by decide) (fun q9 => absurd c_7 q9) (fun _ => ?_)
        refine ev_iconst (v := 1) dX5_hasUntoldPort_23 (by decide) ?_
        cases h
        exact ev_iret rfl rfl dX5_hasUntoldPort_24
      · rw [if_neg c_7] at h
        refine ev_icmp_ne (x := (σ.I 401 a_5)) (y := (-1)) (tgt := 25) dX5_hasUntoldPort_20 (by decide) (fun _ => ?_) (fun q9 => absurd q9 c_7)
        obtain ⟨v_8, ev_8, h⟩ := x_let_e h
        refine ev_iinc (j := 1) (x := v1) (v := v_8) (lv' := [(1, .int v_8), (0, va_rf (some a0))]) dX5_hasUntoldPort_25 rfl (by rw [ev_8]; rfl) (by decide) (by simp [x_cat, x_catI, x_catJ]) ?_
        refine ev_goto (tgt := 2) dX5_hasUntoldPort_28 (by decide) ?_
        exact ev_sub [1, 0] rfl (ih h)
set_option maxHeartbeats 4000000 in
set_option maxRecDepth 100000 in
theorem ev_X5_hasUntoldPort {l : Launch} {G : xG} (hO : x_OK l G) {P : xP} (hP : x_PG P G) {a0 : Nat} {σ σ' : xS} {rr : Int32 ⊕ String} (h : dm_X5_hasUntoldPort P a0 σ = some (rr, σ')) : EvM l G mX5_hasUntoldPort [va_rf (some a0)] σ (xrI rr) σ' := by
  unfold dm_X5_hasUntoldPort at h
  refine evM_of hO (by decide +kernel) (x_lenI (by simp [x_cat, x_catI, x_catJ, mX5_hasUntoldPort, xM.maxL])) ?_
  refine Eq.mp (congrArg (fun z => Ev l G mX5_hasUntoldPort 0 z [] σ (xrI rr) σ') (show [(0, va_rf (some a0))] = lv_args 0 [va_rf (some a0)] by simp [lv_args, x_cat, x_catI, x_catJ])) ?_
  refine ev_iconst (v := 0) dX5_hasUntoldPort_0 (by decide) ?_
  refine ev_istore_n (i := 1) (lv' := [(1, .int 0), (0, va_rf (some a0))]) dX5_hasUntoldPort_1 rfl (by decide) (by simp [x_cat, x_catI, x_catJ]) ?_
  exact ev_sub [1, 0] rfl (ev_X5_hasUntoldPort_L2 hO hP P.N h)
set_option maxHeartbeats 4000000 in
set_option maxRecDepth 100000 in
theorem ev_X5_numberBits_L7 {l : Launch} {G : xG} (hO : x_OK l G) {P : xP} (hP : x_PG P G) {a0 : Nat} : ∀ (n : Nat) {v1 : Int32} {σ σ' : xS} {rr : Unit ⊕ String}, dm_X5_numberBits_L7 P a0 n v1 σ = some (rr, σ') → Ev l G mX5_numberBits 7 [(0, va_rf (some a0)), (1, .int v1)] [] σ (xrV rr) σ' := by
  intro n
  induction n with
  | zero => intro v1 σ σ' rr h; cases h
  | succ n ih =>
    intro v1 σ σ' rr h
    rw [dm_X5_numberBits_L7] at h
    refine ev_iload_n (j := 1) (x := v1) dX5_numberBits_7 rfl rfl ?_
    refine ev_aload_n (j := 0) (x := (some a0)) dX5_numberBits_8 rfl rfl ?_
    obtain ⟨c_1, h⟩ := x_chk_e h
    refine ev_get (C := RX5) (T := TX5) (k := 4) inX5 (xE_6 c_1) rfl (by decide) wd_257 (Or.inl rfl) rfl dX5_numberBits_9 ?_
    by_cases c_2 : (σ.I 504 a0) ≤ v1
    · rw [if_pos c_2] at h
      refine ev_icmp_ge (x := v1) (y := (σ.I 504 a0)) (tgt := 52) dX5_numberBits_12 (by decide) (fun _ => ?_) (fun q9 => absurd c_2 q9)
      cases h
      exact ev_vret rfl dX5_numberBits_52
    · rw [if_neg c_2] at h
      refine ev_icmp_ge (x := v1) (y := (σ.I 504 a0)) (tgt := 52) dX5_numberBits_12 (by decide) (fun q9 => absurd q9 c_2) (fun _ => ?_)
      refine ev_aload_n (j := 0) (x := (some a0)) dX5_numberBits_15 rfl rfl ?_
      refine ev_get (C := RX5) (T := TX5) (k := 3) inX5 (xE_6 c_1) rfl (by decide) wd_256 (Or.inl rfl) rfl dX5_numberBits_16 ?_
      refine ev_iload_n (j := 1) (x := v1) dX5_numberBits_19 rfl rfl ?_
      obtain ⟨a_3, ea_3, h⟩ := x_some_e h
      refine ev_at (st' := [.int v1, va_rf (some a_3)]) rfl (by rw [ea_3]) ?_
      obtain ⟨c_4, h⟩ := x_chk_e h
      refine ev_aald_26 c_4.1 c_4.2 dX5_numberBits_20 ?_
      refine ev_aload_n (j := 0) (x := (some a0)) dX5_numberBits_21 rfl rfl ?_
      refine ev_get (C := RX5) (T := TX5) (k := 6) inX5 (xE_6 c_1) rfl (by decide) wd_259 (Or.inl rfl) rfl dX5_numberBits_22 ?_
      obtain ⟨a_5, ea_5, h⟩ := x_some_e h
      refine ev_at (st' := [.int (σ.I 506 a0), va_rf (some a_5)]) rfl (by rw [ea_5]) ?_
      obtain ⟨c_6, h⟩ := x_chk_e h
      obtain ⟨σ_7, eσ_7, h⟩ := x_let_e h
      refine ev_put (σ2 := σ_7) (C := RX4) (T := TX4) (k := 3) inX4 tyX4 tyX4_ok nmX4 (xE_5 c_6.1) rfl (by decide) wd_427 (Or.inl rfl) rfl rfl rfl rfl (Nat.le_of_ble_eq_true rfl) (hP.2.2.2.1 ▸ c_6.2) (by rw [eσ_7]; exact xP_5_3 _ c_6.1) (by rw [eσ_7]; exact xPut_I) dX5_numberBits_25 ?_
      refine ev_aload_n (j := 0) (x := (some a0)) dX5_numberBits_28 rfl rfl ?_
      refine ev_dup dX5_numberBits_29 (x_cat _) ?_
      obtain ⟨c_8, h⟩ := x_chk_e h
      refine ev_get (C := RX5) (T := TX5) (k := 6) inX5 (xE_6 c_8) rfl (by decide) wd_259 (Or.inl rfl) rfl dX5_numberBits_30 ?_
      refine ev_aload_n (j := 0) (x := (some a0)) dX5_numberBits_33 rfl rfl ?_
      refine ev_get (C := RX5) (T := TX5) (k := 3) inX5 (xE_6 c_8) rfl (by decide) wd_256 (Or.inl rfl) rfl dX5_numberBits_34 ?_
      refine ev_iload_n (j := 1) (x := v1) dX5_numberBits_37 rfl rfl ?_
      obtain ⟨a_9, ea_9, h⟩ := x_some_e h
      refine ev_at (st' := [.int v1, va_rf (some a_9), .int (σ_7.I 506 a0), va_rf (some a0)]) rfl (by rw [ea_9]) ?_
      obtain ⟨c_10, h⟩ := x_chk_e h
      refine ev_aald_26 c_10.1 c_10.2 dX5_numberBits_38 ?_
      obtain ⟨a_11, ea_11, h⟩ := x_some_e h
      refine ev_at (st' := [va_rf (some a_11), .int (σ_7.I 506 a0), va_rf (some a0)]) rfl (by rw [ea_11]) ?_
      obtain ⟨c_12, h⟩ := x_chk_e h
      refine ev_get (C := RX4) (T := TX4) (k := 2) inX4 (xE_5 c_12) rfl (by decide) wd_428 (Or.inl rfl) rfl dX5_numberBits_39 ?_
      refine ev_iadd (x := (σ_7.I 506 a0)) (y := (σ_7.I 402 a_11)) dX5_numberBits_42 ?_
      obtain ⟨c_13, h⟩ := x_chk_e h
      obtain ⟨σ_14, eσ_14, h⟩ := x_let_e h
      refine ev_put (σ2 := σ_14) (C := RX5) (T := TX5) (k := 6) inX5 tyX5 tyX5_ok nmX5 (xE_6 c_13.1) rfl (by decide) wd_259 (Or.inl rfl) rfl rfl rfl rfl (Nat.le_of_ble_eq_true rfl) (hP.2.2.2.1 ▸ c_13.2) (by rw [eσ_14]; exact xP_6_6 _ c_13.1) (by rw [eσ_14]; exact xPut_I) dX5_numberBits_43 ?_
      obtain ⟨v_15, ev_15, h⟩ := x_let_e h
      refine ev_iinc (j := 1) (x := v1) (v := v_15) (lv' := [(1, .int v_15), (0, va_rf (some a0))]) dX5_numberBits_46 rfl (by rw [ev_15]; rfl) (by decide) (by simp [x_cat, x_catI, x_catJ]) ?_
      refine ev_goto (tgt := 7) dX5_numberBits_49 (by decide) ?_
      exact ev_sub [1, 0] rfl (ih h)
set_option maxHeartbeats 4000000 in
set_option maxRecDepth 100000 in
theorem ev_X5_numberBits {l : Launch} {G : xG} (hO : x_OK l G) {P : xP} (hP : x_PG P G) {a0 : Nat} {σ σ' : xS} {rr : Unit ⊕ String} (h : dm_X5_numberBits P a0 σ = some (rr, σ')) : EvM l G mX5_numberBits [va_rf (some a0)] σ (xrV rr) σ' := by
  unfold dm_X5_numberBits at h
  refine evM_of hO (by decide +kernel) (x_lenI (by simp [x_cat, x_catI, x_catJ, mX5_numberBits, xM.maxL])) ?_
  refine Eq.mp (congrArg (fun z => Ev l G mX5_numberBits 0 z [] σ (xrV rr) σ') (show [(0, va_rf (some a0))] = lv_args 0 [va_rf (some a0)] by simp [lv_args, x_cat, x_catI, x_catJ])) ?_
  refine ev_aload_n (j := 0) (x := (some a0)) dX5_numberBits_0 rfl rfl ?_
  refine ev_iconst (v := 0) dX5_numberBits_1 (by decide) ?_
  obtain ⟨c_1, h⟩ := x_chk_e h
  obtain ⟨σ_2, eσ_2, h⟩ := x_let_e h
  refine ev_put (σ2 := σ_2) (C := RX5) (T := TX5) (k := 6) inX5 tyX5 tyX5_ok nmX5 (xE_6 c_1.1) rfl (by decide) wd_259 (Or.inl rfl) rfl rfl rfl rfl (Nat.le_of_ble_eq_true rfl) (hP.2.2.2.1 ▸ c_1.2) (by rw [eσ_2]; exact xP_6_6 _ c_1.1) (by rw [eσ_2]; exact xPut_I) dX5_numberBits_2 ?_
  refine ev_iconst (v := 0) dX5_numberBits_5 (by decide) ?_
  refine ev_istore_n (i := 1) (lv' := [(1, .int 0), (0, va_rf (some a0))]) dX5_numberBits_6 rfl (by decide) (by simp [x_cat, x_catI, x_catJ]) ?_
  exact ev_sub [1, 0] rfl (ev_X5_numberBits_L7 hO hP P.N h)
set_option maxHeartbeats 4000000 in
set_option maxRecDepth 100000 in
theorem ev_X8_endModule {l : Launch} {G : xG} (hO : x_OK l G) {P : xP} (hP : x_PG P G) {a0 : Nat} {σ σ' : xS} {rr : Unit ⊕ String} (h : dm_X8_endModule P a0 σ = some (rr, σ')) : EvM l G mX8_endModule [va_rf (some a0)] σ (xrV rr) σ' := by
  unfold dm_X8_endModule at h
  refine evM_of hO (by decide +kernel) (x_lenI (by simp [x_cat, x_catI, x_catJ, mX8_endModule, xM.maxL])) ?_
  refine Eq.mp (congrArg (fun z => Ev l G mX8_endModule 0 z [] σ (xrV rr) σ') (show [(0, va_rf (some a0))] = lv_args 0 [va_rf (some a0)] by simp [lv_args, x_cat, x_catI, x_catJ])) ?_
  refine ev_aload_n (j := 0) (x := (some a0)) dX8_endModule_0 rfl rfl ?_
  obtain ⟨c_1, h⟩ := x_chk_e h
  refine x_via (A := Ev l G mX8_endModule 4 [(0, va_rf (some a0))] [va_rf (σ.R 302 a0)] σ (xrV rr) σ') (fun z9 => ?_) ?_
  · rcases c_1 with w9 | w9
    · exact ev_get (C := RX3) (T := TX3) (k := 2) inX3 (xE_4 w9) rfl (by decide) wd_99 (Or.inl rfl) rfl dX8_endModule_1 z9
    · exact ev_get (C := RX9) (T := TX9) (k := 2) inX9 (xE_9 w9) rfl (by decide) wd_99 (Or.inl rfl) rfl dX8_endModule_1 z9
  obtain ⟨a_2, ea_2, h⟩ := x_some_e h
  refine ev_at (st' := [va_rf (some a_2)]) rfl (by rw [ea_2]) ?_
  obtain ⟨c_6, h⟩ := x_chk_e h
  rcases x_bind_e h with ⟨v_3, σ_4, h_5, h⟩ | ⟨E_9, σ_4, h_5, h⟩
  · have z9 := x_call (M := mX8_endModule) (M' := mX5_numberBits) (pc := 4) (st := [va_rf (some a_2)]) (rest := []) (av := [va_rf (some a_2)]) (x_linkV (M := mX8_endModule) (M' := mX5_numberBits) (As := []) (index := 62) (C := RX5) (T := TX5) (xE_6 c_6) rfl wd_431 wd_432 wd_430 xw_X5_numberBits rfl (by decide) rfl rfl dX8_endModule_4) (ev_X5_numberBits hO hP h_5) xw_X5_numberBits rfl wd_274 dX8_endModule_4 (by decide) (by decide) (by simp [x_cat, x_catI, x_catJ])
    refine x_callR z9 ?_
    refine ev_at (st' := []) rfl rfl ?_
    refine ev_aload_n (j := 0) (x := (some a0)) dX8_endModule_7 rfl rfl ?_
    refine ev_null dX8_endModule_8 ?_
    obtain ⟨c_7, h⟩ := x_chk_e h
    obtain ⟨σ_8, eσ_8, h⟩ := x_let_e h
    refine x_via (A := Ev l G mX8_endModule 12 [(0, va_rf (some a0))] [] σ_8 (xrV rr) σ') (fun z9 => ?_) ?_
    · rcases c_7.1 with w9 | w9
      · exact ev_put (σ2 := σ_8) (C := RX3) (T := TX3) (k := 2) inX3 tyX3 tyX3_ok nmX3 (xE_4 w9) rfl (by decide) wd_99 (Or.inl rfl) rfl rfl (x_refN _) (x_refF _) (Nat.le_of_ble_eq_true rfl) (hP.2.2.2.1 ▸ c_7.2) (by rw [eσ_8]; exact xP_4_2 _ w9) (by rw [eσ_8]; exact xPut_R) dX8_endModule_9 z9
      · exact ev_put (σ2 := σ_8) (C := RX9) (T := TX9) (k := 2) inX9 tyX9 tyX9_ok nmX9 (xE_9 w9) rfl (by decide) wd_99 (Or.inl rfl) rfl rfl (x_refN _) (x_refF _) (Nat.le_of_ble_eq_true rfl) (hP.2.2.2.1 ▸ c_7.2) (by rw [eσ_8]; exact xP_9_2 _ w9) (by rw [eσ_8]; exact xPut_R) dX8_endModule_9 z9
    cases h
    exact ev_vret rfl dX8_endModule_12
  · have z9 := x_call (M := mX8_endModule) (M' := mX5_numberBits) (pc := 4) (st := [va_rf (some a_2)]) (rest := []) (av := [va_rf (some a_2)]) (x_linkV (M := mX8_endModule) (M' := mX5_numberBits) (As := []) (index := 62) (C := RX5) (T := TX5) (xE_6 c_6) rfl wd_431 wd_432 wd_430 xw_X5_numberBits rfl (by decide) rfl rfl dX8_endModule_4) (ev_X5_numberBits hO hP h_5) xw_X5_numberBits rfl wd_274 dX8_endModule_4 (by decide) (by decide) (by simp [x_cat, x_catI, x_catJ])
    cases h
    exact x_callX z9 (evX_out rfl)
set_option maxHeartbeats 4000000 in
set_option maxRecDepth 100000 in
theorem ev_X5_hasInstance_L2 {l : Launch} {G : xG} (hO : x_OK l G) {P : xP} (hP : x_PG P G) {a0 : Nat} : ∀ (n : Nat) {v1 : Int64} {v3 : Int32} {σ σ' : xS} {rr : Int32 ⊕ String}, dm_X5_hasInstance_L2 P a0 n v1 v3 σ = some (rr, σ') → Ev l G mX5_hasInstance 2 [(0, va_rf (some a0)), (1, .long v1), (3, .int v3)] [] σ (xrI rr) σ' := by
  intro n
  induction n with
  | zero => intro v1 v3 σ σ' rr h; cases h
  | succ n ih =>
    intro v1 v3 σ σ' rr h
    rw [dm_X5_hasInstance_L2] at h
    refine ev_iload_n (j := 2) (x := v3) dX5_hasInstance_2 rfl rfl ?_
    refine ev_aload_n (j := 0) (x := (some a0)) dX5_hasInstance_3 rfl rfl ?_
    obtain ⟨c_1, h⟩ := x_chk_e h
    refine ev_get (C := RX5) (T := TX5) (k := 11) inX5 (xE_6 c_1) rfl (by decide) wd_268 (Or.inl rfl) rfl dX5_hasInstance_4 ?_
    by_cases c_2 : (σ.I 511 a0) ≤ v3
    · rw [if_pos c_2] at h
      refine ev_icmp_ge (x := v3) (y := (σ.I 511 a0)) (tgt := 32) dX5_hasInstance_7 (by decide) (fun _ => ?_) (fun q9 => absurd c_2 q9)
      refine ev_iconst (v := 0) dX5_hasInstance_32 (by decide) ?_
      cases h
      exact ev_iret rfl rfl dX5_hasInstance_33
    · rw [if_neg c_2] at h
      refine ev_icmp_ge (x := v3) (y := (σ.I 511 a0)) (tgt := 32) dX5_hasInstance_7 (by decide) (fun q9 => absurd q9 c_2) (fun _ => ?_)
      refine ev_aload_n (j := 0) (x := (some a0)) dX5_hasInstance_10 rfl rfl ?_
      refine ev_get (C := RX5) (T := TX5) (k := 10) inX5 (xE_6 c_1) rfl (by decide) wd_267 (Or.inl rfl) rfl dX5_hasInstance_11 ?_
      refine ev_iload_n (j := 2) (x := v3) dX5_hasInstance_14 rfl rfl ?_
      obtain ⟨a_3, ea_3, h⟩ := x_some_e h
      refine ev_at (st' := [.int v3, va_rf (some a_3)]) rfl (by rw [ea_3]) ?_
      obtain ⟨c_4, h⟩ := x_chk_e h
      refine ev_aald_24 c_4.1 c_4.2 dX5_hasInstance_15 ?_
      obtain ⟨a_5, ea_5, h⟩ := x_some_e h
      refine ev_at (st' := [va_rf (some a_5)]) rfl (by rw [ea_5]) ?_
      obtain ⟨c_6, h⟩ := x_chk_e h
      refine ev_get (C := RX1) (T := TX1) (k := 1) inX1 (xE_2 c_6) rfl (by decide) wd_433 (Or.inl rfl) rfl dX5_hasInstance_16 ?_
      refine ev_lload_n (j := 1) (x := v1) dX5_hasInstance_19 rfl rfl ?_
      refine ev_lcmp (x := (σ.J 101 a_5)) (y := v1) dX5_hasInstance_20 ?_
      by_cases c_7 : (lg_cmp (σ.J 101 a_5) v1) = 0
      · rw [if_pos c_7] at h
        refine ev_if_ne (x := (lg_cmp (σ.J 101 a_5) v1)) (tgt := 26) dX5_hasInstance_21 (by decide) (fun q9 => absurd c_7 q9) (fun _ => ?_)
        refine ev_iconst (v := 1) dX5_hasInstance_24 (by decide) ?_
        cases h
        exact ev_iret rfl rfl dX5_hasInstance_25
      · rw [if_neg c_7] at h
        refine ev_if_ne (x := (lg_cmp (σ.J 101 a_5) v1)) (tgt := 26) dX5_hasInstance_21 (by decide) (fun _ => ?_) (fun q9 => absurd q9 c_7)
        obtain ⟨v_8, ev_8, h⟩ := x_let_e h
        refine ev_iinc (j := 2) (x := v3) (v := v_8) (lv' := [(3, .int v_8), (0, va_rf (some a0)), (1, .long v1)]) dX5_hasInstance_26 rfl (by rw [ev_8]; rfl) (by decide) rfl ?_
        refine ev_goto (tgt := 2) dX5_hasInstance_29 (by decide) ?_
        exact ev_sub [1, 2, 0] rfl (ih h)
set_option maxHeartbeats 4000000 in
set_option maxRecDepth 100000 in
theorem ev_X5_hasInstance {l : Launch} {G : xG} (hO : x_OK l G) {P : xP} (hP : x_PG P G) {a0 : Nat} {v1 : Int64} {σ σ' : xS} {rr : Int32 ⊕ String} (h : dm_X5_hasInstance P a0 v1 σ = some (rr, σ')) : EvM l G mX5_hasInstance [va_rf (some a0), .long v1] σ (xrI rr) σ' := by
  unfold dm_X5_hasInstance at h
  refine evM_of hO (by decide +kernel) (x_lenI (by simp [x_cat, x_catI, x_catJ, mX5_hasInstance, xM.maxL])) ?_
  refine Eq.mp (congrArg (fun z => Ev l G mX5_hasInstance 0 z [] σ (xrI rr) σ') (show [(0, va_rf (some a0)), (1, .long v1)] = lv_args 0 [va_rf (some a0), .long v1] by simp [lv_args, x_cat, x_catI, x_catJ])) ?_
  refine ev_iconst (v := 0) dX5_hasInstance_0 (by decide) ?_
  refine ev_istore_n (i := 3) (lv' := [(3, .int 0), (0, va_rf (some a0)), (1, .long v1)]) dX5_hasInstance_1 rfl (by decide) rfl ?_
  exact ev_sub [1, 2, 0] rfl (ev_X5_hasInstance_L2 hO hP P.N h)
set_option maxHeartbeats 4000000 in
set_option maxRecDepth 100000 in
theorem ev_X1_init {l : Launch} {G : xG} (hO : x_OK l G) {P : xP} (hP : x_PG P G) {a0 : Nat} {v1 : Int64} {v3 : Int64} {v5 : Int32} {σ σ' : xS} {rr : Unit ⊕ String} (h : dm_X1_init P a0 v1 v3 v5 σ = some (rr, σ')) : EvM l G mX1_init [va_rf (some a0), .long v1, .long v3, .int v5] σ (xrV rr) σ' := by
  unfold dm_X1_init at h
  refine evM_of hO (by decide +kernel) (x_lenI (by simp [x_cat, x_catI, x_catJ, mX1_init, xM.maxL])) ?_
  refine Eq.mp (congrArg (fun z => Ev l G mX1_init 0 z [] σ (xrV rr) σ') (show [(0, va_rf (some a0)), (1, .long v1), (3, .long v3), (5, .int v5)] = lv_args 0 [va_rf (some a0), .long v1, .long v3, .int v5] by simp [lv_args, x_cat, x_catI, x_catJ])) ?_
  refine ev_aload_n (j := 0) (x := (some a0)) dX1_init_0 rfl rfl ?_
  refine ev_objInit wd_434 wd_85 wd_86 dX1_init_1 (by decide) (by decide) ?_
  refine ev_aload_n (j := 0) (x := (some a0)) dX1_init_4 rfl rfl ?_
  refine ev_iconst (v := 0) dX1_init_5 (by decide) ?_
  obtain ⟨c_1, h⟩ := x_chk_e h
  obtain ⟨σ_2, eσ_2, h⟩ := x_let_e h
  refine ev_put (σ2 := σ_2) (C := RX1) (T := TX1) (k := 3) inX1 tyX1 tyX1_ok nmX1 (xE_2 c_1.1) rfl (by decide) wd_66 (Or.inl rfl) rfl rfl (x_boolN c_1.2.2) (x_boolF c_1.2.2) (Nat.le_of_ble_eq_true rfl) (hP.2.2.2.1 ▸ c_1.2.1) (by rw [eσ_2]; exact xP_2_3 _ c_1.1) (by rw [eσ_2]; exact xPut_I) dX1_init_6 ?_
  refine ev_aload_n (j := 0) (x := (some a0)) dX1_init_9 rfl rfl ?_
  refine ev_bipush (v := 16) dX1_init_10 (by decide) ?_
  obtain ⟨c_3, h⟩ := x_chk_e h
  obtain ⟨σ_4, eσ_4, h⟩ := x_let_e h
  refine ev_newq (C := "NetlistForms$Link") (k := 25) (t0 := 5) (by decide) (fun _ => rfl) wd_435 wd_436 c_3.1 c_3.2.1 (hP.2.1 ▸ c_3.2.2.1) (hP.2.2.1 ▸ c_3.2.2.2) dX1_init_12 (eσ_4 ▸ ?_)
  obtain ⟨c_5, h⟩ := x_chk_e h
  obtain ⟨σ_6, eσ_6, h⟩ := x_let_e h
  refine ev_putF (σ2 := σ_6) (C := RX1) (T := TX1) (k := 4) inX1 tyX1 tyX1_ok nmX1 (xE_2 c_5.1) rfl (by decide) wd_60 (Or.inl rfl) rfl rfl rfl rfl (x_refN _) (x_refFA _) (Nat.le_of_ble_eq_true rfl) (hP.2.2.2.1 ▸ c_5.2) (by rw [eσ_6]; exact xP_2_4 _ c_5.1) (by rw [eσ_6]; exact xPut_R) dX1_init_15 ?_
  refine ev_aload_n (j := 0) (x := (some a0)) dX1_init_18 rfl rfl ?_
  refine ev_iconst (v := 0) dX1_init_19 (by decide) ?_
  obtain ⟨c_7, h⟩ := x_chk_e h
  obtain ⟨σ_8, eσ_8, h⟩ := x_let_e h
  refine ev_put (σ2 := σ_8) (C := RX1) (T := TX1) (k := 5) inX1 tyX1 tyX1_ok nmX1 (xE_2 c_7.1) rfl (by decide) wd_43 (Or.inl rfl) rfl rfl rfl rfl (Nat.le_of_ble_eq_true rfl) (hP.2.2.2.1 ▸ c_7.2) (by rw [eσ_8]; exact xP_2_5 _ c_7.1) (by rw [eσ_8]; exact xPut_I) dX1_init_20 ?_
  refine ev_aload_n (j := 0) (x := (some a0)) dX1_init_23 rfl rfl ?_
  refine ev_null dX1_init_24 ?_
  obtain ⟨c_9, h⟩ := x_chk_e h
  obtain ⟨σ_10, eσ_10, h⟩ := x_let_e h
  refine ev_put (σ2 := σ_10) (C := RX1) (T := TX1) (k := 6) inX1 tyX1 tyX1_ok nmX1 (xE_2 c_9.1) rfl (by decide) wd_41 (Or.inl rfl) rfl rfl (x_refN _) (x_refF _) (Nat.le_of_ble_eq_true rfl) (hP.2.2.2.1 ▸ c_9.2) (by rw [eσ_10]; exact xP_2_6 _ c_9.1) (by rw [eσ_10]; exact xPut_R) dX1_init_25 ?_
  refine ev_aload_n (j := 0) (x := (some a0)) dX1_init_28 rfl rfl ?_
  refine ev_lload_n (j := 1) (x := v1) dX1_init_29 rfl rfl ?_
  obtain ⟨c_11, h⟩ := x_chk_e h
  obtain ⟨σ_12, eσ_12, h⟩ := x_let_e h
  refine ev_putF (σ2 := σ_12) (C := RX1) (T := TX1) (k := 0) inX1 tyX1 tyX1_ok nmX1 (xE_2 c_11.1) rfl (by decide) wd_437 (Or.inl rfl) rfl rfl rfl rfl rfl rfl (Nat.le_of_ble_eq_true rfl) (hP.2.2.2.1 ▸ c_11.2) (by rw [eσ_12]; exact xP_2_0 _ c_11.1) (by rw [eσ_12]; exact xPut_J) dX1_init_30 ?_
  refine ev_aload_n (j := 0) (x := (some a0)) dX1_init_33 rfl rfl ?_
  refine ev_lload_n (j := 2) (x := v3) dX1_init_34 rfl rfl ?_
  obtain ⟨c_13, h⟩ := x_chk_e h
  obtain ⟨σ_14, eσ_14, h⟩ := x_let_e h
  refine ev_putF (σ2 := σ_14) (C := RX1) (T := TX1) (k := 1) inX1 tyX1 tyX1_ok nmX1 (xE_2 c_13.1) rfl (by decide) wd_438 (Or.inl rfl) rfl rfl rfl rfl rfl rfl (Nat.le_of_ble_eq_true rfl) (hP.2.2.2.1 ▸ c_13.2) (by rw [eσ_14]; exact xP_2_1 _ c_13.1) (by rw [eσ_14]; exact xPut_J) dX1_init_35 ?_
  refine ev_aload_n (j := 0) (x := (some a0)) dX1_init_38 rfl rfl ?_
  refine ev_iload (j := 3) (x := v5) dX1_init_39 rfl ?_
  obtain ⟨c_15, h⟩ := x_chk_e h
  obtain ⟨σ_16, eσ_16, h⟩ := x_let_e h
  refine ev_putF (σ2 := σ_16) (C := RX1) (T := TX1) (k := 2) inX1 tyX1 tyX1_ok nmX1 (xE_2 c_15.1) rfl (by decide) wd_439 (Or.inl rfl) rfl rfl rfl rfl rfl rfl (Nat.le_of_ble_eq_true rfl) (hP.2.2.2.1 ▸ c_15.2) (by rw [eσ_16]; exact xP_2_2 _ c_15.1) (by rw [eσ_16]; exact xPut_I) dX1_init_41 ?_
  cases h
  exact ev_vret rfl dX1_init_44
set_option maxHeartbeats 4000000 in
set_option maxRecDepth 100000 in
theorem ev_X5_addInstance_p29 {l : Launch} {G : xG} (hO : x_OK l G) {P : xP} (hP : x_PG P G) {a0 : Nat} {σ σ' : xS} {rr : Unit ⊕ String} (h : dm_X5_addInstance_p29 P a0 σ = some (rr, σ')) : Ev l G mX5_addInstance 29 [] [] σ (xrV rr) σ' := by
  unfold dm_X5_addInstance_p29 at h
  cases h
  exact ev_vret rfl dX5_addInstance_29
set_option maxHeartbeats 4000000 in
set_option maxRecDepth 100000 in
theorem ev_X5_addInstance {l : Launch} {G : xG} (hO : x_OK l G) {P : xP} (hP : x_PG P G) {a0 : Nat} {v1 : Option Nat} {σ σ' : xS} {rr : Unit ⊕ String} (h : dm_X5_addInstance P a0 v1 σ = some (rr, σ')) : EvM l G mX5_addInstance [va_rf (some a0), va_rf v1] σ (xrV rr) σ' := by
  unfold dm_X5_addInstance at h
  refine evM_of hO (by decide +kernel) (x_lenI (by simp [x_cat, x_catI, x_catJ, mX5_addInstance, xM.maxL])) ?_
  refine Eq.mp (congrArg (fun z => Ev l G mX5_addInstance 0 z [] σ (xrV rr) σ') (show [(0, va_rf (some a0)), (1, va_rf v1)] = lv_args 0 [va_rf (some a0), va_rf v1] by simp [lv_args, x_cat, x_catI, x_catJ])) ?_
  refine ev_aload_n (j := 0) (x := (some a0)) dX5_addInstance_0 rfl rfl ?_
  obtain ⟨c_1, h⟩ := x_chk_e h
  refine ev_get (C := RX5) (T := TX5) (k := 11) inX5 (xE_6 c_1) rfl (by decide) wd_268 (Or.inl rfl) rfl dX5_addInstance_1 ?_
  refine ev_bipush (v := 12) dX5_addInstance_4 (by decide) ?_
  by_cases c_2 : 12 ≤ (σ.I 511 a0)
  · rw [if_pos c_2] at h
    refine ev_icmp_ge (x := (σ.I 511 a0)) (y := 12) (tgt := 29) dX5_addInstance_6 (by decide) (fun _ => ?_) (fun q9 => absurd c_2 q9)
    exact ev_sub [] rfl (ev_X5_addInstance_p29 hO hP h)
  · rw [if_neg c_2] at h
    refine ev_icmp_ge (x := (σ.I 511 a0)) (y := 12) (tgt := 29) dX5_addInstance_6 (by decide) (fun q9 => absurd q9 c_2) (fun _ => ?_)
    refine ev_aload_n (j := 0) (x := (some a0)) dX5_addInstance_9 rfl rfl ?_
    refine ev_get (C := RX5) (T := TX5) (k := 10) inX5 (xE_6 c_1) rfl (by decide) wd_267 (Or.inl rfl) rfl dX5_addInstance_10 ?_
    refine ev_aload_n (j := 0) (x := (some a0)) dX5_addInstance_13 rfl rfl ?_
    refine ev_get (C := RX5) (T := TX5) (k := 11) inX5 (xE_6 c_1) rfl (by decide) wd_268 (Or.inl rfl) rfl dX5_addInstance_14 ?_
    refine ev_aload_n (j := 1) (x := v1) dX5_addInstance_17 rfl rfl ?_
    obtain ⟨a_3, ea_3, h⟩ := x_some_e h
    refine ev_at (st' := [va_rf v1, .int (σ.I 511 a0), va_rf (some a_3)]) rfl (by rw [ea_3]) ?_
    obtain ⟨c_4, h⟩ := x_chk_e h
    obtain ⟨σ_5, eσ_5, h⟩ := x_let_e h
    refine ev_aast_24 c_4.1 c_4.2.1 (hP.2.2.2.1 ▸ c_4.2.2.1) (x_kind_e c_4.2.2.2) dX5_addInstance_18 (eσ_5 ▸ ?_)
    refine ev_aload_n (j := 0) (x := (some a0)) dX5_addInstance_19 rfl rfl ?_
    refine ev_dup dX5_addInstance_20 (x_cat _) ?_
    obtain ⟨c_6, h⟩ := x_chk_e h
    refine ev_get (C := RX5) (T := TX5) (k := 11) inX5 (xE_6 c_6) rfl (by decide) wd_268 (Or.inl rfl) rfl dX5_addInstance_21 ?_
    refine ev_iconst (v := 1) dX5_addInstance_24 (by decide) ?_
    refine ev_iadd (x := (σ_5.I 511 a0)) (y := 1) dX5_addInstance_25 ?_
    obtain ⟨c_7, h⟩ := x_chk_e h
    obtain ⟨σ_8, eσ_8, h⟩ := x_let_e h
    refine ev_put (σ2 := σ_8) (C := RX5) (T := TX5) (k := 11) inX5 tyX5 tyX5_ok nmX5 (xE_6 c_7.1) rfl (by decide) wd_268 (Or.inl rfl) rfl rfl rfl rfl (Nat.le_of_ble_eq_true rfl) (hP.2.2.2.1 ▸ c_7.2) (by rw [eσ_8]; exact xP_6_11 _ c_7.1) (by rw [eσ_8]; exact xPut_I) dX5_addInstance_26 ?_
    exact ev_sub [] rfl (ev_X5_addInstance_p29 hO hP h)
set_option maxHeartbeats 4000000 in
set_option maxRecDepth 100000 in
theorem ev_X8_startInstance_p55 {l : Launch} {G : xG} (hO : x_OK l G) {P : xP} (hP : x_PG P G) {a0 : Nat} {v1 : Int64} {v3 : Int64} {s0 : Option Nat} {s1 : Int32} {σ σ' : xS} {rr : Option Nat ⊕ String} (h : dm_X8_startInstance_p55 P a0 v1 v3 s0 s1 σ = some (rr, σ')) : Ev l G mX8_startInstance 55 [(0, va_rf (some a0)), (1, .long v1), (3, .long v3)] [.int s1, va_rf s0] σ (xrR rr) σ' := by
  unfold dm_X8_startInstance_p55 at h
  obtain ⟨a_1, ea_1, h⟩ := x_some_e h
  refine ev_at (st' := [.int s1, va_rf (some a_1)]) rfl (by rw [ea_1]) ?_
  obtain ⟨c_5, h⟩ := x_chk_e h
  rcases x_bind_e h with ⟨v_2, σ_3, h_4, h⟩ | ⟨E_33, σ_3, h_4, h⟩
  · have z9 := x_call (M := mX8_startInstance) (M' := mX10_refuseIf) (pc := 55) (st := [.int s1, va_rf (some a_1)]) (rest := []) (av := [va_rf (some a_1), .int s1]) (x_linkV (M := mX8_startInstance) (M' := mX10_refuseIf) (As := [.int s1]) (index := 51) (C := RX10) (T := TX10) (xE_10 c_5) rfl wd_286 wd_243 wd_241 xw_X10_refuseIf rfl (by decide) rfl rfl dX8_startInstance_55) (ev_X10_refuseIf hO hP h_4) xw_X10_refuseIf rfl wd_118 dX8_startInstance_55 (by decide) (by decide) (by simp [x_cat, x_catI, x_catJ])
    refine x_callR z9 ?_
    refine ev_at (st' := []) rfl rfl ?_
    obtain ⟨c_6, h⟩ := x_chk_e h
    obtain ⟨σ_7, eσ_7, h⟩ := x_let_e h
    refine ev_new (C := RX1) (T := TX1) (N := 7) (ci := 1) inX1 tyX1 tyX1_ok rfl (by decide) wd_445 wd_446 wd_53 (hP.2.1 ▸ c_6.1) (hP.2.2.1 ▸ c_6.2) (nE_2 _ _) nF_2 dX8_startInstance_58 (eσ_7 ▸ ?_)
    refine ev_dup dX8_startInstance_61 (x_cat _) ?_
    refine ev_lload_n (j := 1) (x := v1) dX8_startInstance_62 rfl rfl ?_
    refine ev_lload_n (j := 2) (x := v3) dX8_startInstance_63 rfl rfl ?_
    refine ev_aload_n (j := 0) (x := (some a0)) dX8_startInstance_64 rfl rfl ?_
    obtain ⟨c_8, h⟩ := x_chk_e h
    refine x_via (A := Ev l G mX8_startInstance 68 [(0, va_rf (some a0)), (1, .long v1), (3, .long v3)] [va_rf (σ_7.R 300 a0), .long v3, .long v1, va_rf (some σ_3.sz), va_rf (some σ_3.sz)] σ_7 (xrR rr) σ') (fun z9 => ?_) ?_
    · rcases c_8 with w9 | w9
      · exact ev_get (C := RX3) (T := TX3) (k := 0) inX3 (xE_4 w9) rfl (by decide) wd_100 (Or.inl rfl) rfl dX8_startInstance_65 z9
      · exact ev_get (C := RX9) (T := TX9) (k := 0) inX9 (xE_9 w9) rfl (by decide) wd_100 (Or.inl rfl) rfl dX8_startInstance_65 z9
    obtain ⟨a_9, ea_9, h⟩ := x_some_e h
    refine ev_at (st' := [va_rf (some a_9), .long v3, .long v1, va_rf (some σ_3.sz), va_rf (some σ_3.sz)]) rfl (by rw [ea_9]) ?_
    obtain ⟨c_13, h⟩ := x_chk_e h
    rcases x_bind_e h with ⟨v_10, σ_11, h_12, h⟩ | ⟨E_32, σ_11, h_12, h⟩
    · have z9 := x_call (M := mX8_startInstance) (M' := mX10_place) (pc := 68) (st := [va_rf (some a_9), .long v3, .long v1, va_rf (some σ_3.sz), va_rf (some σ_3.sz)]) (rest := [.long v3, .long v1, va_rf (some σ_3.sz), va_rf (some σ_3.sz)]) (av := [va_rf (some a_9)]) (x_linkV (M := mX8_startInstance) (M' := mX10_place) (As := []) (index := 34) (C := RX10) (T := TX10) (xE_10 c_13) rfl wd_289 wd_290 wd_288 xw_X10_place rfl (by decide) rfl rfl dX8_startInstance_68) (ev_X10_place hO hP h_12) xw_X10_place rfl wd_118 dX8_startInstance_68 (by decide) (by decide) (by simp [x_cat, x_catI, x_catJ])
      refine x_callR z9 ?_
      refine ev_at (st' := [.int v_10, .long v3, .long v1, va_rf (some σ_3.sz), va_rf (some σ_3.sz)]) rfl rfl ?_
      rcases x_bind_e h with ⟨v_14, σ_15, h_16, h⟩ | ⟨E_31, σ_15, h_16, h⟩
      · have z9 := x_call (M := mX8_startInstance) (M' := mX1_init) (pc := 71) (st := [.int v_10, .long v3, .long v1, va_rf (some σ_3.sz), va_rf (some σ_3.sz)]) (rest := [va_rf (some σ_3.sz)]) (av := [va_rf (some σ_3.sz), .long v1, .long v3, .int v_10]) (x_linkI (M := mX8_startInstance) (M' := mX1_init) (As := [.long v1, .long v3, .int v_10]) (index := 91) (b := σ_3.sz) rfl wd_448 wd_449 wd_447 (by decide) rfl rfl dX8_startInstance_71) (ev_X1_init hO hP h_16) xw_X1_init rfl wd_53 dX8_startInstance_71 (by decide) (by decide) (by simp [x_cat, x_catI, x_catJ])
        refine x_callR z9 ?_
        refine ev_at (st' := [va_rf (some σ_3.sz)]) rfl rfl ?_
        refine ev_astore (i := 5) (lv' := [(5, va_rf (some σ_3.sz)), (0, va_rf (some a0)), (1, .long v1), (3, .long v3)]) dX8_startInstance_74 (by decide) rfl ?_
        refine ev_aload_n (j := 1) (x := (some a0)) dX8_startInstance_76 rfl rfl ?_
        obtain ⟨c_17, h⟩ := x_chk_e h
        refine x_via (A := Ev l G mX8_startInstance 80 [(5, va_rf (some σ_3.sz)), (0, va_rf (some a0)), (1, .long v1), (3, .long v3)] [va_rf (σ_15.R 302 a0)] σ_15 (xrR rr) σ') (fun z9 => ?_) ?_
        · rcases c_17 with w9 | w9
          · exact ev_get (C := RX3) (T := TX3) (k := 2) inX3 (xE_4 w9) rfl (by decide) wd_99 (Or.inl rfl) rfl dX8_startInstance_77 z9
          · exact ev_get (C := RX9) (T := TX9) (k := 2) inX9 (xE_9 w9) rfl (by decide) wd_99 (Or.inl rfl) rfl dX8_startInstance_77 z9
        refine ev_aload (j := 0) (x := (some σ_3.sz)) dX8_startInstance_80 rfl ?_
        obtain ⟨a_18, ea_18, h⟩ := x_some_e h
        refine ev_at (st' := [va_rf (some σ_3.sz), va_rf (some a_18)]) rfl (by rw [ea_18]) ?_
        obtain ⟨c_22, h⟩ := x_chk_e h
        rcases x_bind_e h with ⟨v_19, σ_20, h_21, h⟩ | ⟨E_30, σ_20, h_21, h⟩
        · have z9 := x_call (M := mX8_startInstance) (M' := mX5_addInstance) (pc := 82) (st := [va_rf (some σ_3.sz), va_rf (some a_18)]) (rest := []) (av := [va_rf (some a_18), va_rf (some σ_3.sz)]) (x_linkV (M := mX8_startInstance) (M' := mX5_addInstance) (As := [va_rf (some σ_3.sz)]) (index := 94) (C := RX5) (T := TX5) (xE_6 c_22) rfl wd_452 wd_453 wd_451 xw_X5_addInstance rfl (by decide) rfl rfl dX8_startInstance_82) (ev_X5_addInstance hO hP h_21) xw_X5_addInstance rfl wd_274 dX8_startInstance_82 (by decide) (by decide) (by simp [x_cat, x_catI, x_catJ])
          refine x_callR z9 ?_
          refine ev_at (st' := []) rfl rfl ?_
          refine ev_aload_n (j := 1) (x := (some a0)) dX8_startInstance_85 rfl rfl ?_
          obtain ⟨c_23, h⟩ := x_chk_e h
          refine x_via (A := Ev l G mX8_startInstance 89 [(5, va_rf (some σ_3.sz)), (0, va_rf (some a0)), (1, .long v1), (3, .long v3)] [va_rf (σ_20.R 300 a0)] σ_20 (xrR rr) σ') (fun z9 => ?_) ?_
          · rcases c_23 with w9 | w9
            · exact ev_get (C := RX3) (T := TX3) (k := 0) inX3 (xE_4 w9) rfl (by decide) wd_100 (Or.inl rfl) rfl dX8_startInstance_86 z9
            · exact ev_get (C := RX9) (T := TX9) (k := 0) inX9 (xE_9 w9) rfl (by decide) wd_100 (Or.inl rfl) rfl dX8_startInstance_86 z9
          obtain ⟨a_24, ea_24, h⟩ := x_some_e h
          refine ev_at (st' := [va_rf (some a_24)]) rfl (by rw [ea_24]) ?_
          obtain ⟨c_28, h⟩ := x_chk_e h
          rcases x_bind_e h with ⟨v_25, σ_26, h_27, h⟩ | ⟨E_29, σ_26, h_27, h⟩
          · have z9 := x_call (M := mX8_startInstance) (M' := mX10_step) (pc := 89) (st := [va_rf (some a_24)]) (rest := []) (av := [va_rf (some a_24)]) (x_linkV (M := mX8_startInstance) (M' := mX10_step) (As := []) (index := 59) (C := RX10) (T := TX10) (xE_10 c_28) rfl wd_295 wd_247 wd_245 xw_X10_step rfl (by decide) rfl rfl dX8_startInstance_89) (ev_X10_step hO hP h_27) xw_X10_step rfl wd_118 dX8_startInstance_89 (by decide) (by decide) (by simp [x_cat, x_catI, x_catJ])
            refine x_callR z9 ?_
            refine ev_at (st' := []) rfl rfl ?_
            refine ev_aload (j := 0) (x := (some σ_3.sz)) dX8_startInstance_92 rfl ?_
            cases h
            exact ev_aret rfl dX8_startInstance_94
          · have z9 := x_call (M := mX8_startInstance) (M' := mX10_step) (pc := 89) (st := [va_rf (some a_24)]) (rest := []) (av := [va_rf (some a_24)]) (x_linkV (M := mX8_startInstance) (M' := mX10_step) (As := []) (index := 59) (C := RX10) (T := TX10) (xE_10 c_28) rfl wd_295 wd_247 wd_245 xw_X10_step rfl (by decide) rfl rfl dX8_startInstance_89) (ev_X10_step hO hP h_27) xw_X10_step rfl wd_118 dX8_startInstance_89 (by decide) (by decide) (by simp [x_cat, x_catI, x_catJ])
            cases h
            exact x_callX z9 (evX_out rfl)
        · have z9 := x_call (M := mX8_startInstance) (M' := mX5_addInstance) (pc := 82) (st := [va_rf (some σ_3.sz), va_rf (some a_18)]) (rest := []) (av := [va_rf (some a_18), va_rf (some σ_3.sz)]) (x_linkV (M := mX8_startInstance) (M' := mX5_addInstance) (As := [va_rf (some σ_3.sz)]) (index := 94) (C := RX5) (T := TX5) (xE_6 c_22) rfl wd_452 wd_453 wd_451 xw_X5_addInstance rfl (by decide) rfl rfl dX8_startInstance_82) (ev_X5_addInstance hO hP h_21) xw_X5_addInstance rfl wd_274 dX8_startInstance_82 (by decide) (by decide) (by simp [x_cat, x_catI, x_catJ])
          cases h
          exact x_callX z9 (evX_out rfl)
      · have z9 := x_call (M := mX8_startInstance) (M' := mX1_init) (pc := 71) (st := [.int v_10, .long v3, .long v1, va_rf (some σ_3.sz), va_rf (some σ_3.sz)]) (rest := [va_rf (some σ_3.sz)]) (av := [va_rf (some σ_3.sz), .long v1, .long v3, .int v_10]) (x_linkI (M := mX8_startInstance) (M' := mX1_init) (As := [.long v1, .long v3, .int v_10]) (index := 91) (b := σ_3.sz) rfl wd_448 wd_449 wd_447 (by decide) rfl rfl dX8_startInstance_71) (ev_X1_init hO hP h_16) xw_X1_init rfl wd_53 dX8_startInstance_71 (by decide) (by decide) (by simp [x_cat, x_catI, x_catJ])
        cases h
        exact x_callX z9 (evX_out rfl)
    · have z9 := x_call (M := mX8_startInstance) (M' := mX10_place) (pc := 68) (st := [va_rf (some a_9), .long v3, .long v1, va_rf (some σ_3.sz), va_rf (some σ_3.sz)]) (rest := [.long v3, .long v1, va_rf (some σ_3.sz), va_rf (some σ_3.sz)]) (av := [va_rf (some a_9)]) (x_linkV (M := mX8_startInstance) (M' := mX10_place) (As := []) (index := 34) (C := RX10) (T := TX10) (xE_10 c_13) rfl wd_289 wd_290 wd_288 xw_X10_place rfl (by decide) rfl rfl dX8_startInstance_68) (ev_X10_place hO hP h_12) xw_X10_place rfl wd_118 dX8_startInstance_68 (by decide) (by decide) (by simp [x_cat, x_catI, x_catJ])
      cases h
      exact x_callX z9 (evX_out rfl)
  · have z9 := x_call (M := mX8_startInstance) (M' := mX10_refuseIf) (pc := 55) (st := [.int s1, va_rf (some a_1)]) (rest := []) (av := [va_rf (some a_1), .int s1]) (x_linkV (M := mX8_startInstance) (M' := mX10_refuseIf) (As := [.int s1]) (index := 51) (C := RX10) (T := TX10) (xE_10 c_5) rfl wd_286 wd_243 wd_241 xw_X10_refuseIf rfl (by decide) rfl rfl dX8_startInstance_55) (ev_X10_refuseIf hO hP h_4) xw_X10_refuseIf rfl wd_118 dX8_startInstance_55 (by decide) (by decide) (by simp [x_cat, x_catI, x_catJ])
    cases h
    exact x_callX z9 (evX_out rfl)
set_option maxHeartbeats 4000000 in
set_option maxRecDepth 100000 in
theorem ev_X8_startInstance_p50 {l : Launch} {G : xG} (hO : x_OK l G) {P : xP} (hP : x_PG P G) {a0 : Nat} {v1 : Int64} {v3 : Int64} {s0 : Option Nat} {σ σ' : xS} {rr : Option Nat ⊕ String} (h : dm_X8_startInstance_p50 P a0 v1 v3 s0 σ = some (rr, σ')) : Ev l G mX8_startInstance 50 [(0, va_rf (some a0)), (1, .long v1), (3, .long v3)] [va_rf s0] σ (xrR rr) σ' := by
  unfold dm_X8_startInstance_p50 at h
  refine ev_iconst (v := 1) dX8_startInstance_50 (by decide) ?_
  refine ev_goto (tgt := 55) dX8_startInstance_51 (by decide) ?_
  exact ev_sub [0, 1, 2] rfl (ev_X8_startInstance_p55 hO hP h)
set_option maxHeartbeats 4000000 in
set_option maxRecDepth 100000 in
theorem ev_X8_startInstance {l : Launch} {G : xG} (hO : x_OK l G) {P : xP} (hP : x_PG P G) {a0 : Nat} {σ σ' : xS} {rr : Option Nat ⊕ String} (h : dm_X8_startInstance P a0 σ = some (rr, σ')) : EvM l G mX8_startInstance [va_rf (some a0)] σ (xrR rr) σ' := by
  unfold dm_X8_startInstance at h
  refine evM_of hO (by decide +kernel) (x_lenI (by simp [x_cat, x_catI, x_catJ, mX8_startInstance, xM.maxL])) ?_
  refine Eq.mp (congrArg (fun z => Ev l G mX8_startInstance 0 z [] σ (xrR rr) σ') (show [(0, va_rf (some a0))] = lv_args 0 [va_rf (some a0)] by simp [lv_args, x_cat, x_catI, x_catJ])) ?_
  refine ev_aload_n (j := 0) (x := (some a0)) dX8_startInstance_0 rfl rfl ?_
  obtain ⟨c_1, h⟩ := x_chk_e h
  refine x_via (A := Ev l G mX8_startInstance 4 [(0, va_rf (some a0))] [va_rf (σ.R 300 a0)] σ (xrR rr) σ') (fun z9 => ?_) ?_
  · rcases c_1 with w9 | w9
    · exact ev_get (C := RX3) (T := TX3) (k := 0) inX3 (xE_4 w9) rfl (by decide) wd_100 (Or.inl rfl) rfl dX8_startInstance_1 z9
    · exact ev_get (C := RX9) (T := TX9) (k := 0) inX9 (xE_9 w9) rfl (by decide) wd_100 (Or.inl rfl) rfl dX8_startInstance_1 z9
  obtain ⟨a_2, ea_2, h⟩ := x_some_e h
  refine ev_at (st' := [va_rf (some a_2)]) rfl (by rw [ea_2]) ?_
  obtain ⟨c_6, h⟩ := x_chk_e h
  rcases x_bind_e h with ⟨v_3, σ_4, h_5, h⟩ | ⟨E_30, σ_4, h_5, h⟩
  · have z9 := x_call (M := mX8_startInstance) (M' := mX10_name) (pc := 4) (st := [va_rf (some a_2)]) (rest := []) (av := [va_rf (some a_2)]) (x_linkV (M := mX8_startInstance) (M' := mX10_name) (As := []) (index := 43) (C := RX10) (T := TX10) (xE_10 c_6) rfl wd_280 wd_281 wd_279 xw_X10_name rfl (by decide) rfl rfl dX8_startInstance_4) (ev_X10_name hO hP h_5) xw_X10_name rfl wd_118 dX8_startInstance_4 (by decide) (by decide) (by simp [x_cat, x_catI, x_catJ])
    refine x_callR z9 ?_
    refine ev_at (st' := [.long v_3]) rfl rfl ?_
    refine ev_lstore_n (i := 1) (lv' := [(1, .long v_3), (0, va_rf (some a0))]) dX8_startInstance_7 rfl (by decide) (by simp [x_cat, x_catI, x_catJ]) ?_
    refine ev_aload_n (j := 1) (x := (some a0)) dX8_startInstance_8 rfl rfl ?_
    obtain ⟨c_7, h⟩ := x_chk_e h
    refine x_via (A := Ev l G mX8_startInstance 12 [(1, .long v_3), (0, va_rf (some a0))] [va_rf (σ_4.R 300 a0)] σ_4 (xrR rr) σ') (fun z9 => ?_) ?_
    · rcases c_7 with w9 | w9
      · exact ev_get (C := RX3) (T := TX3) (k := 0) inX3 (xE_4 w9) rfl (by decide) wd_100 (Or.inl rfl) rfl dX8_startInstance_9 z9
      · exact ev_get (C := RX9) (T := TX9) (k := 0) inX9 (xE_9 w9) rfl (by decide) wd_100 (Or.inl rfl) rfl dX8_startInstance_9 z9
    obtain ⟨a_8, ea_8, h⟩ := x_some_e h
    refine ev_at (st' := [va_rf (some a_8)]) rfl (by rw [ea_8]) ?_
    obtain ⟨c_12, h⟩ := x_chk_e h
    rcases x_bind_e h with ⟨v_9, σ_10, h_11, h⟩ | ⟨E_29, σ_10, h_11, h⟩
    · have z9 := x_call (M := mX8_startInstance) (M' := mX10_step) (pc := 12) (st := [va_rf (some a_8)]) (rest := []) (av := [va_rf (some a_8)]) (x_linkV (M := mX8_startInstance) (M' := mX10_step) (As := []) (index := 59) (C := RX10) (T := TX10) (xE_10 c_12) rfl wd_295 wd_247 wd_245 xw_X10_step rfl (by decide) rfl rfl dX8_startInstance_12) (ev_X10_step hO hP h_11) xw_X10_step rfl wd_118 dX8_startInstance_12 (by decide) (by decide) (by simp [x_cat, x_catI, x_catJ])
      refine x_callR z9 ?_
      refine ev_at (st' := []) rfl rfl ?_
      refine ev_aload_n (j := 1) (x := (some a0)) dX8_startInstance_15 rfl rfl ?_
      obtain ⟨c_13, h⟩ := x_chk_e h
      refine x_via (A := Ev l G mX8_startInstance 19 [(1, .long v_3), (0, va_rf (some a0))] [va_rf (σ_10.R 300 a0)] σ_10 (xrR rr) σ') (fun z9 => ?_) ?_
      · rcases c_13 with w9 | w9
        · exact ev_get (C := RX3) (T := TX3) (k := 0) inX3 (xE_4 w9) rfl (by decide) wd_100 (Or.inl rfl) rfl dX8_startInstance_16 z9
        · exact ev_get (C := RX9) (T := TX9) (k := 0) inX9 (xE_9 w9) rfl (by decide) wd_100 (Or.inl rfl) rfl dX8_startInstance_16 z9
      obtain ⟨a_14, ea_14, h⟩ := x_some_e h
      refine ev_at (st' := [va_rf (some a_14)]) rfl (by rw [ea_14]) ?_
      obtain ⟨c_18, h⟩ := x_chk_e h
      rcases x_bind_e h with ⟨v_15, σ_16, h_17, h⟩ | ⟨E_28, σ_16, h_17, h⟩
      · have z9 := x_call (M := mX8_startInstance) (M' := mX10_name) (pc := 19) (st := [va_rf (some a_14)]) (rest := []) (av := [va_rf (some a_14)]) (x_linkV (M := mX8_startInstance) (M' := mX10_name) (As := []) (index := 43) (C := RX10) (T := TX10) (xE_10 c_18) rfl wd_280 wd_281 wd_279 xw_X10_name rfl (by decide) rfl rfl dX8_startInstance_19) (ev_X10_name hO hP h_17) xw_X10_name rfl wd_118 dX8_startInstance_19 (by decide) (by decide) (by simp [x_cat, x_catI, x_catJ])
        refine x_callR z9 ?_
        refine ev_at (st' := [.long v_15]) rfl rfl ?_
        refine ev_lstore_n (i := 3) (lv' := [(3, .long v_15), (1, .long v_3), (0, va_rf (some a0))]) dX8_startInstance_22 rfl (by decide) rfl ?_
        refine ev_aload_n (j := 2) (x := (some a0)) dX8_startInstance_23 rfl rfl ?_
        obtain ⟨c_19, h⟩ := x_chk_e h
        refine x_via (A := Ev l G mX8_startInstance 27 [(3, .long v_15), (1, .long v_3), (0, va_rf (some a0))] [va_rf (σ_16.R 300 a0)] σ_16 (xrR rr) σ') (fun z9 => ?_) ?_
        · rcases c_19 with w9 | w9
          · exact ev_get (C := RX3) (T := TX3) (k := 0) inX3 (xE_4 w9) rfl (by decide) wd_100 (Or.inl rfl) rfl dX8_startInstance_24 z9
          · exact ev_get (C := RX9) (T := TX9) (k := 0) inX9 (xE_9 w9) rfl (by decide) wd_100 (Or.inl rfl) rfl dX8_startInstance_24 z9
        refine ev_aload_n (j := 2) (x := (some a0)) dX8_startInstance_27 rfl rfl ?_
        refine x_via (A := Ev l G mX8_startInstance 31 [(3, .long v_15), (1, .long v_3), (0, va_rf (some a0))] [va_rf (σ_16.R 302 a0), va_rf (σ_16.R 300 a0)] σ_16 (xrR rr) σ') (fun z9 => ?_) ?_
        · rcases c_19 with w9 | w9
          · exact ev_get (C := RX3) (T := TX3) (k := 2) inX3 (xE_4 w9) rfl (by decide) wd_99 (Or.inl rfl) rfl dX8_startInstance_28 z9
          · exact ev_get (C := RX9) (T := TX9) (k := 2) inX9 (xE_9 w9) rfl (by decide) wd_99 (Or.inl rfl) rfl dX8_startInstance_28 z9
        obtain ⟨a_20, ea_20, h⟩ := x_some_e h
        refine ev_at (st' := [va_rf (some a_20), va_rf (σ_16.R 300 a0)]) rfl (by rw [ea_20]) ?_
        obtain ⟨c_21, h⟩ := x_chk_e h
        refine ev_get (C := RX5) (T := TX5) (k := 11) inX5 (xE_6 c_21) rfl (by decide) wd_440 (Or.inl rfl) rfl dX8_startInstance_31 ?_
        refine ev_bipush (v := 12) dX8_startInstance_34 (by decide) ?_
        by_cases c_22 : 12 ≤ (σ_16.I 511 a_20)
        · rw [if_pos c_22] at h
          refine ev_icmp_ge (x := (σ_16.I 511 a_20)) (y := 12) (tgt := 50) dX8_startInstance_36 (by decide) (fun _ => ?_) (fun q9 => absurd c_22 q9)
          exact ev_sub [2, 1, 0] rfl (ev_X8_startInstance_p50 hO hP h)
        · rw [if_neg c_22] at h
          refine ev_icmp_ge (x := (σ_16.I 511 a_20)) (y := 12) (tgt := 50) dX8_startInstance_36 (by decide) (fun q9 => absurd q9 c_22) (fun _ => ?_)
          refine ev_aload_n (j := 2) (x := (some a0)) dX8_startInstance_39 rfl rfl ?_
          refine x_via (A := Ev l G mX8_startInstance 43 [(3, .long v_15), (1, .long v_3), (0, va_rf (some a0))] [va_rf (σ_16.R 302 a0), va_rf (σ_16.R 300 a0)] σ_16 (xrR rr) σ') (fun z9 => ?_) ?_
          · rcases c_19 with w9 | w9
            · exact ev_get (C := RX3) (T := TX3) (k := 2) inX3 (xE_4 w9) rfl (by decide) wd_99 (Or.inl rfl) rfl dX8_startInstance_40 z9
            · exact ev_get (C := RX9) (T := TX9) (k := 2) inX9 (xE_9 w9) rfl (by decide) wd_99 (Or.inl rfl) rfl dX8_startInstance_40 z9
          refine ev_lload_n (j := 0) (x := v_15) dX8_startInstance_43 rfl rfl ?_
          refine ev_at (st' := [.long v_15, va_rf (some a_20), va_rf (σ_16.R 300 a0)]) rfl (by rw [ea_20]) ?_
          rcases x_bind_e h with ⟨v_23, σ_24, h_25, h⟩ | ⟨E_27, σ_24, h_25, h⟩
          · have z9 := x_call (M := mX8_startInstance) (M' := mX5_hasInstance) (pc := 44) (st := [.long v_15, va_rf (some a_20), va_rf (σ_16.R 300 a0)]) (rest := [va_rf (σ_16.R 300 a0)]) (av := [va_rf (some a_20), .long v_15]) (x_linkV (M := mX8_startInstance) (M' := mX5_hasInstance) (As := [.long v_15]) (index := 86) (C := RX5) (T := TX5) (xE_6 c_21) rfl wd_443 wd_444 wd_442 xw_X5_hasInstance rfl (by decide) rfl rfl dX8_startInstance_44) (ev_X5_hasInstance hO hP h_25) xw_X5_hasInstance rfl wd_274 dX8_startInstance_44 (by decide) (by decide) (by simp [x_cat, x_catI, x_catJ])
            refine x_callR z9 ?_
            refine ev_at (st' := [.int v_23, va_rf (σ_16.R 300 a0)]) rfl rfl ?_
            by_cases c_26 : v_23 = 0
            · rw [if_pos c_26] at h
              refine ev_if_eq (x := v_23) (tgt := 54) dX8_startInstance_47 (by decide) (fun _ => ?_) (fun q9 => absurd c_26 q9)
              refine ev_iconst (v := 0) dX8_startInstance_54 (by decide) ?_
              exact ev_sub [2, 1, 0] rfl (ev_X8_startInstance_p55 hO hP h)
            · rw [if_neg c_26] at h
              refine ev_if_eq (x := v_23) (tgt := 54) dX8_startInstance_47 (by decide) (fun q9 => absurd q9 c_26) (fun _ => ?_)
              exact ev_sub [2, 1, 0] rfl (ev_X8_startInstance_p50 hO hP h)
          · have z9 := x_call (M := mX8_startInstance) (M' := mX5_hasInstance) (pc := 44) (st := [.long v_15, va_rf (some a_20), va_rf (σ_16.R 300 a0)]) (rest := [va_rf (σ_16.R 300 a0)]) (av := [va_rf (some a_20), .long v_15]) (x_linkV (M := mX8_startInstance) (M' := mX5_hasInstance) (As := [.long v_15]) (index := 86) (C := RX5) (T := TX5) (xE_6 c_21) rfl wd_443 wd_444 wd_442 xw_X5_hasInstance rfl (by decide) rfl rfl dX8_startInstance_44) (ev_X5_hasInstance hO hP h_25) xw_X5_hasInstance rfl wd_274 dX8_startInstance_44 (by decide) (by decide) (by simp [x_cat, x_catI, x_catJ])
            cases h
            exact x_callX z9 (evX_out rfl)
      · have z9 := x_call (M := mX8_startInstance) (M' := mX10_name) (pc := 19) (st := [va_rf (some a_14)]) (rest := []) (av := [va_rf (some a_14)]) (x_linkV (M := mX8_startInstance) (M' := mX10_name) (As := []) (index := 43) (C := RX10) (T := TX10) (xE_10 c_18) rfl wd_280 wd_281 wd_279 xw_X10_name rfl (by decide) rfl rfl dX8_startInstance_19) (ev_X10_name hO hP h_17) xw_X10_name rfl wd_118 dX8_startInstance_19 (by decide) (by decide) (by simp [x_cat, x_catI, x_catJ])
        cases h
        exact x_callX z9 (evX_out rfl)
    · have z9 := x_call (M := mX8_startInstance) (M' := mX10_step) (pc := 12) (st := [va_rf (some a_8)]) (rest := []) (av := [va_rf (some a_8)]) (x_linkV (M := mX8_startInstance) (M' := mX10_step) (As := []) (index := 59) (C := RX10) (T := TX10) (xE_10 c_12) rfl wd_295 wd_247 wd_245 xw_X10_step rfl (by decide) rfl rfl dX8_startInstance_12) (ev_X10_step hO hP h_11) xw_X10_step rfl wd_118 dX8_startInstance_12 (by decide) (by decide) (by simp [x_cat, x_catI, x_catJ])
      cases h
      exact x_callX z9 (evX_out rfl)
  · have z9 := x_call (M := mX8_startInstance) (M' := mX10_name) (pc := 4) (st := [va_rf (some a_2)]) (rest := []) (av := [va_rf (some a_2)]) (x_linkV (M := mX8_startInstance) (M' := mX10_name) (As := []) (index := 43) (C := RX10) (T := TX10) (xE_10 c_6) rfl wd_280 wd_281 wd_279 xw_X10_name rfl (by decide) rfl rfl dX8_startInstance_4) (ev_X10_name hO hP h_5) xw_X10_name rfl wd_118 dX8_startInstance_4 (by decide) (by decide) (by simp [x_cat, x_catI, x_catJ])
    cases h
    exact x_callX z9 (evX_out rfl)
set_option maxHeartbeats 4000000 in
set_option maxRecDepth 100000 in
theorem ev_X1_isFull_p14 {l : Launch} {G : xG} (hO : x_OK l G) {P : xP} (hP : x_PG P G) {a0 : Nat} {s0 : Int32} {σ σ' : xS} {rr : Int32 ⊕ String} (h : dm_X1_isFull_p14 P a0 s0 σ = some (rr, σ')) : Ev l G mX1_isFull 14 [] [.int s0] σ (xrI rr) σ' := by
  unfold dm_X1_isFull_p14 at h
  obtain ⟨c_1, h⟩ := x_chk_e h
  cases h
  exact ev_iret rfl (x_boolN c_1) dX1_isFull_14
set_option maxHeartbeats 4000000 in
set_option maxRecDepth 100000 in
theorem ev_X1_isFull {l : Launch} {G : xG} (hO : x_OK l G) {P : xP} (hP : x_PG P G) {a0 : Nat} {σ σ' : xS} {rr : Int32 ⊕ String} (h : dm_X1_isFull P a0 σ = some (rr, σ')) : EvM l G mX1_isFull [va_rf (some a0)] σ (xrI rr) σ' := by
  unfold dm_X1_isFull at h
  refine evM_of hO (by decide +kernel) (x_lenI (by simp [x_cat, x_catI, x_catJ, mX1_isFull, xM.maxL])) ?_
  refine Eq.mp (congrArg (fun z => Ev l G mX1_isFull 0 z [] σ (xrI rr) σ') (show [(0, va_rf (some a0))] = lv_args 0 [va_rf (some a0)] by simp [lv_args, x_cat, x_catI, x_catJ])) ?_
  refine ev_aload_n (j := 0) (x := (some a0)) dX1_isFull_0 rfl rfl ?_
  obtain ⟨c_1, h⟩ := x_chk_e h
  refine ev_get (C := RX1) (T := TX1) (k := 5) inX1 (xE_2 c_1) rfl (by decide) wd_43 (Or.inl rfl) rfl dX1_isFull_1 ?_
  refine ev_bipush (v := 16) dX1_isFull_4 (by decide) ?_
  by_cases c_2 : (σ.I 105 a0) < 16
  · rw [if_pos c_2] at h
    refine ev_icmp_lt (x := (σ.I 105 a0)) (y := 16) (tgt := 13) dX1_isFull_6 (by decide) (fun _ => ?_) (fun q9 => absurd c_2 q9)
    refine ev_iconst (v := 0) dX1_isFull_13 (by decide) ?_
    exact ev_sub [] rfl (ev_X1_isFull_p14 hO hP h)
  · rw [if_neg c_2] at h
    refine ev_icmp_lt (x := (σ.I 105 a0)) (y := 16) (tgt := 13) dX1_isFull_6 (by decide) (fun q9 => absurd q9 c_2) (fun _ => ?_)
    refine ev_iconst (v := 1) dX1_isFull_9 (by decide) ?_
    refine ev_goto (tgt := 14) dX1_isFull_10 (by decide) ?_
    exact ev_sub [] rfl (ev_X1_isFull_p14 hO hP h)
set_option maxHeartbeats 4000000 in
set_option maxRecDepth 100000 in
theorem ev_X2_init {l : Launch} {G : xG} (hO : x_OK l G) {P : xP} (hP : x_PG P G) {a0 : Nat} {v1 : Int64} {v3 : Int32} {v4 : Option Nat} {σ σ' : xS} {rr : Unit ⊕ String} (h : dm_X2_init P a0 v1 v3 v4 σ = some (rr, σ')) : EvM l G mX2_init [va_rf (some a0), .long v1, .int v3, va_rf v4] σ (xrV rr) σ' := by
  unfold dm_X2_init at h
  refine evM_of hO (by decide +kernel) (x_lenI (by simp [x_cat, x_catI, x_catJ, mX2_init, xM.maxL])) ?_
  refine Eq.mp (congrArg (fun z => Ev l G mX2_init 0 z [] σ (xrV rr) σ') (show [(0, va_rf (some a0)), (1, .long v1), (3, .int v3), (4, va_rf v4)] = lv_args 0 [va_rf (some a0), .long v1, .int v3, va_rf v4] by simp [lv_args, x_cat, x_catI, x_catJ])) ?_
  refine ev_aload_n (j := 0) (x := (some a0)) dX2_init_0 rfl rfl ?_
  refine ev_objInit wd_454 wd_85 wd_86 dX2_init_1 (by decide) (by decide) ?_
  refine ev_aload_n (j := 0) (x := (some a0)) dX2_init_4 rfl rfl ?_
  refine ev_lload_n (j := 1) (x := v1) dX2_init_5 rfl rfl ?_
  obtain ⟨c_1, h⟩ := x_chk_e h
  obtain ⟨σ_2, eσ_2, h⟩ := x_let_e h
  refine ev_putF (σ2 := σ_2) (C := RX2) (T := TX2) (k := 0) inX2 tyX2 tyX2_ok nmX2 (xE_3 c_1.1) rfl (by decide) wd_455 (Or.inl rfl) rfl rfl rfl rfl rfl rfl (Nat.le_of_ble_eq_true rfl) (hP.2.2.2.1 ▸ c_1.2) (by rw [eσ_2]; exact xP_3_0 _ c_1.1) (by rw [eσ_2]; exact xPut_J) dX2_init_6 ?_
  refine ev_aload_n (j := 0) (x := (some a0)) dX2_init_9 rfl rfl ?_
  refine ev_iload_n (j := 2) (x := v3) dX2_init_10 rfl rfl ?_
  obtain ⟨c_3, h⟩ := x_chk_e h
  obtain ⟨σ_4, eσ_4, h⟩ := x_let_e h
  refine ev_putF (σ2 := σ_4) (C := RX2) (T := TX2) (k := 1) inX2 tyX2 tyX2_ok nmX2 (xE_3 c_3.1) rfl (by decide) wd_456 (Or.inl rfl) rfl rfl rfl rfl rfl rfl (Nat.le_of_ble_eq_true rfl) (hP.2.2.2.1 ▸ c_3.2) (by rw [eσ_4]; exact xP_3_1 _ c_3.1) (by rw [eσ_4]; exact xPut_I) dX2_init_11 ?_
  refine ev_aload_n (j := 0) (x := (some a0)) dX2_init_14 rfl rfl ?_
  refine ev_aload (j := 3) (x := v4) dX2_init_15 rfl ?_
  obtain ⟨c_5, h⟩ := x_chk_e h
  obtain ⟨σ_6, eσ_6, h⟩ := x_let_e h
  refine ev_putF (σ2 := σ_6) (C := RX2) (T := TX2) (k := 2) inX2 tyX2 tyX2_ok nmX2 (xE_3 c_5.1) rfl (by decide) wd_457 (Or.inl rfl) rfl rfl rfl rfl (x_refN _) (x_refF _) (Nat.le_of_ble_eq_true rfl) (hP.2.2.2.1 ▸ c_5.2) (by rw [eσ_6]; exact xP_3_2 _ c_5.1) (by rw [eσ_6]; exact xPut_R) dX2_init_17 ?_
  cases h
  exact ev_vret rfl dX2_init_20
set_option maxHeartbeats 4000000 in
set_option maxRecDepth 100000 in
theorem ev_X1_addLink_p29 {l : Launch} {G : xG} (hO : x_OK l G) {P : xP} (hP : x_PG P G) {a0 : Nat} {σ σ' : xS} {rr : Unit ⊕ String} (h : dm_X1_addLink_p29 P a0 σ = some (rr, σ')) : Ev l G mX1_addLink 29 [] [] σ (xrV rr) σ' := by
  unfold dm_X1_addLink_p29 at h
  cases h
  exact ev_vret rfl dX1_addLink_29
set_option maxHeartbeats 4000000 in
set_option maxRecDepth 100000 in
theorem ev_X1_addLink {l : Launch} {G : xG} (hO : x_OK l G) {P : xP} (hP : x_PG P G) {a0 : Nat} {v1 : Option Nat} {σ σ' : xS} {rr : Unit ⊕ String} (h : dm_X1_addLink P a0 v1 σ = some (rr, σ')) : EvM l G mX1_addLink [va_rf (some a0), va_rf v1] σ (xrV rr) σ' := by
  unfold dm_X1_addLink at h
  refine evM_of hO (by decide +kernel) (x_lenI (by simp [x_cat, x_catI, x_catJ, mX1_addLink, xM.maxL])) ?_
  refine Eq.mp (congrArg (fun z => Ev l G mX1_addLink 0 z [] σ (xrV rr) σ') (show [(0, va_rf (some a0)), (1, va_rf v1)] = lv_args 0 [va_rf (some a0), va_rf v1] by simp [lv_args, x_cat, x_catI, x_catJ])) ?_
  refine ev_aload_n (j := 0) (x := (some a0)) dX1_addLink_0 rfl rfl ?_
  obtain ⟨c_1, h⟩ := x_chk_e h
  refine ev_get (C := RX1) (T := TX1) (k := 5) inX1 (xE_2 c_1) rfl (by decide) wd_43 (Or.inl rfl) rfl dX1_addLink_1 ?_
  refine ev_bipush (v := 16) dX1_addLink_4 (by decide) ?_
  by_cases c_2 : 16 ≤ (σ.I 105 a0)
  · rw [if_pos c_2] at h
    refine ev_icmp_ge (x := (σ.I 105 a0)) (y := 16) (tgt := 29) dX1_addLink_6 (by decide) (fun _ => ?_) (fun q9 => absurd c_2 q9)
    exact ev_sub [] rfl (ev_X1_addLink_p29 hO hP h)
  · rw [if_neg c_2] at h
    refine ev_icmp_ge (x := (σ.I 105 a0)) (y := 16) (tgt := 29) dX1_addLink_6 (by decide) (fun q9 => absurd q9 c_2) (fun _ => ?_)
    refine ev_aload_n (j := 0) (x := (some a0)) dX1_addLink_9 rfl rfl ?_
    refine ev_get (C := RX1) (T := TX1) (k := 4) inX1 (xE_2 c_1) rfl (by decide) wd_60 (Or.inl rfl) rfl dX1_addLink_10 ?_
    refine ev_aload_n (j := 0) (x := (some a0)) dX1_addLink_13 rfl rfl ?_
    refine ev_get (C := RX1) (T := TX1) (k := 5) inX1 (xE_2 c_1) rfl (by decide) wd_43 (Or.inl rfl) rfl dX1_addLink_14 ?_
    refine ev_aload_n (j := 1) (x := v1) dX1_addLink_17 rfl rfl ?_
    obtain ⟨a_3, ea_3, h⟩ := x_some_e h
    refine ev_at (st' := [va_rf v1, .int (σ.I 105 a0), va_rf (some a_3)]) rfl (by rw [ea_3]) ?_
    obtain ⟨c_4, h⟩ := x_chk_e h
    obtain ⟨σ_5, eσ_5, h⟩ := x_let_e h
    refine ev_aast_25 c_4.1 c_4.2.1 (hP.2.2.2.1 ▸ c_4.2.2.1) (x_kind_e c_4.2.2.2) dX1_addLink_18 (eσ_5 ▸ ?_)
    refine ev_aload_n (j := 0) (x := (some a0)) dX1_addLink_19 rfl rfl ?_
    refine ev_dup dX1_addLink_20 (x_cat _) ?_
    obtain ⟨c_6, h⟩ := x_chk_e h
    refine ev_get (C := RX1) (T := TX1) (k := 5) inX1 (xE_2 c_6) rfl (by decide) wd_43 (Or.inl rfl) rfl dX1_addLink_21 ?_
    refine ev_iconst (v := 1) dX1_addLink_24 (by decide) ?_
    refine ev_iadd (x := (σ_5.I 105 a0)) (y := 1) dX1_addLink_25 ?_
    obtain ⟨c_7, h⟩ := x_chk_e h
    obtain ⟨σ_8, eσ_8, h⟩ := x_let_e h
    refine ev_put (σ2 := σ_8) (C := RX1) (T := TX1) (k := 5) inX1 tyX1 tyX1_ok nmX1 (xE_2 c_7.1) rfl (by decide) wd_43 (Or.inl rfl) rfl rfl rfl rfl (Nat.le_of_ble_eq_true rfl) (hP.2.2.2.1 ▸ c_7.2) (by rw [eσ_8]; exact xP_2_5 _ c_7.1) (by rw [eσ_8]; exact xPut_I) dX1_addLink_26 ?_
    exact ev_sub [] rfl (ev_X1_addLink_p29 hO hP h)
set_option maxHeartbeats 4000000 in
set_option maxRecDepth 100000 in
theorem ev_X3_readNamedLink_p93 {l : Launch} {G : xG} (hO : x_OK l G) {P : xP} (hP : x_PG P G) {a0 : Nat} {v1 : Option Nat} {v2 : Int64} {v4 : Int32} {s0 : Option Nat} {σ σ' : xS} {rr : Unit ⊕ String} (h : dm_X3_readNamedLink_p93 P a0 v1 v2 v4 s0 σ = some (rr, σ')) : Ev l G mX3_readNamedLink 93 [(0, va_rf (some a0)), (1, va_rf v1), (2, .long v2), (4, .int v4)] [va_rf s0] σ (xrV rr) σ' := by
  unfold dm_X3_readNamedLink_p93 at h
  refine ev_astore (i := 5) (lv' := [(5, va_rf s0), (0, va_rf (some a0)), (1, va_rf v1), (2, .long v2), (4, .int v4)]) dX3_readNamedLink_93 (by decide) rfl ?_
  refine ev_aload_n (j := 1) (x := (some a0)) dX3_readNamedLink_95 rfl rfl ?_
  obtain ⟨c_1, h⟩ := x_chk_e h
  refine ev_get (C := RX3) (T := TX3) (k := 0) inX3 (xE_4 c_1) rfl (by decide) wd_308 (Or.inr wd_307) rfl dX3_readNamedLink_96 ?_
  refine ev_bipush (v := 41) dX3_readNamedLink_99 (by decide) ?_
  obtain ⟨a_2, ea_2, h⟩ := x_some_e h
  refine ev_at (st' := [.int 41, va_rf (some a_2)]) rfl (by rw [ea_2]) ?_
  obtain ⟨c_6, h⟩ := x_chk_e h
  rcases x_bind_e h with ⟨v_3, σ_4, h_5, h⟩ | ⟨E_19, σ_4, h_5, h⟩
  · have z9 := x_call (M := mX3_readNamedLink) (M' := mX10_takeSign) (pc := 101) (st := [.int 41, va_rf (some a_2)]) (rest := []) (av := [va_rf (some a_2), .int 41]) (x_linkV (M := mX3_readNamedLink) (M' := mX10_takeSign) (As := [.int 41]) (index := 76) (C := RX10) (T := TX10) (xE_10 c_6) rfl wd_320 wd_321 wd_319 xw_X10_takeSign rfl (by decide) rfl rfl dX3_readNamedLink_101) (ev_X10_takeSign hO hP h_5) xw_X10_takeSign rfl wd_118 dX3_readNamedLink_101 (by decide) (by decide) (by simp [x_cat, x_catI, x_catJ])
    refine x_callR z9 ?_
    refine ev_at (st' := []) rfl rfl ?_
    refine ev_aload_n (j := 2) (x := v1) dX3_readNamedLink_104 rfl rfl ?_
    obtain ⟨c_7, h⟩ := x_chk_e h
    obtain ⟨σ_8, eσ_8, h⟩ := x_let_e h
    refine ev_new (C := RX2) (T := TX2) (N := 3) (ci := 2) inX2 tyX2 tyX2_ok rfl (by decide) wd_465 wd_466 wd_467 (hP.2.1 ▸ c_7.1) (hP.2.2.1 ▸ c_7.2) (nE_3 _ _) nF_3 dX3_readNamedLink_105 (eσ_8 ▸ ?_)
    refine ev_dup dX3_readNamedLink_108 (x_cat _) ?_
    refine ev_lload_n (j := 3) (x := v2) dX3_readNamedLink_109 rfl rfl ?_
    refine ev_iload (j := 4) (x := v4) dX3_readNamedLink_110 rfl ?_
    refine ev_aload (j := 0) (x := s0) dX3_readNamedLink_112 rfl ?_
    rcases x_bind_e h with ⟨v_9, σ_10, h_11, h⟩ | ⟨E_18, σ_10, h_11, h⟩
    · have z9 := x_call (M := mX3_readNamedLink) (M' := mX2_init) (pc := 114) (st := [va_rf s0, .int v4, .long v2, va_rf (some σ_4.sz), va_rf (some σ_4.sz), va_rf v1]) (rest := [va_rf (some σ_4.sz), va_rf v1]) (av := [va_rf (some σ_4.sz), .long v2, .int v4, va_rf s0]) (x_linkI (M := mX3_readNamedLink) (M' := mX2_init) (As := [.long v2, .int v4, va_rf s0]) (index := 164) (b := σ_4.sz) rfl wd_469 wd_470 wd_468 (by decide) rfl rfl dX3_readNamedLink_114) (ev_X2_init hO hP h_11) xw_X2_init rfl wd_467 dX3_readNamedLink_114 (by decide) (by decide) (by simp [x_cat, x_catI, x_catJ])
      refine x_callR z9 ?_
      refine ev_at (st' := [va_rf (some σ_4.sz), va_rf v1]) rfl rfl ?_
      obtain ⟨a_12, ea_12, h⟩ := x_some_e h
      refine ev_at (st' := [va_rf (some σ_4.sz), va_rf (some a_12)]) rfl (by rw [ea_12]) ?_
      obtain ⟨c_16, h⟩ := x_chk_e h
      rcases x_bind_e h with ⟨v_13, σ_14, h_15, h⟩ | ⟨E_17, σ_14, h_15, h⟩
      · have z9 := x_call (M := mX3_readNamedLink) (M' := mX1_addLink) (pc := 117) (st := [va_rf (some σ_4.sz), va_rf (some a_12)]) (rest := []) (av := [va_rf (some a_12), va_rf (some σ_4.sz)]) (x_linkV (M := mX3_readNamedLink) (M' := mX1_addLink) (As := [va_rf (some σ_4.sz)]) (index := 167) (C := RX1) (T := TX1) (xE_2 c_16) rfl wd_473 wd_474 wd_472 xw_X1_addLink rfl (by decide) rfl rfl dX3_readNamedLink_117) (ev_X1_addLink hO hP h_15) xw_X1_addLink rfl wd_53 dX3_readNamedLink_117 (by decide) (by decide) (by simp [x_cat, x_catI, x_catJ])
        refine x_callR z9 ?_
        refine ev_at (st' := []) rfl rfl ?_
        cases h
        exact ev_vret rfl dX3_readNamedLink_120
      · have z9 := x_call (M := mX3_readNamedLink) (M' := mX1_addLink) (pc := 117) (st := [va_rf (some σ_4.sz), va_rf (some a_12)]) (rest := []) (av := [va_rf (some a_12), va_rf (some σ_4.sz)]) (x_linkV (M := mX3_readNamedLink) (M' := mX1_addLink) (As := [va_rf (some σ_4.sz)]) (index := 167) (C := RX1) (T := TX1) (xE_2 c_16) rfl wd_473 wd_474 wd_472 xw_X1_addLink rfl (by decide) rfl rfl dX3_readNamedLink_117) (ev_X1_addLink hO hP h_15) xw_X1_addLink rfl wd_53 dX3_readNamedLink_117 (by decide) (by decide) (by simp [x_cat, x_catI, x_catJ])
        cases h
        exact x_callX z9 (evX_out rfl)
    · have z9 := x_call (M := mX3_readNamedLink) (M' := mX2_init) (pc := 114) (st := [va_rf s0, .int v4, .long v2, va_rf (some σ_4.sz), va_rf (some σ_4.sz), va_rf v1]) (rest := [va_rf (some σ_4.sz), va_rf v1]) (av := [va_rf (some σ_4.sz), .long v2, .int v4, va_rf s0]) (x_linkI (M := mX3_readNamedLink) (M' := mX2_init) (As := [.long v2, .int v4, va_rf s0]) (index := 164) (b := σ_4.sz) rfl wd_469 wd_470 wd_468 (by decide) rfl rfl dX3_readNamedLink_114) (ev_X2_init hO hP h_11) xw_X2_init rfl wd_467 dX3_readNamedLink_114 (by decide) (by decide) (by simp [x_cat, x_catI, x_catJ])
      cases h
      exact x_callX z9 (evX_out rfl)
  · have z9 := x_call (M := mX3_readNamedLink) (M' := mX10_takeSign) (pc := 101) (st := [.int 41, va_rf (some a_2)]) (rest := []) (av := [va_rf (some a_2), .int 41]) (x_linkV (M := mX3_readNamedLink) (M' := mX10_takeSign) (As := [.int 41]) (index := 76) (C := RX10) (T := TX10) (xE_10 c_6) rfl wd_320 wd_321 wd_319 xw_X10_takeSign rfl (by decide) rfl rfl dX3_readNamedLink_101) (ev_X10_takeSign hO hP h_5) xw_X10_takeSign rfl wd_118 dX3_readNamedLink_101 (by decide) (by decide) (by simp [x_cat, x_catI, x_catJ])
    cases h
    exact x_callX z9 (evX_out rfl)
set_option maxHeartbeats 4000000 in
set_option maxRecDepth 100000 in
theorem ev_X3_readNamedLink_p45 {l : Launch} {G : xG} (hO : x_OK l G) {P : xP} (hP : x_PG P G) {a0 : Nat} {v1 : Option Nat} {v2 : Int64} {s0 : Option Nat} {s1 : Int32} {σ σ' : xS} {rr : Unit ⊕ String} (h : dm_X3_readNamedLink_p45 P a0 v1 v2 s0 s1 σ = some (rr, σ')) : Ev l G mX3_readNamedLink 45 [(0, va_rf (some a0)), (1, va_rf v1), (2, .long v2)] [.int s1, va_rf s0] σ (xrV rr) σ' := by
  unfold dm_X3_readNamedLink_p45 at h
  obtain ⟨a_1, ea_1, h⟩ := x_some_e h
  refine ev_at (st' := [.int s1, va_rf (some a_1)]) rfl (by rw [ea_1]) ?_
  obtain ⟨c_5, h⟩ := x_chk_e h
  rcases x_bind_e h with ⟨v_2, σ_3, h_4, h⟩ | ⟨E_40, σ_3, h_4, h⟩
  · have z9 := x_call (M := mX3_readNamedLink) (M' := mX10_refuseIf) (pc := 45) (st := [.int s1, va_rf (some a_1)]) (rest := []) (av := [va_rf (some a_1), .int s1]) (x_linkV (M := mX3_readNamedLink) (M' := mX10_refuseIf) (As := [.int s1]) (index := 55) (C := RX10) (T := TX10) (xE_10 c_5) rfl wd_333 wd_243 wd_241 xw_X10_refuseIf rfl (by decide) rfl rfl dX3_readNamedLink_45) (ev_X10_refuseIf hO hP h_4) xw_X10_refuseIf rfl wd_118 dX3_readNamedLink_45 (by decide) (by decide) (by simp [x_cat, x_catI, x_catJ])
    refine x_callR z9 ?_
    refine ev_at (st' := []) rfl rfl ?_
    refine ev_aload_n (j := 0) (x := (some a0)) dX3_readNamedLink_48 rfl rfl ?_
    obtain ⟨c_6, h⟩ := x_chk_e h
    refine ev_get (C := RX3) (T := TX3) (k := 0) inX3 (xE_4 c_6) rfl (by decide) wd_308 (Or.inr wd_307) rfl dX3_readNamedLink_49 ?_
    obtain ⟨a_7, ea_7, h⟩ := x_some_e h
    refine ev_at (st' := [va_rf (some a_7)]) rfl (by rw [ea_7]) ?_
    obtain ⟨c_11, h⟩ := x_chk_e h
    rcases x_bind_e h with ⟨v_8, σ_9, h_10, h⟩ | ⟨E_39, σ_9, h_10, h⟩
    · have z9 := x_call (M := mX3_readNamedLink) (M' := mX10_place) (pc := 52) (st := [va_rf (some a_7)]) (rest := []) (av := [va_rf (some a_7)]) (x_linkV (M := mX3_readNamedLink) (M' := mX10_place) (As := []) (index := 155) (C := RX10) (T := TX10) (xE_10 c_11) rfl wd_396 wd_290 wd_288 xw_X10_place rfl (by decide) rfl rfl dX3_readNamedLink_52) (ev_X10_place hO hP h_10) xw_X10_place rfl wd_118 dX3_readNamedLink_52 (by decide) (by decide) (by simp [x_cat, x_catI, x_catJ])
      refine x_callR z9 ?_
      refine ev_at (st' := [.int v_8]) rfl rfl ?_
      refine ev_istore (i := 4) (lv' := [(4, .int v_8), (0, va_rf (some a0)), (1, va_rf v1), (2, .long v2)]) dX3_readNamedLink_55 (by decide) rfl ?_
      refine ev_aload_n (j := 1) (x := (some a0)) dX3_readNamedLink_57 rfl rfl ?_
      obtain ⟨c_12, h⟩ := x_chk_e h
      refine ev_get (C := RX3) (T := TX3) (k := 0) inX3 (xE_4 c_12) rfl (by decide) wd_308 (Or.inr wd_307) rfl dX3_readNamedLink_58 ?_
      obtain ⟨a_13, ea_13, h⟩ := x_some_e h
      refine ev_at (st' := [va_rf (some a_13)]) rfl (by rw [ea_13]) ?_
      obtain ⟨c_17, h⟩ := x_chk_e h
      rcases x_bind_e h with ⟨v_14, σ_15, h_16, h⟩ | ⟨E_38, σ_15, h_16, h⟩
      · have z9 := x_call (M := mX3_readNamedLink) (M' := mX10_step) (pc := 61) (st := [va_rf (some a_13)]) (rest := []) (av := [va_rf (some a_13)]) (x_linkV (M := mX3_readNamedLink) (M' := mX10_step) (As := []) (index := 58) (C := RX10) (T := TX10) (xE_10 c_17) rfl wd_344 wd_247 wd_245 xw_X10_step rfl (by decide) rfl rfl dX3_readNamedLink_61) (ev_X10_step hO hP h_16) xw_X10_step rfl wd_118 dX3_readNamedLink_61 (by decide) (by decide) (by simp [x_cat, x_catI, x_catJ])
        refine x_callR z9 ?_
        refine ev_at (st' := []) rfl rfl ?_
        refine ev_aload_n (j := 1) (x := (some a0)) dX3_readNamedLink_64 rfl rfl ?_
        obtain ⟨c_18, h⟩ := x_chk_e h
        refine ev_get (C := RX3) (T := TX3) (k := 0) inX3 (xE_4 c_18) rfl (by decide) wd_308 (Or.inr wd_307) rfl dX3_readNamedLink_65 ?_
        refine ev_bipush (v := 40) dX3_readNamedLink_68 (by decide) ?_
        obtain ⟨a_19, ea_19, h⟩ := x_some_e h
        refine ev_at (st' := [.int 40, va_rf (some a_19)]) rfl (by rw [ea_19]) ?_
        obtain ⟨c_23, h⟩ := x_chk_e h
        rcases x_bind_e h with ⟨v_20, σ_21, h_22, h⟩ | ⟨E_37, σ_21, h_22, h⟩
        · have z9 := x_call (M := mX3_readNamedLink) (M' := mX10_takeSign) (pc := 70) (st := [.int 40, va_rf (some a_19)]) (rest := []) (av := [va_rf (some a_19), .int 40]) (x_linkV (M := mX3_readNamedLink) (M' := mX10_takeSign) (As := [.int 40]) (index := 76) (C := RX10) (T := TX10) (xE_10 c_23) rfl wd_320 wd_321 wd_319 xw_X10_takeSign rfl (by decide) rfl rfl dX3_readNamedLink_70) (ev_X10_takeSign hO hP h_22) xw_X10_takeSign rfl wd_118 dX3_readNamedLink_70 (by decide) (by decide) (by simp [x_cat, x_catI, x_catJ])
          refine x_callR z9 ?_
          refine ev_at (st' := []) rfl rfl ?_
          refine ev_aload_n (j := 1) (x := (some a0)) dX3_readNamedLink_73 rfl rfl ?_
          obtain ⟨c_24, h⟩ := x_chk_e h
          refine ev_get (C := RX3) (T := TX3) (k := 0) inX3 (xE_4 c_24) rfl (by decide) wd_308 (Or.inr wd_307) rfl dX3_readNamedLink_74 ?_
          refine ev_bipush (v := 41) dX3_readNamedLink_77 (by decide) ?_
          obtain ⟨a_25, ea_25, h⟩ := x_some_e h
          refine ev_at (st' := [.int 41, va_rf (some a_25)]) rfl (by rw [ea_25]) ?_
          obtain ⟨c_29, h⟩ := x_chk_e h
          rcases x_bind_e h with ⟨v_26, σ_27, h_28, h⟩ | ⟨E_36, σ_27, h_28, h⟩
          · have z9 := x_call (M := mX3_readNamedLink) (M' := mX10_isSign) (pc := 79) (st := [.int 41, va_rf (some a_25)]) (rest := []) (av := [va_rf (some a_25), .int 41]) (x_linkV (M := mX3_readNamedLink) (M' := mX10_isSign) (As := [.int 41]) (index := 80) (C := RX10) (T := TX10) (xE_10 c_29) rfl wd_324 wd_325 wd_323 xw_X10_isSign rfl (by decide) rfl rfl dX3_readNamedLink_79) (ev_X10_isSign hO hP h_28) xw_X10_isSign rfl wd_118 dX3_readNamedLink_79 (by decide) (by decide) (by simp [x_cat, x_catI, x_catJ])
            refine x_callR z9 ?_
            refine ev_at (st' := [.int v_26]) rfl rfl ?_
            by_cases c_30 : v_26 = 0
            · rw [if_pos c_30] at h
              refine ev_if_eq (x := v_26) (tgt := 89) dX3_readNamedLink_82 (by decide) (fun _ => ?_) (fun q9 => absurd c_30 q9)
              refine ev_aload_n (j := 1) (x := (some a0)) dX3_readNamedLink_89 rfl rfl ?_
              obtain ⟨c_34, h⟩ := x_chk_e h
              rcases x_bind_e h with ⟨v_31, σ_32, h_33, h⟩ | ⟨E_35, σ_32, h_33, h⟩
              · have z9 := x_call (M := mX3_readNamedLink) (M' := mX3_readPart) (pc := 90) (st := [va_rf (some a0)]) (rest := []) (av := [va_rf (some a0)]) (x_linkV (M := mX3_readNamedLink) (M' := mX3_readPart) (As := []) (index := 158) (C := RX3) (T := TX3) (xE_4 c_34) rfl wd_464 wd_418 wd_463 xw_X3_readPart rfl (by decide) rfl rfl dX3_readNamedLink_90) (ev_X3_readPart hO hP h_33) xw_X3_readPart rfl wd_124 dX3_readNamedLink_90 (by decide) (by decide) (by simp [x_cat, x_catI, x_catJ])
                refine x_callR z9 ?_
                refine ev_at (st' := [va_rf v_31]) rfl rfl ?_
                exact ev_sub [1, 2, 3, 0] rfl (ev_X3_readNamedLink_p93 hO hP h)
              · have z9 := x_call (M := mX3_readNamedLink) (M' := mX3_readPart) (pc := 90) (st := [va_rf (some a0)]) (rest := []) (av := [va_rf (some a0)]) (x_linkV (M := mX3_readNamedLink) (M' := mX3_readPart) (As := []) (index := 158) (C := RX3) (T := TX3) (xE_4 c_34) rfl wd_464 wd_418 wd_463 xw_X3_readPart rfl (by decide) rfl rfl dX3_readNamedLink_90) (ev_X3_readPart hO hP h_33) xw_X3_readPart rfl wd_124 dX3_readNamedLink_90 (by decide) (by decide) (by simp [x_cat, x_catI, x_catJ])
                cases h
                exact x_callX z9 (evX_out rfl)
            · rw [if_neg c_30] at h
              refine ev_if_eq (x := v_26) (tgt := 89) dX3_readNamedLink_82 (by decide) (fun q9 => absurd q9 c_30) (fun _ => ?_)
              refine ev_null dX3_readNamedLink_85 ?_
              refine ev_goto (tgt := 93) dX3_readNamedLink_86 (by decide) ?_
              exact ev_sub [1, 2, 3, 0] rfl (ev_X3_readNamedLink_p93 hO hP h)
          · have z9 := x_call (M := mX3_readNamedLink) (M' := mX10_isSign) (pc := 79) (st := [.int 41, va_rf (some a_25)]) (rest := []) (av := [va_rf (some a_25), .int 41]) (x_linkV (M := mX3_readNamedLink) (M' := mX10_isSign) (As := [.int 41]) (index := 80) (C := RX10) (T := TX10) (xE_10 c_29) rfl wd_324 wd_325 wd_323 xw_X10_isSign rfl (by decide) rfl rfl dX3_readNamedLink_79) (ev_X10_isSign hO hP h_28) xw_X10_isSign rfl wd_118 dX3_readNamedLink_79 (by decide) (by decide) (by simp [x_cat, x_catI, x_catJ])
            cases h
            exact x_callX z9 (evX_out rfl)
        · have z9 := x_call (M := mX3_readNamedLink) (M' := mX10_takeSign) (pc := 70) (st := [.int 40, va_rf (some a_19)]) (rest := []) (av := [va_rf (some a_19), .int 40]) (x_linkV (M := mX3_readNamedLink) (M' := mX10_takeSign) (As := [.int 40]) (index := 76) (C := RX10) (T := TX10) (xE_10 c_23) rfl wd_320 wd_321 wd_319 xw_X10_takeSign rfl (by decide) rfl rfl dX3_readNamedLink_70) (ev_X10_takeSign hO hP h_22) xw_X10_takeSign rfl wd_118 dX3_readNamedLink_70 (by decide) (by decide) (by simp [x_cat, x_catI, x_catJ])
          cases h
          exact x_callX z9 (evX_out rfl)
      · have z9 := x_call (M := mX3_readNamedLink) (M' := mX10_step) (pc := 61) (st := [va_rf (some a_13)]) (rest := []) (av := [va_rf (some a_13)]) (x_linkV (M := mX3_readNamedLink) (M' := mX10_step) (As := []) (index := 58) (C := RX10) (T := TX10) (xE_10 c_17) rfl wd_344 wd_247 wd_245 xw_X10_step rfl (by decide) rfl rfl dX3_readNamedLink_61) (ev_X10_step hO hP h_16) xw_X10_step rfl wd_118 dX3_readNamedLink_61 (by decide) (by decide) (by simp [x_cat, x_catI, x_catJ])
        cases h
        exact x_callX z9 (evX_out rfl)
    · have z9 := x_call (M := mX3_readNamedLink) (M' := mX10_place) (pc := 52) (st := [va_rf (some a_7)]) (rest := []) (av := [va_rf (some a_7)]) (x_linkV (M := mX3_readNamedLink) (M' := mX10_place) (As := []) (index := 155) (C := RX10) (T := TX10) (xE_10 c_11) rfl wd_396 wd_290 wd_288 xw_X10_place rfl (by decide) rfl rfl dX3_readNamedLink_52) (ev_X10_place hO hP h_10) xw_X10_place rfl wd_118 dX3_readNamedLink_52 (by decide) (by decide) (by simp [x_cat, x_catI, x_catJ])
      cases h
      exact x_callX z9 (evX_out rfl)
  · have z9 := x_call (M := mX3_readNamedLink) (M' := mX10_refuseIf) (pc := 45) (st := [.int s1, va_rf (some a_1)]) (rest := []) (av := [va_rf (some a_1), .int s1]) (x_linkV (M := mX3_readNamedLink) (M' := mX10_refuseIf) (As := [.int s1]) (index := 55) (C := RX10) (T := TX10) (xE_10 c_5) rfl wd_333 wd_243 wd_241 xw_X10_refuseIf rfl (by decide) rfl rfl dX3_readNamedLink_45) (ev_X10_refuseIf hO hP h_4) xw_X10_refuseIf rfl wd_118 dX3_readNamedLink_45 (by decide) (by decide) (by simp [x_cat, x_catI, x_catJ])
    cases h
    exact x_callX z9 (evX_out rfl)
set_option maxHeartbeats 4000000 in
set_option maxRecDepth 100000 in
theorem ev_X3_readNamedLink {l : Launch} {G : xG} (hO : x_OK l G) {P : xP} (hP : x_PG P G) {a0 : Nat} {v1 : Option Nat} {σ σ' : xS} {rr : Unit ⊕ String} (h : dm_X3_readNamedLink P a0 v1 σ = some (rr, σ')) : EvM l G mX3_readNamedLink [va_rf (some a0), va_rf v1] σ (xrV rr) σ' := by
  unfold dm_X3_readNamedLink at h
  refine evM_of hO (by decide +kernel) (x_lenI (by simp [x_cat, x_catI, x_catJ, mX3_readNamedLink, xM.maxL])) ?_
  refine Eq.mp (congrArg (fun z => Ev l G mX3_readNamedLink 0 z [] σ (xrV rr) σ') (show [(0, va_rf (some a0)), (1, va_rf v1)] = lv_args 0 [va_rf (some a0), va_rf v1] by simp [lv_args, x_cat, x_catI, x_catJ])) ?_
  refine ev_aload_n (j := 0) (x := (some a0)) dX3_readNamedLink_0 rfl rfl ?_
  obtain ⟨c_1, h⟩ := x_chk_e h
  refine ev_get (C := RX3) (T := TX3) (k := 0) inX3 (xE_4 c_1) rfl (by decide) wd_308 (Or.inr wd_307) rfl dX3_readNamedLink_1 ?_
  refine ev_aload_n (j := 1) (x := v1) dX3_readNamedLink_4 rfl rfl ?_
  obtain ⟨a_2, ea_2, h⟩ := x_some_e h
  refine ev_at (st' := [va_rf (some a_2), va_rf (σ.R 300 a0)]) rfl (by rw [ea_2]) ?_
  obtain ⟨c_6, h⟩ := x_chk_e h
  rcases x_bind_e h with ⟨v_3, σ_4, h_5, h⟩ | ⟨E_34, σ_4, h_5, h⟩
  · have z9 := x_call (M := mX3_readNamedLink) (M' := mX1_isFull) (pc := 5) (st := [va_rf (some a_2), va_rf (σ.R 300 a0)]) (rest := [va_rf (σ.R 300 a0)]) (av := [va_rf (some a_2)]) (x_linkV (M := mX3_readNamedLink) (M' := mX1_isFull) (As := []) (index := 148) (C := RX1) (T := TX1) (xE_2 c_6) rfl wd_460 wd_461 wd_459 xw_X1_isFull rfl (by decide) rfl rfl dX3_readNamedLink_5) (ev_X1_isFull hO hP h_5) xw_X1_isFull rfl wd_53 dX3_readNamedLink_5 (by decide) (by decide) (by simp [x_cat, x_catI, x_catJ])
    refine x_callR z9 ?_
    refine ev_at (st' := [.int v_3, va_rf (σ.R 300 a0)]) rfl rfl ?_
    obtain ⟨a_7, ea_7, h⟩ := x_some_e h
    refine ev_at (st' := [.int v_3, va_rf (some a_7)]) rfl (by rw [ea_7]) ?_
    obtain ⟨c_11, h⟩ := x_chk_e h
    rcases x_bind_e h with ⟨v_8, σ_9, h_10, h⟩ | ⟨E_33, σ_9, h_10, h⟩
    · have z9 := x_call (M := mX3_readNamedLink) (M' := mX10_refuseIf) (pc := 8) (st := [.int v_3, va_rf (some a_7)]) (rest := []) (av := [va_rf (some a_7), .int v_3]) (x_linkV (M := mX3_readNamedLink) (M' := mX10_refuseIf) (As := [.int v_3]) (index := 55) (C := RX10) (T := TX10) (xE_10 c_11) rfl wd_333 wd_243 wd_241 xw_X10_refuseIf rfl (by decide) rfl rfl dX3_readNamedLink_8) (ev_X10_refuseIf hO hP h_10) xw_X10_refuseIf rfl wd_118 dX3_readNamedLink_8 (by decide) (by decide) (by simp [x_cat, x_catI, x_catJ])
      refine x_callR z9 ?_
      refine ev_at (st' := []) rfl rfl ?_
      refine ev_aload_n (j := 0) (x := (some a0)) dX3_readNamedLink_11 rfl rfl ?_
      obtain ⟨c_12, h⟩ := x_chk_e h
      refine ev_get (C := RX3) (T := TX3) (k := 0) inX3 (xE_4 c_12) rfl (by decide) wd_308 (Or.inr wd_307) rfl dX3_readNamedLink_12 ?_
      refine ev_bipush (v := 46) dX3_readNamedLink_15 (by decide) ?_
      obtain ⟨a_13, ea_13, h⟩ := x_some_e h
      refine ev_at (st' := [.int 46, va_rf (some a_13)]) rfl (by rw [ea_13]) ?_
      obtain ⟨c_17, h⟩ := x_chk_e h
      rcases x_bind_e h with ⟨v_14, σ_15, h_16, h⟩ | ⟨E_32, σ_15, h_16, h⟩
      · have z9 := x_call (M := mX3_readNamedLink) (M' := mX10_takeSign) (pc := 17) (st := [.int 46, va_rf (some a_13)]) (rest := []) (av := [va_rf (some a_13), .int 46]) (x_linkV (M := mX3_readNamedLink) (M' := mX10_takeSign) (As := [.int 46]) (index := 76) (C := RX10) (T := TX10) (xE_10 c_17) rfl wd_320 wd_321 wd_319 xw_X10_takeSign rfl (by decide) rfl rfl dX3_readNamedLink_17) (ev_X10_takeSign hO hP h_16) xw_X10_takeSign rfl wd_118 dX3_readNamedLink_17 (by decide) (by decide) (by simp [x_cat, x_catI, x_catJ])
        refine x_callR z9 ?_
        refine ev_at (st' := []) rfl rfl ?_
        refine ev_aload_n (j := 0) (x := (some a0)) dX3_readNamedLink_20 rfl rfl ?_
        obtain ⟨c_18, h⟩ := x_chk_e h
        refine ev_get (C := RX3) (T := TX3) (k := 0) inX3 (xE_4 c_18) rfl (by decide) wd_308 (Or.inr wd_307) rfl dX3_readNamedLink_21 ?_
        obtain ⟨a_19, ea_19, h⟩ := x_some_e h
        refine ev_at (st' := [va_rf (some a_19)]) rfl (by rw [ea_19]) ?_
        obtain ⟨c_23, h⟩ := x_chk_e h
        rcases x_bind_e h with ⟨v_20, σ_21, h_22, h⟩ | ⟨E_31, σ_21, h_22, h⟩
        · have z9 := x_call (M := mX3_readNamedLink) (M' := mX10_name) (pc := 24) (st := [va_rf (some a_19)]) (rest := []) (av := [va_rf (some a_19)]) (x_linkV (M := mX3_readNamedLink) (M' := mX10_name) (As := []) (index := 84) (C := RX10) (T := TX10) (xE_10 c_23) rfl wd_326 wd_281 wd_279 xw_X10_name rfl (by decide) rfl rfl dX3_readNamedLink_24) (ev_X10_name hO hP h_22) xw_X10_name rfl wd_118 dX3_readNamedLink_24 (by decide) (by decide) (by simp [x_cat, x_catI, x_catJ])
          refine x_callR z9 ?_
          refine ev_at (st' := [.long v_20]) rfl rfl ?_
          refine ev_lstore_n (i := 2) (lv' := [(2, .long v_20), (0, va_rf (some a0)), (1, va_rf v1)]) dX3_readNamedLink_27 rfl (by decide) (by simp [x_cat, x_catI, x_catJ]) ?_
          refine ev_aload_n (j := 1) (x := (some a0)) dX3_readNamedLink_28 rfl rfl ?_
          obtain ⟨c_24, h⟩ := x_chk_e h
          refine ev_get (C := RX3) (T := TX3) (k := 0) inX3 (xE_4 c_24) rfl (by decide) wd_308 (Or.inr wd_307) rfl dX3_readNamedLink_29 ?_
          refine ev_aload_n (j := 2) (x := v1) dX3_readNamedLink_32 rfl rfl ?_
          refine ev_lload_n (j := 0) (x := v_20) dX3_readNamedLink_33 rfl rfl ?_
          refine ev_at (st' := [.long v_20, va_rf (some a_2), va_rf (σ_21.R 300 a0)]) rfl (by rw [ea_2]) ?_
          obtain ⟨c_28, h⟩ := x_chk_e h
          rcases x_bind_e h with ⟨v_25, σ_26, h_27, h⟩ | ⟨E_30, σ_26, h_27, h⟩
          · have z9 := x_call (M := mX3_readNamedLink) (M' := mX1_linkTo) (pc := 34) (st := [.long v_20, va_rf (some a_2), va_rf (σ_21.R 300 a0)]) (rest := [va_rf (σ_21.R 300 a0)]) (av := [va_rf (some a_2), .long v_20]) (x_linkV (M := mX3_readNamedLink) (M' := mX1_linkTo) (As := [.long v_20]) (index := 151) (C := RX1) (T := TX1) (xE_2 c_28) rfl wd_462 wd_71 wd_69 xw_X1_linkTo rfl (by decide) rfl rfl dX3_readNamedLink_34) (ev_X1_linkTo hO hP h_27) xw_X1_linkTo rfl wd_53 dX3_readNamedLink_34 (by decide) (by decide) (by simp [x_cat, x_catI, x_catJ])
            refine x_callR z9 ?_
            refine ev_at (st' := [va_rf v_25, va_rf (σ_21.R 300 a0)]) rfl rfl ?_
            by_cases c_29 : v_25 = none
            · rw [if_pos c_29] at h
              refine ev_ifnull (x := v_25) (tgt := 44) dX3_readNamedLink_37 (by decide) (fun _ => ?_) (fun q9 => absurd c_29 q9)
              refine ev_iconst (v := 0) dX3_readNamedLink_44 (by decide) ?_
              exact ev_sub [1, 2, 0] rfl (ev_X3_readNamedLink_p45 hO hP h)
            · rw [if_neg c_29] at h
              refine ev_ifnull (x := v_25) (tgt := 44) dX3_readNamedLink_37 (by decide) (fun q9 => absurd q9 c_29) (fun _ => ?_)
              refine ev_iconst (v := 1) dX3_readNamedLink_40 (by decide) ?_
              refine ev_goto (tgt := 45) dX3_readNamedLink_41 (by decide) ?_
              exact ev_sub [1, 2, 0] rfl (ev_X3_readNamedLink_p45 hO hP h)
          · have z9 := x_call (M := mX3_readNamedLink) (M' := mX1_linkTo) (pc := 34) (st := [.long v_20, va_rf (some a_2), va_rf (σ_21.R 300 a0)]) (rest := [va_rf (σ_21.R 300 a0)]) (av := [va_rf (some a_2), .long v_20]) (x_linkV (M := mX3_readNamedLink) (M' := mX1_linkTo) (As := [.long v_20]) (index := 151) (C := RX1) (T := TX1) (xE_2 c_28) rfl wd_462 wd_71 wd_69 xw_X1_linkTo rfl (by decide) rfl rfl dX3_readNamedLink_34) (ev_X1_linkTo hO hP h_27) xw_X1_linkTo rfl wd_53 dX3_readNamedLink_34 (by decide) (by decide) (by simp [x_cat, x_catI, x_catJ])
            cases h
            exact x_callX z9 (evX_out rfl)
        · have z9 := x_call (M := mX3_readNamedLink) (M' := mX10_name) (pc := 24) (st := [va_rf (some a_19)]) (rest := []) (av := [va_rf (some a_19)]) (x_linkV (M := mX3_readNamedLink) (M' := mX10_name) (As := []) (index := 84) (C := RX10) (T := TX10) (xE_10 c_23) rfl wd_326 wd_281 wd_279 xw_X10_name rfl (by decide) rfl rfl dX3_readNamedLink_24) (ev_X10_name hO hP h_22) xw_X10_name rfl wd_118 dX3_readNamedLink_24 (by decide) (by decide) (by simp [x_cat, x_catI, x_catJ])
          cases h
          exact x_callX z9 (evX_out rfl)
      · have z9 := x_call (M := mX3_readNamedLink) (M' := mX10_takeSign) (pc := 17) (st := [.int 46, va_rf (some a_13)]) (rest := []) (av := [va_rf (some a_13), .int 46]) (x_linkV (M := mX3_readNamedLink) (M' := mX10_takeSign) (As := [.int 46]) (index := 76) (C := RX10) (T := TX10) (xE_10 c_17) rfl wd_320 wd_321 wd_319 xw_X10_takeSign rfl (by decide) rfl rfl dX3_readNamedLink_17) (ev_X10_takeSign hO hP h_16) xw_X10_takeSign rfl wd_118 dX3_readNamedLink_17 (by decide) (by decide) (by simp [x_cat, x_catI, x_catJ])
        cases h
        exact x_callX z9 (evX_out rfl)
    · have z9 := x_call (M := mX3_readNamedLink) (M' := mX10_refuseIf) (pc := 8) (st := [.int v_3, va_rf (some a_7)]) (rest := []) (av := [va_rf (some a_7), .int v_3]) (x_linkV (M := mX3_readNamedLink) (M' := mX10_refuseIf) (As := [.int v_3]) (index := 55) (C := RX10) (T := TX10) (xE_10 c_11) rfl wd_333 wd_243 wd_241 xw_X10_refuseIf rfl (by decide) rfl rfl dX3_readNamedLink_8) (ev_X10_refuseIf hO hP h_10) xw_X10_refuseIf rfl wd_118 dX3_readNamedLink_8 (by decide) (by decide) (by simp [x_cat, x_catI, x_catJ])
      cases h
      exact x_callX z9 (evX_out rfl)
  · have z9 := x_call (M := mX3_readNamedLink) (M' := mX1_isFull) (pc := 5) (st := [va_rf (some a_2), va_rf (σ.R 300 a0)]) (rest := [va_rf (σ.R 300 a0)]) (av := [va_rf (some a_2)]) (x_linkV (M := mX3_readNamedLink) (M' := mX1_isFull) (As := []) (index := 148) (C := RX1) (T := TX1) (xE_2 c_6) rfl wd_460 wd_461 wd_459 xw_X1_isFull rfl (by decide) rfl rfl dX3_readNamedLink_5) (ev_X1_isFull hO hP h_5) xw_X1_isFull rfl wd_53 dX3_readNamedLink_5 (by decide) (by decide) (by simp [x_cat, x_catI, x_catJ])
    cases h
    exact x_callX z9 (evX_out rfl)
set_option maxHeartbeats 4000000 in
set_option maxRecDepth 100000 in
theorem ev_X8_readOrderedLink_p39 {l : Launch} {G : xG} (hO : x_OK l G) {P : xP} (hP : x_PG P G) {a0 : Nat} {v1 : Option Nat} {v2 : Int32} {s0 : Option Nat} {σ σ' : xS} {rr : Unit ⊕ String} (h : dm_X8_readOrderedLink_p39 P a0 v1 v2 s0 σ = some (rr, σ')) : Ev l G mX8_readOrderedLink 39 [(1, va_rf v1), (2, .int v2)] [va_rf s0] σ (xrV rr) σ' := by
  unfold dm_X8_readOrderedLink_p39 at h
  refine ev_astore_n (i := 3) (lv' := [(3, va_rf s0), (1, va_rf v1), (2, .int v2)]) dX8_readOrderedLink_39 rfl (by decide) rfl ?_
  refine ev_aload_n (j := 1) (x := v1) dX8_readOrderedLink_40 rfl rfl ?_
  obtain ⟨c_1, h⟩ := x_chk_e h
  obtain ⟨σ_2, eσ_2, h⟩ := x_let_e h
  refine ev_new (C := RX2) (T := TX2) (N := 3) (ci := 2) inX2 tyX2 tyX2_ok rfl (by decide) wd_476 wd_466 wd_467 (hP.2.1 ▸ c_1.1) (hP.2.2.1 ▸ c_1.2) (nE_3 _ _) nF_3 dX8_readOrderedLink_41 (eσ_2 ▸ ?_)
  refine ev_dup dX8_readOrderedLink_44 (x_cat _) ?_
  refine ev_lconst (v := 0) dX8_readOrderedLink_45 (by decide) ?_
  refine ev_iload_n (j := 2) (x := v2) dX8_readOrderedLink_46 rfl rfl ?_
  refine ev_aload_n (j := 0) (x := s0) dX8_readOrderedLink_47 rfl rfl ?_
  rcases x_bind_e h with ⟨v_3, σ_4, h_5, h⟩ | ⟨E_12, σ_4, h_5, h⟩
  · have z9 := x_call (M := mX8_readOrderedLink) (M' := mX2_init) (pc := 48) (st := [va_rf s0, .int v2, .long 0, va_rf (some σ.sz), va_rf (some σ.sz), va_rf v1]) (rest := [va_rf (some σ.sz), va_rf v1]) (av := [va_rf (some σ.sz), .long 0, .int v2, va_rf s0]) (x_linkI (M := mX8_readOrderedLink) (M' := mX2_init) (As := [.long 0, .int v2, va_rf s0]) (index := 107) (b := σ.sz) rfl wd_477 wd_470 wd_468 (by decide) rfl rfl dX8_readOrderedLink_48) (ev_X2_init hO hP h_5) xw_X2_init rfl wd_467 dX8_readOrderedLink_48 (by decide) (by decide) (by simp [x_cat, x_catI, x_catJ])
    refine x_callR z9 ?_
    refine ev_at (st' := [va_rf (some σ.sz), va_rf v1]) rfl rfl ?_
    obtain ⟨a_6, ea_6, h⟩ := x_some_e h
    refine ev_at (st' := [va_rf (some σ.sz), va_rf (some a_6)]) rfl (by rw [ea_6]) ?_
    obtain ⟨c_10, h⟩ := x_chk_e h
    rcases x_bind_e h with ⟨v_7, σ_8, h_9, h⟩ | ⟨E_11, σ_8, h_9, h⟩
    · have z9 := x_call (M := mX8_readOrderedLink) (M' := mX1_addLink) (pc := 51) (st := [va_rf (some σ.sz), va_rf (some a_6)]) (rest := []) (av := [va_rf (some a_6), va_rf (some σ.sz)]) (x_linkV (M := mX8_readOrderedLink) (M' := mX1_addLink) (As := [va_rf (some σ.sz)]) (index := 110) (C := RX1) (T := TX1) (xE_2 c_10) rfl wd_478 wd_474 wd_472 xw_X1_addLink rfl (by decide) rfl rfl dX8_readOrderedLink_51) (ev_X1_addLink hO hP h_9) xw_X1_addLink rfl wd_53 dX8_readOrderedLink_51 (by decide) (by decide) (by simp [x_cat, x_catI, x_catJ])
      refine x_callR z9 ?_
      refine ev_at (st' := []) rfl rfl ?_
      cases h
      exact ev_vret rfl dX8_readOrderedLink_54
    · have z9 := x_call (M := mX8_readOrderedLink) (M' := mX1_addLink) (pc := 51) (st := [va_rf (some σ.sz), va_rf (some a_6)]) (rest := []) (av := [va_rf (some a_6), va_rf (some σ.sz)]) (x_linkV (M := mX8_readOrderedLink) (M' := mX1_addLink) (As := [va_rf (some σ.sz)]) (index := 110) (C := RX1) (T := TX1) (xE_2 c_10) rfl wd_478 wd_474 wd_472 xw_X1_addLink rfl (by decide) rfl rfl dX8_readOrderedLink_51) (ev_X1_addLink hO hP h_9) xw_X1_addLink rfl wd_53 dX8_readOrderedLink_51 (by decide) (by decide) (by simp [x_cat, x_catI, x_catJ])
      cases h
      exact x_callX z9 (evX_out rfl)
  · have z9 := x_call (M := mX8_readOrderedLink) (M' := mX2_init) (pc := 48) (st := [va_rf s0, .int v2, .long 0, va_rf (some σ.sz), va_rf (some σ.sz), va_rf v1]) (rest := [va_rf (some σ.sz), va_rf v1]) (av := [va_rf (some σ.sz), .long 0, .int v2, va_rf s0]) (x_linkI (M := mX8_readOrderedLink) (M' := mX2_init) (As := [.long 0, .int v2, va_rf s0]) (index := 107) (b := σ.sz) rfl wd_477 wd_470 wd_468 (by decide) rfl rfl dX8_readOrderedLink_48) (ev_X2_init hO hP h_5) xw_X2_init rfl wd_467 dX8_readOrderedLink_48 (by decide) (by decide) (by simp [x_cat, x_catI, x_catJ])
    cases h
    exact x_callX z9 (evX_out rfl)
set_option maxHeartbeats 4000000 in
set_option maxRecDepth 100000 in
theorem ev_X8_readOrderedLink {l : Launch} {G : xG} (hO : x_OK l G) {P : xP} (hP : x_PG P G) {a0 : Nat} {v1 : Option Nat} {σ σ' : xS} {rr : Unit ⊕ String} (h : dm_X8_readOrderedLink P a0 v1 σ = some (rr, σ')) : EvM l G mX8_readOrderedLink [va_rf (some a0), va_rf v1] σ (xrV rr) σ' := by
  unfold dm_X8_readOrderedLink at h
  refine evM_of hO (by decide +kernel) (x_lenI (by simp [x_cat, x_catI, x_catJ, mX8_readOrderedLink, xM.maxL])) ?_
  refine Eq.mp (congrArg (fun z => Ev l G mX8_readOrderedLink 0 z [] σ (xrV rr) σ') (show [(0, va_rf (some a0)), (1, va_rf v1)] = lv_args 0 [va_rf (some a0), va_rf v1] by simp [lv_args, x_cat, x_catI, x_catJ])) ?_
  refine ev_aload_n (j := 0) (x := (some a0)) dX8_readOrderedLink_0 rfl rfl ?_
  obtain ⟨c_1, h⟩ := x_chk_e h
  refine x_via (A := Ev l G mX8_readOrderedLink 4 [(0, va_rf (some a0)), (1, va_rf v1)] [va_rf (σ.R 300 a0)] σ (xrV rr) σ') (fun z9 => ?_) ?_
  · rcases c_1 with w9 | w9
    · exact ev_get (C := RX3) (T := TX3) (k := 0) inX3 (xE_4 w9) rfl (by decide) wd_100 (Or.inl rfl) rfl dX8_readOrderedLink_1 z9
    · exact ev_get (C := RX9) (T := TX9) (k := 0) inX9 (xE_9 w9) rfl (by decide) wd_100 (Or.inl rfl) rfl dX8_readOrderedLink_1 z9
  refine ev_aload_n (j := 1) (x := v1) dX8_readOrderedLink_4 rfl rfl ?_
  obtain ⟨a_2, ea_2, h⟩ := x_some_e h
  refine ev_at (st' := [va_rf (some a_2), va_rf (σ.R 300 a0)]) rfl (by rw [ea_2]) ?_
  obtain ⟨c_6, h⟩ := x_chk_e h
  rcases x_bind_e h with ⟨v_3, σ_4, h_5, h⟩ | ⟨E_33, σ_4, h_5, h⟩
  · have z9 := x_call (M := mX8_readOrderedLink) (M' := mX1_isFull) (pc := 5) (st := [va_rf (some a_2), va_rf (σ.R 300 a0)]) (rest := [va_rf (σ.R 300 a0)]) (av := [va_rf (some a_2)]) (x_linkV (M := mX8_readOrderedLink) (M' := mX1_isFull) (As := []) (index := 98) (C := RX1) (T := TX1) (xE_2 c_6) rfl wd_475 wd_461 wd_459 xw_X1_isFull rfl (by decide) rfl rfl dX8_readOrderedLink_5) (ev_X1_isFull hO hP h_5) xw_X1_isFull rfl wd_53 dX8_readOrderedLink_5 (by decide) (by decide) (by simp [x_cat, x_catI, x_catJ])
    refine x_callR z9 ?_
    refine ev_at (st' := [.int v_3, va_rf (σ.R 300 a0)]) rfl rfl ?_
    obtain ⟨a_7, ea_7, h⟩ := x_some_e h
    refine ev_at (st' := [.int v_3, va_rf (some a_7)]) rfl (by rw [ea_7]) ?_
    obtain ⟨c_11, h⟩ := x_chk_e h
    rcases x_bind_e h with ⟨v_8, σ_9, h_10, h⟩ | ⟨E_32, σ_9, h_10, h⟩
    · have z9 := x_call (M := mX8_readOrderedLink) (M' := mX10_refuseIf) (pc := 8) (st := [.int v_3, va_rf (some a_7)]) (rest := []) (av := [va_rf (some a_7), .int v_3]) (x_linkV (M := mX8_readOrderedLink) (M' := mX10_refuseIf) (As := [.int v_3]) (index := 51) (C := RX10) (T := TX10) (xE_10 c_11) rfl wd_286 wd_243 wd_241 xw_X10_refuseIf rfl (by decide) rfl rfl dX8_readOrderedLink_8) (ev_X10_refuseIf hO hP h_10) xw_X10_refuseIf rfl wd_118 dX8_readOrderedLink_8 (by decide) (by decide) (by simp [x_cat, x_catI, x_catJ])
      refine x_callR z9 ?_
      refine ev_at (st' := []) rfl rfl ?_
      refine ev_aload_n (j := 0) (x := (some a0)) dX8_readOrderedLink_11 rfl rfl ?_
      obtain ⟨c_12, h⟩ := x_chk_e h
      refine x_via (A := Ev l G mX8_readOrderedLink 15 [(0, va_rf (some a0)), (1, va_rf v1)] [va_rf (σ_9.R 300 a0)] σ_9 (xrV rr) σ') (fun z9 => ?_) ?_
      · rcases c_12 with w9 | w9
        · exact ev_get (C := RX3) (T := TX3) (k := 0) inX3 (xE_4 w9) rfl (by decide) wd_100 (Or.inl rfl) rfl dX8_readOrderedLink_12 z9
        · exact ev_get (C := RX9) (T := TX9) (k := 0) inX9 (xE_9 w9) rfl (by decide) wd_100 (Or.inl rfl) rfl dX8_readOrderedLink_12 z9
      obtain ⟨a_13, ea_13, h⟩ := x_some_e h
      refine ev_at (st' := [va_rf (some a_13)]) rfl (by rw [ea_13]) ?_
      obtain ⟨c_17, h⟩ := x_chk_e h
      rcases x_bind_e h with ⟨v_14, σ_15, h_16, h⟩ | ⟨E_31, σ_15, h_16, h⟩
      · have z9 := x_call (M := mX8_readOrderedLink) (M' := mX10_place) (pc := 15) (st := [va_rf (some a_13)]) (rest := []) (av := [va_rf (some a_13)]) (x_linkV (M := mX8_readOrderedLink) (M' := mX10_place) (As := []) (index := 34) (C := RX10) (T := TX10) (xE_10 c_17) rfl wd_289 wd_290 wd_288 xw_X10_place rfl (by decide) rfl rfl dX8_readOrderedLink_15) (ev_X10_place hO hP h_16) xw_X10_place rfl wd_118 dX8_readOrderedLink_15 (by decide) (by decide) (by simp [x_cat, x_catI, x_catJ])
        refine x_callR z9 ?_
        refine ev_at (st' := [.int v_14]) rfl rfl ?_
        refine ev_istore_n (i := 2) (lv' := [(2, .int v_14), (0, va_rf (some a0)), (1, va_rf v1)]) dX8_readOrderedLink_18 rfl (by decide) (by simp [x_cat, x_catI, x_catJ]) ?_
        refine ev_aload_n (j := 1) (x := (some a0)) dX8_readOrderedLink_19 rfl rfl ?_
        obtain ⟨c_18, h⟩ := x_chk_e h
        refine x_via (A := Ev l G mX8_readOrderedLink 23 [(2, .int v_14), (0, va_rf (some a0)), (1, va_rf v1)] [va_rf (σ_15.R 300 a0)] σ_15 (xrV rr) σ') (fun z9 => ?_) ?_
        · rcases c_18 with w9 | w9
          · exact ev_get (C := RX3) (T := TX3) (k := 0) inX3 (xE_4 w9) rfl (by decide) wd_100 (Or.inl rfl) rfl dX8_readOrderedLink_20 z9
          · exact ev_get (C := RX9) (T := TX9) (k := 0) inX9 (xE_9 w9) rfl (by decide) wd_100 (Or.inl rfl) rfl dX8_readOrderedLink_20 z9
        refine ev_bipush (v := 45) dX8_readOrderedLink_23 (by decide) ?_
        obtain ⟨a_19, ea_19, h⟩ := x_some_e h
        refine ev_at (st' := [.int 45, va_rf (some a_19)]) rfl (by rw [ea_19]) ?_
        obtain ⟨c_23, h⟩ := x_chk_e h
        rcases x_bind_e h with ⟨v_20, σ_21, h_22, h⟩ | ⟨E_30, σ_21, h_22, h⟩
        · have z9 := x_call (M := mX8_readOrderedLink) (M' := mX10_skips) (pc := 25) (st := [.int 45, va_rf (some a_19)]) (rest := []) (av := [va_rf (some a_19), .int 45]) (x_linkV (M := mX8_readOrderedLink) (M' := mX10_skips) (As := [.int 45]) (index := 101) (C := RX10) (T := TX10) (xE_10 c_23) rfl wd_380 wd_348 wd_346 xw_X10_skips rfl (by decide) rfl rfl dX8_readOrderedLink_25) (ev_X10_skips hO hP h_22) xw_X10_skips rfl wd_118 dX8_readOrderedLink_25 (by decide) (by decide) (by simp [x_cat, x_catI, x_catJ])
          refine x_callR z9 ?_
          refine ev_at (st' := [.int v_20]) rfl rfl ?_
          by_cases c_24 : v_20 = 0
          · rw [if_pos c_24] at h
            refine ev_if_eq (x := v_20) (tgt := 35) dX8_readOrderedLink_28 (by decide) (fun _ => ?_) (fun q9 => absurd c_24 q9)
            refine ev_aload_n (j := 1) (x := (some a0)) dX8_readOrderedLink_35 rfl rfl ?_
            obtain ⟨c_28, h⟩ := x_chk_e h
            rcases x_bind_e h with ⟨v_25, σ_26, h_27, h⟩ | ⟨E_29, σ_26, h_27, h⟩
            · have z9 : xCall l G mX8_readOrderedLink 36 [va_rf (some a0)] [] σ_21 (xrR (.inl v_25)) σ_26 := by
                rcases c_28 with w9 | w9
                · rw [if_pos (by rw [w9])] at h_27
                  exact x_call (M := mX8_readOrderedLink) (M' := mX3_readPart) (pc := 36) (st := [va_rf (some a0)]) (rest := []) (av := [va_rf (some a0)]) (x_linkU (M := mX8_readOrderedLink) (M' := mX3_readPart) (As := []) (index := 71) (C := RX3) (T := TX3) (owner := "NetlistForms$Reader") (x := ⟨"NetlistForms$Reader", "readPart", "()LNetlistForms$Part;"⟩) (xE_4 w9) rfl wd_416 wd_417 (Or.inl wd_415) wd_418 wd_419 xw_X3_readPart rfl (by decide) rfl rfl dX8_readOrderedLink_36) (ev_X3_readPart hO hP h_27) xw_X3_readPart rfl wd_124 dX8_readOrderedLink_36 (by decide) (by decide) (by simp [x_cat, x_catI, x_catJ])
                · rw [if_neg (by rw [w9]; decide)] at h_27
                  exact x_call (M := mX8_readOrderedLink) (M' := mX9_readPart) (pc := 36) (st := [va_rf (some a0)]) (rest := []) (av := [va_rf (some a0)]) (x_linkU (M := mX8_readOrderedLink) (M' := mX9_readPart) (As := []) (index := 71) (C := RX9) (T := TX9) (owner := "NetlistForms$Reader") (x := ⟨"NetlistForms$Reader", "readPart", "()LNetlistForms$Part;"⟩) (xE_9 w9) rfl wd_416 wd_417 (Or.inl wd_415) wd_421 wd_422 xw_X9_readPart rfl (by decide) rfl rfl dX8_readOrderedLink_36) (ev_X9_readPart hO hP h_27) xw_X9_readPart rfl wd_131 dX8_readOrderedLink_36 (by decide) (by decide) (by simp [x_cat, x_catI, x_catJ])
              refine x_callR z9 ?_
              refine ev_at (st' := [va_rf v_25]) rfl rfl ?_
              exact ev_sub [2, 0] rfl (ev_X8_readOrderedLink_p39 hO hP h)
            · have z9 : xCall l G mX8_readOrderedLink 36 [va_rf (some a0)] [] σ_21 (xrR (.inr E_29)) σ_26 := by
                rcases c_28 with w9 | w9
                · rw [if_pos (by rw [w9])] at h_27
                  exact x_call (M := mX8_readOrderedLink) (M' := mX3_readPart) (pc := 36) (st := [va_rf (some a0)]) (rest := []) (av := [va_rf (some a0)]) (x_linkU (M := mX8_readOrderedLink) (M' := mX3_readPart) (As := []) (index := 71) (C := RX3) (T := TX3) (owner := "NetlistForms$Reader") (x := ⟨"NetlistForms$Reader", "readPart", "()LNetlistForms$Part;"⟩) (xE_4 w9) rfl wd_416 wd_417 (Or.inl wd_415) wd_418 wd_419 xw_X3_readPart rfl (by decide) rfl rfl dX8_readOrderedLink_36) (ev_X3_readPart hO hP h_27) xw_X3_readPart rfl wd_124 dX8_readOrderedLink_36 (by decide) (by decide) (by simp [x_cat, x_catI, x_catJ])
                · rw [if_neg (by rw [w9]; decide)] at h_27
                  exact x_call (M := mX8_readOrderedLink) (M' := mX9_readPart) (pc := 36) (st := [va_rf (some a0)]) (rest := []) (av := [va_rf (some a0)]) (x_linkU (M := mX8_readOrderedLink) (M' := mX9_readPart) (As := []) (index := 71) (C := RX9) (T := TX9) (owner := "NetlistForms$Reader") (x := ⟨"NetlistForms$Reader", "readPart", "()LNetlistForms$Part;"⟩) (xE_9 w9) rfl wd_416 wd_417 (Or.inl wd_415) wd_421 wd_422 xw_X9_readPart rfl (by decide) rfl rfl dX8_readOrderedLink_36) (ev_X9_readPart hO hP h_27) xw_X9_readPart rfl wd_131 dX8_readOrderedLink_36 (by decide) (by decide) (by simp [x_cat, x_catI, x_catJ])
              cases h
              exact x_callX z9 (evX_out rfl)
          · rw [if_neg c_24] at h
            refine ev_if_eq (x := v_20) (tgt := 35) dX8_readOrderedLink_28 (by decide) (fun q9 => absurd q9 c_24) (fun _ => ?_)
            refine ev_null dX8_readOrderedLink_31 ?_
            refine ev_goto (tgt := 39) dX8_readOrderedLink_32 (by decide) ?_
            exact ev_sub [2, 0] rfl (ev_X8_readOrderedLink_p39 hO hP h)
        · have z9 := x_call (M := mX8_readOrderedLink) (M' := mX10_skips) (pc := 25) (st := [.int 45, va_rf (some a_19)]) (rest := []) (av := [va_rf (some a_19), .int 45]) (x_linkV (M := mX8_readOrderedLink) (M' := mX10_skips) (As := [.int 45]) (index := 101) (C := RX10) (T := TX10) (xE_10 c_23) rfl wd_380 wd_348 wd_346 xw_X10_skips rfl (by decide) rfl rfl dX8_readOrderedLink_25) (ev_X10_skips hO hP h_22) xw_X10_skips rfl wd_118 dX8_readOrderedLink_25 (by decide) (by decide) (by simp [x_cat, x_catI, x_catJ])
          cases h
          exact x_callX z9 (evX_out rfl)
      · have z9 := x_call (M := mX8_readOrderedLink) (M' := mX10_place) (pc := 15) (st := [va_rf (some a_13)]) (rest := []) (av := [va_rf (some a_13)]) (x_linkV (M := mX8_readOrderedLink) (M' := mX10_place) (As := []) (index := 34) (C := RX10) (T := TX10) (xE_10 c_17) rfl wd_289 wd_290 wd_288 xw_X10_place rfl (by decide) rfl rfl dX8_readOrderedLink_15) (ev_X10_place hO hP h_16) xw_X10_place rfl wd_118 dX8_readOrderedLink_15 (by decide) (by decide) (by simp [x_cat, x_catI, x_catJ])
        cases h
        exact x_callX z9 (evX_out rfl)
    · have z9 := x_call (M := mX8_readOrderedLink) (M' := mX10_refuseIf) (pc := 8) (st := [.int v_3, va_rf (some a_7)]) (rest := []) (av := [va_rf (some a_7), .int v_3]) (x_linkV (M := mX8_readOrderedLink) (M' := mX10_refuseIf) (As := [.int v_3]) (index := 51) (C := RX10) (T := TX10) (xE_10 c_11) rfl wd_286 wd_243 wd_241 xw_X10_refuseIf rfl (by decide) rfl rfl dX8_readOrderedLink_8) (ev_X10_refuseIf hO hP h_10) xw_X10_refuseIf rfl wd_118 dX8_readOrderedLink_8 (by decide) (by decide) (by simp [x_cat, x_catI, x_catJ])
      cases h
      exact x_callX z9 (evX_out rfl)
  · have z9 := x_call (M := mX8_readOrderedLink) (M' := mX1_isFull) (pc := 5) (st := [va_rf (some a_2), va_rf (σ.R 300 a0)]) (rest := [va_rf (σ.R 300 a0)]) (av := [va_rf (some a_2)]) (x_linkV (M := mX8_readOrderedLink) (M' := mX1_isFull) (As := []) (index := 98) (C := RX1) (T := TX1) (xE_2 c_6) rfl wd_475 wd_461 wd_459 xw_X1_isFull rfl (by decide) rfl rfl dX8_readOrderedLink_5) (ev_X1_isFull hO hP h_5) xw_X1_isFull rfl wd_53 dX8_readOrderedLink_5 (by decide) (by decide) (by simp [x_cat, x_catI, x_catJ])
    cases h
    exact x_callX z9 (evX_out rfl)
set_option maxHeartbeats 4000000 in
set_option maxRecDepth 100000 in
theorem ev_X3_readInstance_p77 {l : Launch} {G : xG} (hO : x_OK l G) {P : xP} (hP : x_PG P G) {a0 : Nat} {k47 : Option Nat → Int32 → Int32 → xS → xO Unit} (hk47 : ∀ {v1 : Option Nat} {v2 : Int32} {v3 : Int32} {σ σ' : xS} {rr : Unit ⊕ String}, k47 v1 v2 v3 σ = some (rr, σ') → Ev l G mX3_readInstance 47 [(0, va_rf (some a0)), (1, va_rf v1), (2, .int v2), (3, .int v3)] [] σ (xrV rr) σ') {v1 : Option Nat} {v3 : Int32} {σ σ' : xS} {rr : Unit ⊕ String} (h : dm_X3_readInstance_p77 P k47 a0 v1 v3 σ = some (rr, σ')) : Ev l G mX3_readInstance 77 [(0, va_rf (some a0)), (1, va_rf v1), (3, .int v3)] [] σ (xrV rr) σ' := by
  unfold dm_X3_readInstance_p77 at h
  refine ev_aload_n (j := 0) (x := (some a0)) dX3_readInstance_77 rfl rfl ?_
  obtain ⟨c_1, h⟩ := x_chk_e h
  refine ev_get (C := RX3) (T := TX3) (k := 0) inX3 (xE_4 c_1) rfl (by decide) wd_308 (Or.inr wd_307) rfl dX3_readInstance_78 ?_
  refine ev_bipush (v := 44) dX3_readInstance_81 (by decide) ?_
  obtain ⟨a_2, ea_2, h⟩ := x_some_e h
  refine ev_at (st' := [.int 44, va_rf (some a_2)]) rfl (by rw [ea_2]) ?_
  obtain ⟨c_6, h⟩ := x_chk_e h
  rcases x_bind_e h with ⟨v_3, σ_4, h_5, h⟩ | ⟨E_8, σ_4, h_5, h⟩
  · have z9 := x_call (M := mX3_readInstance) (M' := mX10_skips) (pc := 83) (st := [.int 44, va_rf (some a_2)]) (rest := []) (av := [va_rf (some a_2), .int 44]) (x_linkV (M := mX3_readInstance) (M' := mX10_skips) (As := [.int 44]) (index := 99) (C := RX10) (T := TX10) (xE_10 c_6) rfl wd_347 wd_348 wd_346 xw_X10_skips rfl (by decide) rfl rfl dX3_readInstance_83) (ev_X10_skips hO hP h_5) xw_X10_skips rfl wd_118 dX3_readInstance_83 (by decide) (by decide) (by simp [x_cat, x_catI, x_catJ])
    refine x_callR z9 ?_
    refine ev_at (st' := [.int v_3]) rfl rfl ?_
    refine ev_istore_n (i := 2) (lv' := [(2, .int v_3), (0, va_rf (some a0)), (1, va_rf v1), (3, .int v3)]) dX3_readInstance_86 rfl (by decide) (by simp [x_cat, x_catI, x_catJ]) ?_
    obtain ⟨v_7, ev_7, h⟩ := x_let_e h
    refine ev_iinc (j := 3) (x := v3) (v := v_7) (lv' := [(3, .int v_7), (2, .int v_3), (0, va_rf (some a0)), (1, va_rf v1)]) dX3_readInstance_87 rfl (by rw [ev_7]; rfl) (by decide) rfl ?_
    refine ev_goto (tgt := 47) dX3_readInstance_90 (by decide) ?_
    exact ev_sub [2, 3, 1, 0] rfl (hk47 h)
  · have z9 := x_call (M := mX3_readInstance) (M' := mX10_skips) (pc := 83) (st := [.int 44, va_rf (some a_2)]) (rest := []) (av := [va_rf (some a_2), .int 44]) (x_linkV (M := mX3_readInstance) (M' := mX10_skips) (As := [.int 44]) (index := 99) (C := RX10) (T := TX10) (xE_10 c_6) rfl wd_347 wd_348 wd_346 xw_X10_skips rfl (by decide) rfl rfl dX3_readInstance_83) (ev_X10_skips hO hP h_5) xw_X10_skips rfl wd_118 dX3_readInstance_83 (by decide) (by decide) (by simp [x_cat, x_catI, x_catJ])
    cases h
    exact x_callX z9 (evX_out rfl)
set_option maxHeartbeats 4000000 in
set_option maxRecDepth 100000 in
theorem ev_X3_readInstance_p93 {l : Launch} {G : xG} (hO : x_OK l G) {P : xP} (hP : x_PG P G) {a0 : Nat} {σ σ' : xS} {rr : Unit ⊕ String} (h : dm_X3_readInstance_p93 P a0 σ = some (rr, σ')) : Ev l G mX3_readInstance 93 [(0, va_rf (some a0))] [] σ (xrV rr) σ' := by
  unfold dm_X3_readInstance_p93 at h
  refine ev_aload_n (j := 0) (x := (some a0)) dX3_readInstance_93 rfl rfl ?_
  obtain ⟨c_1, h⟩ := x_chk_e h
  refine ev_get (C := RX3) (T := TX3) (k := 0) inX3 (xE_4 c_1) rfl (by decide) wd_308 (Or.inr wd_307) rfl dX3_readInstance_94 ?_
  refine ev_bipush (v := 41) dX3_readInstance_97 (by decide) ?_
  obtain ⟨a_2, ea_2, h⟩ := x_some_e h
  refine ev_at (st' := [.int 41, va_rf (some a_2)]) rfl (by rw [ea_2]) ?_
  obtain ⟨c_6, h⟩ := x_chk_e h
  rcases x_bind_e h with ⟨v_3, σ_4, h_5, h⟩ | ⟨E_14, σ_4, h_5, h⟩
  · have z9 := x_call (M := mX3_readInstance) (M' := mX10_takeSign) (pc := 99) (st := [.int 41, va_rf (some a_2)]) (rest := []) (av := [va_rf (some a_2), .int 41]) (x_linkV (M := mX3_readInstance) (M' := mX10_takeSign) (As := [.int 41]) (index := 76) (C := RX10) (T := TX10) (xE_10 c_6) rfl wd_320 wd_321 wd_319 xw_X10_takeSign rfl (by decide) rfl rfl dX3_readInstance_99) (ev_X10_takeSign hO hP h_5) xw_X10_takeSign rfl wd_118 dX3_readInstance_99 (by decide) (by decide) (by simp [x_cat, x_catI, x_catJ])
    refine x_callR z9 ?_
    refine ev_at (st' := []) rfl rfl ?_
    refine ev_aload_n (j := 0) (x := (some a0)) dX3_readInstance_102 rfl rfl ?_
    obtain ⟨c_7, h⟩ := x_chk_e h
    refine ev_get (C := RX3) (T := TX3) (k := 0) inX3 (xE_4 c_7) rfl (by decide) wd_308 (Or.inr wd_307) rfl dX3_readInstance_103 ?_
    refine ev_bipush (v := 59) dX3_readInstance_106 (by decide) ?_
    obtain ⟨a_8, ea_8, h⟩ := x_some_e h
    refine ev_at (st' := [.int 59, va_rf (some a_8)]) rfl (by rw [ea_8]) ?_
    obtain ⟨c_12, h⟩ := x_chk_e h
    rcases x_bind_e h with ⟨v_9, σ_10, h_11, h⟩ | ⟨E_13, σ_10, h_11, h⟩
    · have z9 := x_call (M := mX3_readInstance) (M' := mX10_takeSign) (pc := 108) (st := [.int 59, va_rf (some a_8)]) (rest := []) (av := [va_rf (some a_8), .int 59]) (x_linkV (M := mX3_readInstance) (M' := mX10_takeSign) (As := [.int 59]) (index := 76) (C := RX10) (T := TX10) (xE_10 c_12) rfl wd_320 wd_321 wd_319 xw_X10_takeSign rfl (by decide) rfl rfl dX3_readInstance_108) (ev_X10_takeSign hO hP h_11) xw_X10_takeSign rfl wd_118 dX3_readInstance_108 (by decide) (by decide) (by simp [x_cat, x_catI, x_catJ])
      refine x_callR z9 ?_
      refine ev_at (st' := []) rfl rfl ?_
      cases h
      exact ev_vret rfl dX3_readInstance_111
    · have z9 := x_call (M := mX3_readInstance) (M' := mX10_takeSign) (pc := 108) (st := [.int 59, va_rf (some a_8)]) (rest := []) (av := [va_rf (some a_8), .int 59]) (x_linkV (M := mX3_readInstance) (M' := mX10_takeSign) (As := [.int 59]) (index := 76) (C := RX10) (T := TX10) (xE_10 c_12) rfl wd_320 wd_321 wd_319 xw_X10_takeSign rfl (by decide) rfl rfl dX3_readInstance_108) (ev_X10_takeSign hO hP h_11) xw_X10_takeSign rfl wd_118 dX3_readInstance_108 (by decide) (by decide) (by simp [x_cat, x_catI, x_catJ])
      cases h
      exact x_callX z9 (evX_out rfl)
  · have z9 := x_call (M := mX3_readInstance) (M' := mX10_takeSign) (pc := 99) (st := [.int 41, va_rf (some a_2)]) (rest := []) (av := [va_rf (some a_2), .int 41]) (x_linkV (M := mX3_readInstance) (M' := mX10_takeSign) (As := [.int 41]) (index := 76) (C := RX10) (T := TX10) (xE_10 c_6) rfl wd_320 wd_321 wd_319 xw_X10_takeSign rfl (by decide) rfl rfl dX3_readInstance_99) (ev_X10_takeSign hO hP h_5) xw_X10_takeSign rfl wd_118 dX3_readInstance_99 (by decide) (by decide) (by simp [x_cat, x_catI, x_catJ])
    cases h
    exact x_callX z9 (evX_out rfl)
set_option maxHeartbeats 4000000 in
set_option maxRecDepth 100000 in
theorem ev_X3_readInstance_L47 {l : Launch} {G : xG} (hO : x_OK l G) {P : xP} (hP : x_PG P G) {a0 : Nat} : ∀ (n : Nat) {v1 : Option Nat} {v2 : Int32} {v3 : Int32} {σ σ' : xS} {rr : Unit ⊕ String}, dm_X3_readInstance_L47 P a0 n v1 v2 v3 σ = some (rr, σ') → Ev l G mX3_readInstance 47 [(0, va_rf (some a0)), (1, va_rf v1), (2, .int v2), (3, .int v3)] [] σ (xrV rr) σ' := by
  intro n
  induction n with
  | zero => intro v1 v2 v3 σ σ' rr h; cases h
  | succ n ih =>
    intro v1 v2 v3 σ σ' rr h
    rw [dm_X3_readInstance_L47] at h
    refine ev_iload_n (j := 2) (x := v2) dX3_readInstance_47 rfl rfl ?_
    by_cases c_1 : v2 = 0
    · rw [if_pos c_1] at h
      refine ev_if_eq (x := v2) (tgt := 93) dX3_readInstance_48 (by decide) (fun _ => ?_) (fun q9 => absurd c_1 q9)
      exact ev_sub [0] rfl (ev_X3_readInstance_p93 hO hP h)
    · rw [if_neg c_1] at h
      refine ev_if_eq (x := v2) (tgt := 93) dX3_readInstance_48 (by decide) (fun q9 => absurd q9 c_1) (fun _ => ?_)
      refine ev_iload_n (j := 3) (x := v3) dX3_readInstance_51 rfl rfl ?_
      refine ev_bipush (v := 16) dX3_readInstance_52 (by decide) ?_
      by_cases c_2 : 16 < v3
      · rw [if_pos c_2] at h
        refine ev_icmp_gt (x := v3) (y := 16) (tgt := 93) dX3_readInstance_54 (by decide) (fun _ => ?_) (fun q9 => absurd c_2 q9)
        exact ev_sub [0] rfl (ev_X3_readInstance_p93 hO hP h)
      · rw [if_neg c_2] at h
        refine ev_icmp_gt (x := v3) (y := 16) (tgt := 93) dX3_readInstance_54 (by decide) (fun q9 => absurd q9 c_2) (fun _ => ?_)
        refine ev_aload_n (j := 1) (x := v1) dX3_readInstance_57 rfl rfl ?_
        obtain ⟨a_3, ea_3, h⟩ := x_some_e h
        refine ev_at (st' := [va_rf (some a_3)]) rfl (by rw [ea_3]) ?_
        obtain ⟨c_4, h⟩ := x_chk_e h
        refine ev_get (C := RX1) (T := TX1) (k := 3) inX1 (xE_2 c_4) rfl (by decide) wd_484 (Or.inl rfl) rfl dX3_readInstance_58 ?_
        by_cases c_5 : (σ.I 103 a_3) = 0
        · rw [if_pos c_5] at h
          refine ev_if_eq (x := (σ.I 103 a_3)) (tgt := 72) dX3_readInstance_61 (by decide) (fun _ => ?_) (fun q9 => absurd c_5 q9)
          refine ev_aload_n (j := 0) (x := (some a0)) dX3_readInstance_72 rfl rfl ?_
          refine ev_aload_n (j := 1) (x := v1) dX3_readInstance_73 rfl rfl ?_
          obtain ⟨c_9, h⟩ := x_chk_e h
          rcases x_bind_e h with ⟨v_6, σ_7, h_8, h⟩ | ⟨E_10, σ_7, h_8, h⟩
          · have z9 := x_call (M := mX3_readInstance) (M' := mX8_readOrderedLink) (pc := 74) (st := [va_rf v1, va_rf (some a0)]) (rest := []) (av := [va_rf (some a0), va_rf v1]) (x_linkU (M := mX3_readInstance) (M' := mX8_readOrderedLink) (As := [va_rf v1]) (index := 145) (C := RX3) (T := TX3) (owner := "NetlistForms$Reader") (x := ⟨"NetlistForms$LongReader", "readOrderedLink", "(LNetlistForms$Instance;)V"⟩) (xE_4 c_9) rfl wd_486 wd_487 (Or.inr rfl) wd_488 wd_489 xw_X8_readOrderedLink rfl (by decide) rfl rfl dX3_readInstance_74) (ev_X8_readOrderedLink hO hP h_8) xw_X8_readOrderedLink rfl wd_104 dX3_readInstance_74 (by decide) (by decide) (by simp [x_cat, x_catI, x_catJ])
            refine x_callR z9 ?_
            refine ev_at (st' := []) rfl rfl ?_
            exact ev_sub [0, 1, 3] rfl (ev_X3_readInstance_p77 hO hP ih h)
          · have z9 := x_call (M := mX3_readInstance) (M' := mX8_readOrderedLink) (pc := 74) (st := [va_rf v1, va_rf (some a0)]) (rest := []) (av := [va_rf (some a0), va_rf v1]) (x_linkU (M := mX3_readInstance) (M' := mX8_readOrderedLink) (As := [va_rf v1]) (index := 145) (C := RX3) (T := TX3) (owner := "NetlistForms$Reader") (x := ⟨"NetlistForms$LongReader", "readOrderedLink", "(LNetlistForms$Instance;)V"⟩) (xE_4 c_9) rfl wd_486 wd_487 (Or.inr rfl) wd_488 wd_489 xw_X8_readOrderedLink rfl (by decide) rfl rfl dX3_readInstance_74) (ev_X8_readOrderedLink hO hP h_8) xw_X8_readOrderedLink rfl wd_104 dX3_readInstance_74 (by decide) (by decide) (by simp [x_cat, x_catI, x_catJ])
            cases h
            exact x_callX z9 (evX_out rfl)
        · rw [if_neg c_5] at h
          refine ev_if_eq (x := (σ.I 103 a_3)) (tgt := 72) dX3_readInstance_61 (by decide) (fun q9 => absurd q9 c_5) (fun _ => ?_)
          refine ev_aload_n (j := 0) (x := (some a0)) dX3_readInstance_64 rfl rfl ?_
          refine ev_aload_n (j := 1) (x := v1) dX3_readInstance_65 rfl rfl ?_
          obtain ⟨c_14, h⟩ := x_chk_e h
          rcases x_bind_e h with ⟨v_11, σ_12, h_13, h⟩ | ⟨E_15, σ_12, h_13, h⟩
          · have z9 := x_call (M := mX3_readInstance) (M' := mX3_readNamedLink) (pc := 66) (st := [va_rf v1, va_rf (some a0)]) (rest := []) (av := [va_rf (some a0), va_rf v1]) (x_linkV (M := mX3_readInstance) (M' := mX3_readNamedLink) (As := [va_rf v1]) (index := 141) (C := RX3) (T := TX3) (xE_4 c_14) rfl wd_491 wd_492 (wG_in (List.mem_append_left _ (List.mem_of_getElem? (i := 12) rfl)) rfl) xw_X3_readNamedLink rfl (by decide) rfl rfl dX3_readInstance_66) (ev_X3_readNamedLink hO hP h_13) xw_X3_readNamedLink rfl wd_124 dX3_readInstance_66 (by decide) (by decide) (by simp [x_cat, x_catI, x_catJ])
            refine x_callR z9 ?_
            refine ev_at (st' := []) rfl rfl ?_
            refine ev_goto (tgt := 77) dX3_readInstance_69 (by decide) ?_
            exact ev_sub [0, 1, 3] rfl (ev_X3_readInstance_p77 hO hP ih h)
          · have z9 := x_call (M := mX3_readInstance) (M' := mX3_readNamedLink) (pc := 66) (st := [va_rf v1, va_rf (some a0)]) (rest := []) (av := [va_rf (some a0), va_rf v1]) (x_linkV (M := mX3_readInstance) (M' := mX3_readNamedLink) (As := [va_rf v1]) (index := 141) (C := RX3) (T := TX3) (xE_4 c_14) rfl wd_491 wd_492 (wG_in (List.mem_append_left _ (List.mem_of_getElem? (i := 12) rfl)) rfl) xw_X3_readNamedLink rfl (by decide) rfl rfl dX3_readInstance_66) (ev_X3_readNamedLink hO hP h_13) xw_X3_readNamedLink rfl wd_124 dX3_readInstance_66 (by decide) (by decide) (by simp [x_cat, x_catI, x_catJ])
            cases h
            exact x_callX z9 (evX_out rfl)
set_option maxHeartbeats 4000000 in
set_option maxRecDepth 100000 in
theorem ev_X3_readInstance_p44 {l : Launch} {G : xG} (hO : x_OK l G) {P : xP} (hP : x_PG P G) {a0 : Nat} {v1 : Option Nat} {s0 : Int32} {σ σ' : xS} {rr : Unit ⊕ String} (h : dm_X3_readInstance_p44 P a0 v1 s0 σ = some (rr, σ')) : Ev l G mX3_readInstance 44 [(0, va_rf (some a0)), (1, va_rf v1)] [.int s0] σ (xrV rr) σ' := by
  unfold dm_X3_readInstance_p44 at h
  refine ev_istore_n (i := 2) (lv' := [(2, .int s0), (0, va_rf (some a0)), (1, va_rf v1)]) dX3_readInstance_44 rfl (by decide) (by simp [x_cat, x_catI, x_catJ]) ?_
  refine ev_iconst (v := 0) dX3_readInstance_45 (by decide) ?_
  refine ev_istore_n (i := 3) (lv' := [(3, .int 0), (2, .int s0), (0, va_rf (some a0)), (1, va_rf v1)]) dX3_readInstance_46 rfl (by decide) rfl ?_
  exact ev_sub [2, 3, 1, 0] rfl (ev_X3_readInstance_L47 hO hP P.N h)
set_option maxHeartbeats 4000000 in
set_option maxRecDepth 100000 in
theorem ev_X3_readInstance {l : Launch} {G : xG} (hO : x_OK l G) {P : xP} (hP : x_PG P G) {a0 : Nat} {σ σ' : xS} {rr : Unit ⊕ String} (h : dm_X3_readInstance P a0 σ = some (rr, σ')) : EvM l G mX3_readInstance [va_rf (some a0)] σ (xrV rr) σ' := by
  unfold dm_X3_readInstance at h
  refine evM_of hO (by decide +kernel) (x_lenI (by simp [x_cat, x_catI, x_catJ, mX3_readInstance, xM.maxL])) ?_
  refine Eq.mp (congrArg (fun z => Ev l G mX3_readInstance 0 z [] σ (xrV rr) σ') (show [(0, va_rf (some a0))] = lv_args 0 [va_rf (some a0)] by simp [lv_args, x_cat, x_catI, x_catJ])) ?_
  refine ev_aload_n (j := 0) (x := (some a0)) dX3_readInstance_0 rfl rfl ?_
  obtain ⟨c_4, h⟩ := x_chk_e h
  rcases x_bind_e h with ⟨v_1, σ_2, h_3, h⟩ | ⟨E_30, σ_2, h_3, h⟩
  · have z9 := x_call (M := mX3_readInstance) (M' := mX8_startInstance) (pc := 1) (st := [va_rf (some a0)]) (rest := []) (av := [va_rf (some a0)]) (x_linkU (M := mX3_readInstance) (M' := mX8_startInstance) (As := []) (index := 131) (C := RX3) (T := TX3) (owner := "NetlistForms$Reader") (x := ⟨"NetlistForms$LongReader", "startInstance", "()LNetlistForms$Instance;"⟩) (xE_4 c_4) rfl wd_480 wd_481 (Or.inr rfl) wd_482 wd_483 xw_X8_startInstance rfl (by decide) rfl rfl dX3_readInstance_1) (ev_X8_startInstance hO hP h_3) xw_X8_startInstance rfl wd_104 dX3_readInstance_1 (by decide) (by decide) (by simp [x_cat, x_catI, x_catJ])
    refine x_callR z9 ?_
    refine ev_at (st' := [va_rf v_1]) rfl rfl ?_
    refine ev_astore_n (i := 1) (lv' := [(1, va_rf v_1), (0, va_rf (some a0))]) dX3_readInstance_4 rfl (by decide) (by simp [x_cat, x_catI, x_catJ]) ?_
    refine ev_aload_n (j := 1) (x := (some a0)) dX3_readInstance_5 rfl rfl ?_
    obtain ⟨c_5, h⟩ := x_chk_e h
    refine ev_get (C := RX3) (T := TX3) (k := 0) inX3 (xE_4 c_5) rfl (by decide) wd_308 (Or.inr wd_307) rfl dX3_readInstance_6 ?_
    refine ev_bipush (v := 40) dX3_readInstance_9 (by decide) ?_
    obtain ⟨a_6, ea_6, h⟩ := x_some_e h
    refine ev_at (st' := [.int 40, va_rf (some a_6)]) rfl (by rw [ea_6]) ?_
    obtain ⟨c_10, h⟩ := x_chk_e h
    rcases x_bind_e h with ⟨v_7, σ_8, h_9, h⟩ | ⟨E_29, σ_8, h_9, h⟩
    · have z9 := x_call (M := mX3_readInstance) (M' := mX10_takeSign) (pc := 11) (st := [.int 40, va_rf (some a_6)]) (rest := []) (av := [va_rf (some a_6), .int 40]) (x_linkV (M := mX3_readInstance) (M' := mX10_takeSign) (As := [.int 40]) (index := 76) (C := RX10) (T := TX10) (xE_10 c_10) rfl wd_320 wd_321 wd_319 xw_X10_takeSign rfl (by decide) rfl rfl dX3_readInstance_11) (ev_X10_takeSign hO hP h_9) xw_X10_takeSign rfl wd_118 dX3_readInstance_11 (by decide) (by decide) (by simp [x_cat, x_catI, x_catJ])
      refine x_callR z9 ?_
      refine ev_at (st' := []) rfl rfl ?_
      refine ev_aload_n (j := 0) (x := v_1) dX3_readInstance_14 rfl rfl ?_
      refine ev_aload_n (j := 1) (x := (some a0)) dX3_readInstance_15 rfl rfl ?_
      obtain ⟨c_11, h⟩ := x_chk_e h
      refine ev_get (C := RX3) (T := TX3) (k := 0) inX3 (xE_4 c_11) rfl (by decide) wd_308 (Or.inr wd_307) rfl dX3_readInstance_16 ?_
      refine ev_bipush (v := 46) dX3_readInstance_19 (by decide) ?_
      obtain ⟨a_12, ea_12, h⟩ := x_some_e h
      refine ev_at (st' := [.int 46, va_rf (some a_12), va_rf v_1]) rfl (by rw [ea_12]) ?_
      obtain ⟨c_16, h⟩ := x_chk_e h
      rcases x_bind_e h with ⟨v_13, σ_14, h_15, h⟩ | ⟨E_28, σ_14, h_15, h⟩
      · have z9 := x_call (M := mX3_readInstance) (M' := mX10_isSign) (pc := 21) (st := [.int 46, va_rf (some a_12), va_rf v_1]) (rest := [va_rf v_1]) (av := [va_rf (some a_12), .int 46]) (x_linkV (M := mX3_readInstance) (M' := mX10_isSign) (As := [.int 46]) (index := 80) (C := RX10) (T := TX10) (xE_10 c_16) rfl wd_324 wd_325 wd_323 xw_X10_isSign rfl (by decide) rfl rfl dX3_readInstance_21) (ev_X10_isSign hO hP h_15) xw_X10_isSign rfl wd_118 dX3_readInstance_21 (by decide) (by decide) (by simp [x_cat, x_catI, x_catJ])
        refine x_callR z9 ?_
        refine ev_at (st' := [.int v_13, va_rf v_1]) rfl rfl ?_
        obtain ⟨a_17, ea_17, h⟩ := x_some_e h
        refine ev_at (st' := [.int v_13, va_rf (some a_17)]) rfl (by rw [ea_17]) ?_
        obtain ⟨c_18, h⟩ := x_chk_e h
        obtain ⟨σ_19, eσ_19, h⟩ := x_let_e h
        refine ev_put (σ2 := σ_19) (C := RX1) (T := TX1) (k := 3) inX1 tyX1 tyX1_ok nmX1 (xE_2 c_18.1) rfl (by decide) wd_484 (Or.inl rfl) rfl rfl (x_boolN c_18.2.2) (x_boolF c_18.2.2) (Nat.le_of_ble_eq_true rfl) (hP.2.2.2.1 ▸ c_18.2.1) (by rw [eσ_19]; exact xP_2_3 _ c_18.1) (by rw [eσ_19]; exact xPut_I) dX3_readInstance_24 ?_
        refine ev_aload_n (j := 1) (x := (some a0)) dX3_readInstance_27 rfl rfl ?_
        obtain ⟨c_20, h⟩ := x_chk_e h
        refine ev_get (C := RX3) (T := TX3) (k := 0) inX3 (xE_4 c_20) rfl (by decide) wd_308 (Or.inr wd_307) rfl dX3_readInstance_28 ?_
        refine ev_bipush (v := 41) dX3_readInstance_31 (by decide) ?_
        obtain ⟨a_21, ea_21, h⟩ := x_some_e h
        refine ev_at (st' := [.int 41, va_rf (some a_21)]) rfl (by rw [ea_21]) ?_
        obtain ⟨c_25, h⟩ := x_chk_e h
        rcases x_bind_e h with ⟨v_22, σ_23, h_24, h⟩ | ⟨E_27, σ_23, h_24, h⟩
        · have z9 := x_call (M := mX3_readInstance) (M' := mX10_isSign) (pc := 33) (st := [.int 41, va_rf (some a_21)]) (rest := []) (av := [va_rf (some a_21), .int 41]) (x_linkV (M := mX3_readInstance) (M' := mX10_isSign) (As := [.int 41]) (index := 80) (C := RX10) (T := TX10) (xE_10 c_25) rfl wd_324 wd_325 wd_323 xw_X10_isSign rfl (by decide) rfl rfl dX3_readInstance_33) (ev_X10_isSign hO hP h_24) xw_X10_isSign rfl wd_118 dX3_readInstance_33 (by decide) (by decide) (by simp [x_cat, x_catI, x_catJ])
          refine x_callR z9 ?_
          refine ev_at (st' := [.int v_22]) rfl rfl ?_
          by_cases c_26 : v_22 = 0
          · rw [if_pos c_26] at h
            refine ev_if_ne (x := v_22) (tgt := 43) dX3_readInstance_36 (by decide) (fun q9 => absurd c_26 q9) (fun _ => ?_)
            refine ev_iconst (v := 1) dX3_readInstance_39 (by decide) ?_
            refine ev_goto (tgt := 44) dX3_readInstance_40 (by decide) ?_
            exact ev_sub [1, 0] rfl (ev_X3_readInstance_p44 hO hP h)
          · rw [if_neg c_26] at h
            refine ev_if_ne (x := v_22) (tgt := 43) dX3_readInstance_36 (by decide) (fun _ => ?_) (fun q9 => absurd q9 c_26)
            refine ev_iconst (v := 0) dX3_readInstance_43 (by decide) ?_
            exact ev_sub [1, 0] rfl (ev_X3_readInstance_p44 hO hP h)
        · have z9 := x_call (M := mX3_readInstance) (M' := mX10_isSign) (pc := 33) (st := [.int 41, va_rf (some a_21)]) (rest := []) (av := [va_rf (some a_21), .int 41]) (x_linkV (M := mX3_readInstance) (M' := mX10_isSign) (As := [.int 41]) (index := 80) (C := RX10) (T := TX10) (xE_10 c_25) rfl wd_324 wd_325 wd_323 xw_X10_isSign rfl (by decide) rfl rfl dX3_readInstance_33) (ev_X10_isSign hO hP h_24) xw_X10_isSign rfl wd_118 dX3_readInstance_33 (by decide) (by decide) (by simp [x_cat, x_catI, x_catJ])
          cases h
          exact x_callX z9 (evX_out rfl)
      · have z9 := x_call (M := mX3_readInstance) (M' := mX10_isSign) (pc := 21) (st := [.int 46, va_rf (some a_12), va_rf v_1]) (rest := [va_rf v_1]) (av := [va_rf (some a_12), .int 46]) (x_linkV (M := mX3_readInstance) (M' := mX10_isSign) (As := [.int 46]) (index := 80) (C := RX10) (T := TX10) (xE_10 c_16) rfl wd_324 wd_325 wd_323 xw_X10_isSign rfl (by decide) rfl rfl dX3_readInstance_21) (ev_X10_isSign hO hP h_15) xw_X10_isSign rfl wd_118 dX3_readInstance_21 (by decide) (by decide) (by simp [x_cat, x_catI, x_catJ])
        cases h
        exact x_callX z9 (evX_out rfl)
    · have z9 := x_call (M := mX3_readInstance) (M' := mX10_takeSign) (pc := 11) (st := [.int 40, va_rf (some a_6)]) (rest := []) (av := [va_rf (some a_6), .int 40]) (x_linkV (M := mX3_readInstance) (M' := mX10_takeSign) (As := [.int 40]) (index := 76) (C := RX10) (T := TX10) (xE_10 c_10) rfl wd_320 wd_321 wd_319 xw_X10_takeSign rfl (by decide) rfl rfl dX3_readInstance_11) (ev_X10_takeSign hO hP h_9) xw_X10_takeSign rfl wd_118 dX3_readInstance_11 (by decide) (by decide) (by simp [x_cat, x_catI, x_catJ])
      cases h
      exact x_callX z9 (evX_out rfl)
  · have z9 := x_call (M := mX3_readInstance) (M' := mX8_startInstance) (pc := 1) (st := [va_rf (some a0)]) (rest := []) (av := [va_rf (some a0)]) (x_linkU (M := mX3_readInstance) (M' := mX8_startInstance) (As := []) (index := 131) (C := RX3) (T := TX3) (owner := "NetlistForms$Reader") (x := ⟨"NetlistForms$LongReader", "startInstance", "()LNetlistForms$Instance;"⟩) (xE_4 c_4) rfl wd_480 wd_481 (Or.inr rfl) wd_482 wd_483 xw_X8_startInstance rfl (by decide) rfl rfl dX3_readInstance_1) (ev_X8_startInstance hO hP h_3) xw_X8_startInstance rfl wd_104 dX3_readInstance_1 (by decide) (by decide) (by simp [x_cat, x_catI, x_catJ])
    cases h
    exact x_callX z9 (evX_out rfl)
set_option maxHeartbeats 4000000 in
set_option maxRecDepth 100000 in
theorem ev_X3_readPiece_p138 {l : Launch} {G : xG} (hO : x_OK l G) {P : xP} (hP : x_PG P G) {a0 : Nat} {σ σ' : xS} {rr : Unit ⊕ String} (h : dm_X3_readPiece_p138 P a0 σ = some (rr, σ')) : Ev l G mX3_readPiece 138 [] [] σ (xrV rr) σ' := by
  unfold dm_X3_readPiece_p138 at h
  cases h
  exact ev_vret rfl dX3_readPiece_138
set_option maxHeartbeats 4000000 in
set_option maxRecDepth 100000 in
theorem ev_X3_readPiece {l : Launch} {G : xG} (hO : x_OK l G) {P : xP} (hP : x_PG P G) {a0 : Nat} {σ σ' : xS} {rr : Unit ⊕ String} (h : dm_X3_readPiece P a0 σ = some (rr, σ')) : EvM l G mX3_readPiece [va_rf (some a0)] σ (xrV rr) σ' := by
  unfold dm_X3_readPiece at h
  refine evM_of hO (by decide +kernel) (x_lenI (by simp [x_cat, x_catI, x_catJ, mX3_readPiece, xM.maxL])) ?_
  refine Eq.mp (congrArg (fun z => Ev l G mX3_readPiece 0 z [] σ (xrV rr) σ') (show [(0, va_rf (some a0))] = lv_args 0 [va_rf (some a0)] by simp [lv_args, x_cat, x_catI, x_catJ])) ?_
  refine ev_aload_n (j := 0) (x := (some a0)) dX3_readPiece_0 rfl rfl ?_
  obtain ⟨c_1, h⟩ := x_chk_e h
  refine ev_get (C := RX3) (T := TX3) (k := 2) inX3 (xE_4 c_1) rfl (by decide) wd_328 (Or.inr wd_327) rfl dX3_readPiece_1 ?_
  by_cases c_2 : (σ.R 302 a0) = none
  · rw [if_pos c_2] at h
    refine ev_ifnonnull (x := (σ.R 302 a0)) (tgt := 14) dX3_readPiece_4 (by decide) (fun q9 => absurd c_2 q9) (fun _ => ?_)
    refine ev_aload_n (j := 0) (x := (some a0)) dX3_readPiece_7 rfl rfl ?_
    rcases x_bind_e h with ⟨v_92, σ_93, h_94, h⟩ | ⟨E_95, σ_93, h_94, h⟩
    · have z9 := x_call (M := mX3_readPiece) (M' := mX3_readHead) (pc := 8) (st := [va_rf (some a0)]) (rest := []) (av := [va_rf (some a0)]) (x_linkV (M := mX3_readPiece) (M' := mX3_readHead) (As := []) (index := 15) (C := RX3) (T := TX3) (xE_4 c_1) rfl wd_515 wd_516 (wG_in (List.mem_append_left _ (List.mem_of_getElem? (i := 6) rfl)) rfl) xw_X3_readHead rfl (by decide) rfl rfl dX3_readPiece_8) (ev_X3_readHead hO hP h_94) xw_X3_readHead rfl wd_124 dX3_readPiece_8 (by decide) (by decide) (by simp [x_cat, x_catI, x_catJ])
      refine x_callR z9 ?_
      refine ev_at (st' := []) rfl rfl ?_
      refine ev_goto (tgt := 138) dX3_readPiece_11 (by decide) ?_
      exact ev_sub [] rfl (ev_X3_readPiece_p138 hO hP h)
    · have z9 := x_call (M := mX3_readPiece) (M' := mX3_readHead) (pc := 8) (st := [va_rf (some a0)]) (rest := []) (av := [va_rf (some a0)]) (x_linkV (M := mX3_readPiece) (M' := mX3_readHead) (As := []) (index := 15) (C := RX3) (T := TX3) (xE_4 c_1) rfl wd_515 wd_516 (wG_in (List.mem_append_left _ (List.mem_of_getElem? (i := 6) rfl)) rfl) xw_X3_readHead rfl (by decide) rfl rfl dX3_readPiece_8) (ev_X3_readHead hO hP h_94) xw_X3_readHead rfl wd_124 dX3_readPiece_8 (by decide) (by decide) (by simp [x_cat, x_catI, x_catJ])
      cases h
      exact x_callX z9 (evX_out rfl)
  · rw [if_neg c_2] at h
    refine ev_ifnonnull (x := (σ.R 302 a0)) (tgt := 14) dX3_readPiece_4 (by decide) (fun _ => ?_) (fun q9 => absurd q9 c_2)
    refine ev_aload_n (j := 0) (x := (some a0)) dX3_readPiece_14 rfl rfl ?_
    refine ev_get (C := RX3) (T := TX3) (k := 0) inX3 (xE_4 c_1) rfl (by decide) wd_308 (Or.inr wd_307) rfl dX3_readPiece_15 ?_
    refine ev_ldcS (q := ("NetlistForms$LongReader", 23, "input", 15)) hP (List.mem_of_getElem? (i := 0) rfl) rfl dX3_readPiece_18 ?_
    obtain ⟨a_3, ea_3, h⟩ := x_some_e h
    refine ev_at (st' := [va_rf (some (P.ad 15)), va_rf (some a_3)]) rfl (by rw [ea_3]) ?_
    obtain ⟨c_7, h⟩ := x_chk_e h
    rcases x_bind_e h with ⟨v_4, σ_5, h_6, h⟩ | ⟨E_91, σ_5, h_6, h⟩
    · have z9 := x_call (M := mX3_readPiece) (M' := mX10_isText) (pc := 20) (st := [va_rf (some (P.ad 15)), va_rf (some a_3)]) (rest := []) (av := [va_rf (some a_3), va_rf (some (P.ad 15))]) (x_linkV (M := mX3_readPiece) (M' := mX10_isText) (As := [va_rf (some (P.ad 15))]) (index := 25) (C := RX10) (T := TX10) (xE_10 c_7) rfl wd_493 wd_239 wd_237 xw_X10_isText rfl (by decide) rfl rfl dX3_readPiece_20) (ev_X10_isText hO hP h_6) xw_X10_isText rfl wd_118 dX3_readPiece_20 (by decide) (by decide) (by simp [x_cat, x_catI, x_catJ])
      refine x_callR z9 ?_
      refine ev_at (st' := [.int v_4]) rfl rfl ?_
      by_cases c_8 : v_4 = 0
      · rw [if_pos c_8] at h
        refine ev_if_eq (x := v_4) (tgt := 34) dX3_readPiece_23 (by decide) (fun _ => ?_) (fun q9 => absurd c_8 q9)
        refine ev_aload_n (j := 0) (x := (some a0)) dX3_readPiece_34 rfl rfl ?_
        obtain ⟨c_9, h⟩ := x_chk_e h
        refine ev_get (C := RX3) (T := TX3) (k := 0) inX3 (xE_4 c_9) rfl (by decide) wd_308 (Or.inr wd_307) rfl dX3_readPiece_35 ?_
        refine ev_ldcS (q := ("NetlistForms$LongReader", 37, "output", 23)) hP (List.mem_of_getElem? (i := 1) rfl) rfl dX3_readPiece_38 ?_
        obtain ⟨a_10, ea_10, h⟩ := x_some_e h
        refine ev_at (st' := [va_rf (some (P.ad 23)), va_rf (some a_10)]) rfl (by rw [ea_10]) ?_
        obtain ⟨c_14, h⟩ := x_chk_e h
        rcases x_bind_e h with ⟨v_11, σ_12, h_13, h⟩ | ⟨E_85, σ_12, h_13, h⟩
        · have z9 := x_call (M := mX3_readPiece) (M' := mX10_isText) (pc := 40) (st := [va_rf (some (P.ad 23)), va_rf (some a_10)]) (rest := []) (av := [va_rf (some a_10), va_rf (some (P.ad 23))]) (x_linkV (M := mX3_readPiece) (M' := mX10_isText) (As := [va_rf (some (P.ad 23))]) (index := 25) (C := RX10) (T := TX10) (xE_10 c_14) rfl wd_493 wd_239 wd_237 xw_X10_isText rfl (by decide) rfl rfl dX3_readPiece_40) (ev_X10_isText hO hP h_13) xw_X10_isText rfl wd_118 dX3_readPiece_40 (by decide) (by decide) (by simp [x_cat, x_catI, x_catJ])
          refine x_callR z9 ?_
          refine ev_at (st' := [.int v_11]) rfl rfl ?_
          by_cases c_15 : v_11 = 0
          · rw [if_pos c_15] at h
            refine ev_if_eq (x := v_11) (tgt := 54) dX3_readPiece_43 (by decide) (fun _ => ?_) (fun q9 => absurd c_15 q9)
            refine ev_aload_n (j := 0) (x := (some a0)) dX3_readPiece_54 rfl rfl ?_
            obtain ⟨c_16, h⟩ := x_chk_e h
            refine ev_get (C := RX3) (T := TX3) (k := 0) inX3 (xE_4 c_16) rfl (by decide) wd_308 (Or.inr wd_307) rfl dX3_readPiece_55 ?_
            refine ev_ldcS (q := ("NetlistForms$LongReader", 39, "wire", 29)) hP (List.mem_of_getElem? (i := 2) rfl) rfl dX3_readPiece_58 ?_
            obtain ⟨a_17, ea_17, h⟩ := x_some_e h
            refine ev_at (st' := [va_rf (some (P.ad 29)), va_rf (some a_17)]) rfl (by rw [ea_17]) ?_
            obtain ⟨c_21, h⟩ := x_chk_e h
            rcases x_bind_e h with ⟨v_18, σ_19, h_20, h⟩ | ⟨E_79, σ_19, h_20, h⟩
            · have z9 := x_call (M := mX3_readPiece) (M' := mX10_isText) (pc := 60) (st := [va_rf (some (P.ad 29)), va_rf (some a_17)]) (rest := []) (av := [va_rf (some a_17), va_rf (some (P.ad 29))]) (x_linkV (M := mX3_readPiece) (M' := mX10_isText) (As := [va_rf (some (P.ad 29))]) (index := 25) (C := RX10) (T := TX10) (xE_10 c_21) rfl wd_493 wd_239 wd_237 xw_X10_isText rfl (by decide) rfl rfl dX3_readPiece_60) (ev_X10_isText hO hP h_20) xw_X10_isText rfl wd_118 dX3_readPiece_60 (by decide) (by decide) (by simp [x_cat, x_catI, x_catJ])
              refine x_callR z9 ?_
              refine ev_at (st' := [.int v_18]) rfl rfl ?_
              by_cases c_22 : v_18 = 0
              · rw [if_pos c_22] at h
                refine ev_if_eq (x := v_18) (tgt := 74) dX3_readPiece_63 (by decide) (fun _ => ?_) (fun q9 => absurd c_22 q9)
                refine ev_aload_n (j := 0) (x := (some a0)) dX3_readPiece_74 rfl rfl ?_
                obtain ⟨c_23, h⟩ := x_chk_e h
                refine ev_get (C := RX3) (T := TX3) (k := 0) inX3 (xE_4 c_23) rfl (by decide) wd_308 (Or.inr wd_307) rfl dX3_readPiece_75 ?_
                refine ev_ldcS (q := ("NetlistForms$LongReader", 41, "assign", 7)) hP (List.mem_of_getElem? (i := 3) rfl) rfl dX3_readPiece_78 ?_
                obtain ⟨a_24, ea_24, h⟩ := x_some_e h
                refine ev_at (st' := [va_rf (some (P.ad 7)), va_rf (some a_24)]) rfl (by rw [ea_24]) ?_
                obtain ⟨c_28, h⟩ := x_chk_e h
                rcases x_bind_e h with ⟨v_25, σ_26, h_27, h⟩ | ⟨E_73, σ_26, h_27, h⟩
                · have z9 := x_call (M := mX3_readPiece) (M' := mX10_isText) (pc := 80) (st := [va_rf (some (P.ad 7)), va_rf (some a_24)]) (rest := []) (av := [va_rf (some a_24), va_rf (some (P.ad 7))]) (x_linkV (M := mX3_readPiece) (M' := mX10_isText) (As := [va_rf (some (P.ad 7))]) (index := 25) (C := RX10) (T := TX10) (xE_10 c_28) rfl wd_493 wd_239 wd_237 xw_X10_isText rfl (by decide) rfl rfl dX3_readPiece_80) (ev_X10_isText hO hP h_27) xw_X10_isText rfl wd_118 dX3_readPiece_80 (by decide) (by decide) (by simp [x_cat, x_catI, x_catJ])
                  refine x_callR z9 ?_
                  refine ev_at (st' := [.int v_25]) rfl rfl ?_
                  by_cases c_29 : v_25 = 0
                  · rw [if_pos c_29] at h
                    refine ev_if_eq (x := v_25) (tgt := 94) dX3_readPiece_83 (by decide) (fun _ => ?_) (fun q9 => absurd c_29 q9)
                    refine ev_aload_n (j := 0) (x := (some a0)) dX3_readPiece_94 rfl rfl ?_
                    obtain ⟨c_30, h⟩ := x_chk_e h
                    refine ev_get (C := RX3) (T := TX3) (k := 0) inX3 (xE_4 c_30) rfl (by decide) wd_308 (Or.inr wd_307) rfl dX3_readPiece_95 ?_
                    refine ev_ldcS (q := ("NetlistForms$LongReader", 47, "end", 11)) hP (List.mem_of_getElem? (i := 4) rfl) rfl dX3_readPiece_98 ?_
                    obtain ⟨a_31, ea_31, h⟩ := x_some_e h
                    refine ev_at (st' := [va_rf (some (P.ad 11)), va_rf (some a_31)]) rfl (by rw [ea_31]) ?_
                    obtain ⟨c_35, h⟩ := x_chk_e h
                    rcases x_bind_e h with ⟨v_32, σ_33, h_34, h⟩ | ⟨E_67, σ_33, h_34, h⟩
                    · have z9 := x_call (M := mX3_readPiece) (M' := mX10_isText) (pc := 100) (st := [va_rf (some (P.ad 11)), va_rf (some a_31)]) (rest := []) (av := [va_rf (some a_31), va_rf (some (P.ad 11))]) (x_linkV (M := mX3_readPiece) (M' := mX10_isText) (As := [va_rf (some (P.ad 11))]) (index := 25) (C := RX10) (T := TX10) (xE_10 c_35) rfl wd_493 wd_239 wd_237 xw_X10_isText rfl (by decide) rfl rfl dX3_readPiece_100) (ev_X10_isText hO hP h_34) xw_X10_isText rfl wd_118 dX3_readPiece_100 (by decide) (by decide) (by simp [x_cat, x_catI, x_catJ])
                      refine x_callR z9 ?_
                      refine ev_at (st' := [.int v_32]) rfl rfl ?_
                      by_cases c_36 : v_32 = 0
                      · rw [if_pos c_36] at h
                        refine ev_if_eq (x := v_32) (tgt := 134) dX3_readPiece_103 (by decide) (fun _ => ?_) (fun q9 => absurd c_36 q9)
                        refine ev_aload_n (j := 0) (x := (some a0)) dX3_readPiece_134 rfl rfl ?_
                        obtain ⟨c_40, h⟩ := x_chk_e h
                        rcases x_bind_e h with ⟨v_37, σ_38, h_39, h⟩ | ⟨E_41, σ_38, h_39, h⟩
                        · have z9 := x_call (M := mX3_readPiece) (M' := mX3_readInstance) (pc := 135) (st := [va_rf (some a0)]) (rest := []) (av := [va_rf (some a0)]) (x_linkV (M := mX3_readPiece) (M' := mX3_readInstance) (As := []) (index := 64) (C := RX3) (T := TX3) (xE_4 c_40) rfl wd_495 wd_496 (wG_in (List.mem_append_left _ (List.mem_of_getElem? (i := 11) rfl)) rfl) xw_X3_readInstance rfl (by decide) rfl rfl dX3_readPiece_135) (ev_X3_readInstance hO hP h_39) xw_X3_readInstance rfl wd_124 dX3_readPiece_135 (by decide) (by decide) (by simp [x_cat, x_catI, x_catJ])
                          refine x_callR z9 ?_
                          refine ev_at (st' := []) rfl rfl ?_
                          exact ev_sub [] rfl (ev_X3_readPiece_p138 hO hP h)
                        · have z9 := x_call (M := mX3_readPiece) (M' := mX3_readInstance) (pc := 135) (st := [va_rf (some a0)]) (rest := []) (av := [va_rf (some a0)]) (x_linkV (M := mX3_readPiece) (M' := mX3_readInstance) (As := []) (index := 64) (C := RX3) (T := TX3) (xE_4 c_40) rfl wd_495 wd_496 (wG_in (List.mem_append_left _ (List.mem_of_getElem? (i := 11) rfl)) rfl) xw_X3_readInstance rfl (by decide) rfl rfl dX3_readPiece_135) (ev_X3_readInstance hO hP h_39) xw_X3_readInstance rfl wd_124 dX3_readPiece_135 (by decide) (by decide) (by simp [x_cat, x_catI, x_catJ])
                          cases h
                          exact x_callX z9 (evX_out rfl)
                      · rw [if_neg c_36] at h
                        refine ev_if_eq (x := v_32) (tgt := 134) dX3_readPiece_103 (by decide) (fun q9 => absurd q9 c_36) (fun _ => ?_)
                        refine ev_aload_n (j := 0) (x := (some a0)) dX3_readPiece_106 rfl rfl ?_
                        obtain ⟨c_42, h⟩ := x_chk_e h
                        refine ev_get (C := RX3) (T := TX3) (k := 0) inX3 (xE_4 c_42) rfl (by decide) wd_308 (Or.inr wd_307) rfl dX3_readPiece_107 ?_
                        refine ev_aload_n (j := 0) (x := (some a0)) dX3_readPiece_110 rfl rfl ?_
                        refine ev_get (C := RX3) (T := TX3) (k := 2) inX3 (xE_4 c_42) rfl (by decide) wd_328 (Or.inr wd_327) rfl dX3_readPiece_111 ?_
                        obtain ⟨a_43, ea_43, h⟩ := x_some_e h
                        refine ev_at (st' := [va_rf (some a_43), va_rf (σ_33.R 300 a0)]) rfl (by rw [ea_43]) ?_
                        obtain ⟨c_47, h⟩ := x_chk_e h
                        rcases x_bind_e h with ⟨v_44, σ_45, h_46, h⟩ | ⟨E_66, σ_45, h_46, h⟩
                        · have z9 := x_call (M := mX3_readPiece) (M' := mX5_hasUntoldPort) (pc := 114) (st := [va_rf (some a_43), va_rf (σ_33.R 300 a0)]) (rest := [va_rf (σ_33.R 300 a0)]) (av := [va_rf (some a_43)]) (x_linkV (M := mX3_readPiece) (M' := mX5_hasUntoldPort) (As := []) (index := 49) (C := RX5) (T := TX5) (xE_6 c_47) rfl wd_499 wd_500 wd_498 xw_X5_hasUntoldPort rfl (by decide) rfl rfl dX3_readPiece_114) (ev_X5_hasUntoldPort hO hP h_46) xw_X5_hasUntoldPort rfl wd_274 dX3_readPiece_114 (by decide) (by decide) (by simp [x_cat, x_catI, x_catJ])
                          refine x_callR z9 ?_
                          refine ev_at (st' := [.int v_44, va_rf (σ_33.R 300 a0)]) rfl rfl ?_
                          obtain ⟨a_48, ea_48, h⟩ := x_some_e h
                          refine ev_at (st' := [.int v_44, va_rf (some a_48)]) rfl (by rw [ea_48]) ?_
                          obtain ⟨c_52, h⟩ := x_chk_e h
                          rcases x_bind_e h with ⟨v_49, σ_50, h_51, h⟩ | ⟨E_65, σ_50, h_51, h⟩
                          · have z9 := x_call (M := mX3_readPiece) (M' := mX10_refuseIf) (pc := 117) (st := [.int v_44, va_rf (some a_48)]) (rest := []) (av := [va_rf (some a_48), .int v_44]) (x_linkV (M := mX3_readPiece) (M' := mX10_refuseIf) (As := [.int v_44]) (index := 55) (C := RX10) (T := TX10) (xE_10 c_52) rfl wd_333 wd_243 wd_241 xw_X10_refuseIf rfl (by decide) rfl rfl dX3_readPiece_117) (ev_X10_refuseIf hO hP h_51) xw_X10_refuseIf rfl wd_118 dX3_readPiece_117 (by decide) (by decide) (by simp [x_cat, x_catI, x_catJ])
                            refine x_callR z9 ?_
                            refine ev_at (st' := []) rfl rfl ?_
                            refine ev_aload_n (j := 0) (x := (some a0)) dX3_readPiece_120 rfl rfl ?_
                            obtain ⟨c_53, h⟩ := x_chk_e h
                            refine ev_get (C := RX3) (T := TX3) (k := 0) inX3 (xE_4 c_53) rfl (by decide) wd_308 (Or.inr wd_307) rfl dX3_readPiece_121 ?_
                            obtain ⟨a_54, ea_54, h⟩ := x_some_e h
                            refine ev_at (st' := [va_rf (some a_54)]) rfl (by rw [ea_54]) ?_
                            obtain ⟨c_58, h⟩ := x_chk_e h
                            rcases x_bind_e h with ⟨v_55, σ_56, h_57, h⟩ | ⟨E_64, σ_56, h_57, h⟩
                            · have z9 := x_call (M := mX3_readPiece) (M' := mX10_step) (pc := 124) (st := [va_rf (some a_54)]) (rest := []) (av := [va_rf (some a_54)]) (x_linkV (M := mX3_readPiece) (M' := mX10_step) (As := []) (index := 58) (C := RX10) (T := TX10) (xE_10 c_58) rfl wd_344 wd_247 wd_245 xw_X10_step rfl (by decide) rfl rfl dX3_readPiece_124) (ev_X10_step hO hP h_57) xw_X10_step rfl wd_118 dX3_readPiece_124 (by decide) (by decide) (by simp [x_cat, x_catI, x_catJ])
                              refine x_callR z9 ?_
                              refine ev_at (st' := []) rfl rfl ?_
                              refine ev_aload_n (j := 0) (x := (some a0)) dX3_readPiece_127 rfl rfl ?_
                              obtain ⟨c_62, h⟩ := x_chk_e h
                              rcases x_bind_e h with ⟨v_59, σ_60, h_61, h⟩ | ⟨E_63, σ_60, h_61, h⟩
                              · have z9 := x_call (M := mX3_readPiece) (M' := mX8_endModule) (pc := 128) (st := [va_rf (some a0)]) (rest := []) (av := [va_rf (some a0)]) (x_linkU (M := mX3_readPiece) (M' := mX8_endModule) (As := []) (index := 61) (C := RX3) (T := TX3) (owner := "NetlistForms$Reader") (x := ⟨"NetlistForms$LongReader", "endModule", "()V"⟩) (xE_4 c_62) rfl wd_502 wd_503 (Or.inr rfl) wd_504 wd_505 xw_X8_endModule rfl (by decide) rfl rfl dX3_readPiece_128) (ev_X8_endModule hO hP h_61) xw_X8_endModule rfl wd_104 dX3_readPiece_128 (by decide) (by decide) (by simp [x_cat, x_catI, x_catJ])
                                refine x_callR z9 ?_
                                refine ev_at (st' := []) rfl rfl ?_
                                refine ev_goto (tgt := 138) dX3_readPiece_131 (by decide) ?_
                                exact ev_sub [] rfl (ev_X3_readPiece_p138 hO hP h)
                              · have z9 := x_call (M := mX3_readPiece) (M' := mX8_endModule) (pc := 128) (st := [va_rf (some a0)]) (rest := []) (av := [va_rf (some a0)]) (x_linkU (M := mX3_readPiece) (M' := mX8_endModule) (As := []) (index := 61) (C := RX3) (T := TX3) (owner := "NetlistForms$Reader") (x := ⟨"NetlistForms$LongReader", "endModule", "()V"⟩) (xE_4 c_62) rfl wd_502 wd_503 (Or.inr rfl) wd_504 wd_505 xw_X8_endModule rfl (by decide) rfl rfl dX3_readPiece_128) (ev_X8_endModule hO hP h_61) xw_X8_endModule rfl wd_104 dX3_readPiece_128 (by decide) (by decide) (by simp [x_cat, x_catI, x_catJ])
                                cases h
                                exact x_callX z9 (evX_out rfl)
                            · have z9 := x_call (M := mX3_readPiece) (M' := mX10_step) (pc := 124) (st := [va_rf (some a_54)]) (rest := []) (av := [va_rf (some a_54)]) (x_linkV (M := mX3_readPiece) (M' := mX10_step) (As := []) (index := 58) (C := RX10) (T := TX10) (xE_10 c_58) rfl wd_344 wd_247 wd_245 xw_X10_step rfl (by decide) rfl rfl dX3_readPiece_124) (ev_X10_step hO hP h_57) xw_X10_step rfl wd_118 dX3_readPiece_124 (by decide) (by decide) (by simp [x_cat, x_catI, x_catJ])
                              cases h
                              exact x_callX z9 (evX_out rfl)
                          · have z9 := x_call (M := mX3_readPiece) (M' := mX10_refuseIf) (pc := 117) (st := [.int v_44, va_rf (some a_48)]) (rest := []) (av := [va_rf (some a_48), .int v_44]) (x_linkV (M := mX3_readPiece) (M' := mX10_refuseIf) (As := [.int v_44]) (index := 55) (C := RX10) (T := TX10) (xE_10 c_52) rfl wd_333 wd_243 wd_241 xw_X10_refuseIf rfl (by decide) rfl rfl dX3_readPiece_117) (ev_X10_refuseIf hO hP h_51) xw_X10_refuseIf rfl wd_118 dX3_readPiece_117 (by decide) (by decide) (by simp [x_cat, x_catI, x_catJ])
                            cases h
                            exact x_callX z9 (evX_out rfl)
                        · have z9 := x_call (M := mX3_readPiece) (M' := mX5_hasUntoldPort) (pc := 114) (st := [va_rf (some a_43), va_rf (σ_33.R 300 a0)]) (rest := [va_rf (σ_33.R 300 a0)]) (av := [va_rf (some a_43)]) (x_linkV (M := mX3_readPiece) (M' := mX5_hasUntoldPort) (As := []) (index := 49) (C := RX5) (T := TX5) (xE_6 c_47) rfl wd_499 wd_500 wd_498 xw_X5_hasUntoldPort rfl (by decide) rfl rfl dX3_readPiece_114) (ev_X5_hasUntoldPort hO hP h_46) xw_X5_hasUntoldPort rfl wd_274 dX3_readPiece_114 (by decide) (by decide) (by simp [x_cat, x_catI, x_catJ])
                          cases h
                          exact x_callX z9 (evX_out rfl)
                    · have z9 := x_call (M := mX3_readPiece) (M' := mX10_isText) (pc := 100) (st := [va_rf (some (P.ad 11)), va_rf (some a_31)]) (rest := []) (av := [va_rf (some a_31), va_rf (some (P.ad 11))]) (x_linkV (M := mX3_readPiece) (M' := mX10_isText) (As := [va_rf (some (P.ad 11))]) (index := 25) (C := RX10) (T := TX10) (xE_10 c_35) rfl wd_493 wd_239 wd_237 xw_X10_isText rfl (by decide) rfl rfl dX3_readPiece_100) (ev_X10_isText hO hP h_34) xw_X10_isText rfl wd_118 dX3_readPiece_100 (by decide) (by decide) (by simp [x_cat, x_catI, x_catJ])
                      cases h
                      exact x_callX z9 (evX_out rfl)
                  · rw [if_neg c_29] at h
                    refine ev_if_eq (x := v_25) (tgt := 94) dX3_readPiece_83 (by decide) (fun q9 => absurd q9 c_29) (fun _ => ?_)
                    refine ev_aload_n (j := 0) (x := (some a0)) dX3_readPiece_86 rfl rfl ?_
                    refine ev_iconst (v := 1) dX3_readPiece_87 (by decide) ?_
                    obtain ⟨c_71, h⟩ := x_chk_e h
                    rcases x_bind_e h with ⟨v_68, σ_69, h_70, h⟩ | ⟨E_72, σ_69, h_70, h⟩
                    · have z9 := x_call (M := mX3_readPiece) (M' := mX8_readAssign) (pc := 88) (st := [.int 1, va_rf (some a0)]) (rest := []) (av := [va_rf (some a0), .int 1]) (x_linkU (M := mX3_readPiece) (M' := mX8_readAssign) (As := [.int 1]) (index := 43) (C := RX3) (T := TX3) (owner := "NetlistForms$Reader") (x := ⟨"NetlistForms$LongReader", "readAssign", "(Z)V"⟩) (xE_4 c_71) rfl wd_507 wd_508 (Or.inr rfl) wd_509 wd_510 xw_X8_readAssign rfl (by decide) rfl rfl dX3_readPiece_88) (ev_X8_readAssign hO hP h_70) xw_X8_readAssign rfl wd_104 dX3_readPiece_88 (by decide) (by decide) (by simp [x_cat, x_catI, x_catJ])
                      refine x_callR z9 ?_
                      refine ev_at (st' := []) rfl rfl ?_
                      refine ev_goto (tgt := 138) dX3_readPiece_91 (by decide) ?_
                      exact ev_sub [] rfl (ev_X3_readPiece_p138 hO hP h)
                    · have z9 := x_call (M := mX3_readPiece) (M' := mX8_readAssign) (pc := 88) (st := [.int 1, va_rf (some a0)]) (rest := []) (av := [va_rf (some a0), .int 1]) (x_linkU (M := mX3_readPiece) (M' := mX8_readAssign) (As := [.int 1]) (index := 43) (C := RX3) (T := TX3) (owner := "NetlistForms$Reader") (x := ⟨"NetlistForms$LongReader", "readAssign", "(Z)V"⟩) (xE_4 c_71) rfl wd_507 wd_508 (Or.inr rfl) wd_509 wd_510 xw_X8_readAssign rfl (by decide) rfl rfl dX3_readPiece_88) (ev_X8_readAssign hO hP h_70) xw_X8_readAssign rfl wd_104 dX3_readPiece_88 (by decide) (by decide) (by simp [x_cat, x_catI, x_catJ])
                      cases h
                      exact x_callX z9 (evX_out rfl)
                · have z9 := x_call (M := mX3_readPiece) (M' := mX10_isText) (pc := 80) (st := [va_rf (some (P.ad 7)), va_rf (some a_24)]) (rest := []) (av := [va_rf (some a_24), va_rf (some (P.ad 7))]) (x_linkV (M := mX3_readPiece) (M' := mX10_isText) (As := [va_rf (some (P.ad 7))]) (index := 25) (C := RX10) (T := TX10) (xE_10 c_28) rfl wd_493 wd_239 wd_237 xw_X10_isText rfl (by decide) rfl rfl dX3_readPiece_80) (ev_X10_isText hO hP h_27) xw_X10_isText rfl wd_118 dX3_readPiece_80 (by decide) (by decide) (by simp [x_cat, x_catI, x_catJ])
                  cases h
                  exact x_callX z9 (evX_out rfl)
              · rw [if_neg c_22] at h
                refine ev_if_eq (x := v_18) (tgt := 74) dX3_readPiece_63 (by decide) (fun q9 => absurd q9 c_22) (fun _ => ?_)
                refine ev_aload_n (j := 0) (x := (some a0)) dX3_readPiece_66 rfl rfl ?_
                refine ev_iconst (v := 2) dX3_readPiece_67 (by decide) ?_
                obtain ⟨c_77, h⟩ := x_chk_e h
                rcases x_bind_e h with ⟨v_74, σ_75, h_76, h⟩ | ⟨E_78, σ_75, h_76, h⟩
                · have z9 := x_call (M := mX3_readPiece) (M' := mX3_readNets) (pc := 68) (st := [.int 2, va_rf (some a0)]) (rest := []) (av := [va_rf (some a0), .int 2]) (x_linkV (M := mX3_readPiece) (M' := mX3_readNets) (As := [.int 2]) (index := 33) (C := RX3) (T := TX3) (xE_4 c_77) rfl wd_512 wd_513 (wG_in (List.mem_append_left _ (List.mem_of_getElem? (i := 7) rfl)) rfl) xw_X3_readNets rfl (by decide) rfl rfl dX3_readPiece_68) (ev_X3_readNets hO hP h_76) xw_X3_readNets rfl wd_124 dX3_readPiece_68 (by decide) (by decide) (by simp [x_cat, x_catI, x_catJ])
                  refine x_callR z9 ?_
                  refine ev_at (st' := []) rfl rfl ?_
                  refine ev_goto (tgt := 138) dX3_readPiece_71 (by decide) ?_
                  exact ev_sub [] rfl (ev_X3_readPiece_p138 hO hP h)
                · have z9 := x_call (M := mX3_readPiece) (M' := mX3_readNets) (pc := 68) (st := [.int 2, va_rf (some a0)]) (rest := []) (av := [va_rf (some a0), .int 2]) (x_linkV (M := mX3_readPiece) (M' := mX3_readNets) (As := [.int 2]) (index := 33) (C := RX3) (T := TX3) (xE_4 c_77) rfl wd_512 wd_513 (wG_in (List.mem_append_left _ (List.mem_of_getElem? (i := 7) rfl)) rfl) xw_X3_readNets rfl (by decide) rfl rfl dX3_readPiece_68) (ev_X3_readNets hO hP h_76) xw_X3_readNets rfl wd_124 dX3_readPiece_68 (by decide) (by decide) (by simp [x_cat, x_catI, x_catJ])
                  cases h
                  exact x_callX z9 (evX_out rfl)
            · have z9 := x_call (M := mX3_readPiece) (M' := mX10_isText) (pc := 60) (st := [va_rf (some (P.ad 29)), va_rf (some a_17)]) (rest := []) (av := [va_rf (some a_17), va_rf (some (P.ad 29))]) (x_linkV (M := mX3_readPiece) (M' := mX10_isText) (As := [va_rf (some (P.ad 29))]) (index := 25) (C := RX10) (T := TX10) (xE_10 c_21) rfl wd_493 wd_239 wd_237 xw_X10_isText rfl (by decide) rfl rfl dX3_readPiece_60) (ev_X10_isText hO hP h_20) xw_X10_isText rfl wd_118 dX3_readPiece_60 (by decide) (by decide) (by simp [x_cat, x_catI, x_catJ])
              cases h
              exact x_callX z9 (evX_out rfl)
          · rw [if_neg c_15] at h
            refine ev_if_eq (x := v_11) (tgt := 54) dX3_readPiece_43 (by decide) (fun q9 => absurd q9 c_15) (fun _ => ?_)
            refine ev_aload_n (j := 0) (x := (some a0)) dX3_readPiece_46 rfl rfl ?_
            refine ev_iconst (v := 1) dX3_readPiece_47 (by decide) ?_
            obtain ⟨c_83, h⟩ := x_chk_e h
            rcases x_bind_e h with ⟨v_80, σ_81, h_82, h⟩ | ⟨E_84, σ_81, h_82, h⟩
            · have z9 := x_call (M := mX3_readPiece) (M' := mX3_readNets) (pc := 48) (st := [.int 1, va_rf (some a0)]) (rest := []) (av := [va_rf (some a0), .int 1]) (x_linkV (M := mX3_readPiece) (M' := mX3_readNets) (As := [.int 1]) (index := 33) (C := RX3) (T := TX3) (xE_4 c_83) rfl wd_512 wd_513 (wG_in (List.mem_append_left _ (List.mem_of_getElem? (i := 7) rfl)) rfl) xw_X3_readNets rfl (by decide) rfl rfl dX3_readPiece_48) (ev_X3_readNets hO hP h_82) xw_X3_readNets rfl wd_124 dX3_readPiece_48 (by decide) (by decide) (by simp [x_cat, x_catI, x_catJ])
              refine x_callR z9 ?_
              refine ev_at (st' := []) rfl rfl ?_
              refine ev_goto (tgt := 138) dX3_readPiece_51 (by decide) ?_
              exact ev_sub [] rfl (ev_X3_readPiece_p138 hO hP h)
            · have z9 := x_call (M := mX3_readPiece) (M' := mX3_readNets) (pc := 48) (st := [.int 1, va_rf (some a0)]) (rest := []) (av := [va_rf (some a0), .int 1]) (x_linkV (M := mX3_readPiece) (M' := mX3_readNets) (As := [.int 1]) (index := 33) (C := RX3) (T := TX3) (xE_4 c_83) rfl wd_512 wd_513 (wG_in (List.mem_append_left _ (List.mem_of_getElem? (i := 7) rfl)) rfl) xw_X3_readNets rfl (by decide) rfl rfl dX3_readPiece_48) (ev_X3_readNets hO hP h_82) xw_X3_readNets rfl wd_124 dX3_readPiece_48 (by decide) (by decide) (by simp [x_cat, x_catI, x_catJ])
              cases h
              exact x_callX z9 (evX_out rfl)
        · have z9 := x_call (M := mX3_readPiece) (M' := mX10_isText) (pc := 40) (st := [va_rf (some (P.ad 23)), va_rf (some a_10)]) (rest := []) (av := [va_rf (some a_10), va_rf (some (P.ad 23))]) (x_linkV (M := mX3_readPiece) (M' := mX10_isText) (As := [va_rf (some (P.ad 23))]) (index := 25) (C := RX10) (T := TX10) (xE_10 c_14) rfl wd_493 wd_239 wd_237 xw_X10_isText rfl (by decide) rfl rfl dX3_readPiece_40) (ev_X10_isText hO hP h_13) xw_X10_isText rfl wd_118 dX3_readPiece_40 (by decide) (by decide) (by simp [x_cat, x_catI, x_catJ])
          cases h
          exact x_callX z9 (evX_out rfl)
      · rw [if_neg c_8] at h
        refine ev_if_eq (x := v_4) (tgt := 34) dX3_readPiece_23 (by decide) (fun q9 => absurd q9 c_8) (fun _ => ?_)
        refine ev_aload_n (j := 0) (x := (some a0)) dX3_readPiece_26 rfl rfl ?_
        refine ev_iconst (v := 0) dX3_readPiece_27 (by decide) ?_
        obtain ⟨c_89, h⟩ := x_chk_e h
        rcases x_bind_e h with ⟨v_86, σ_87, h_88, h⟩ | ⟨E_90, σ_87, h_88, h⟩
        · have z9 := x_call (M := mX3_readPiece) (M' := mX3_readNets) (pc := 28) (st := [.int 0, va_rf (some a0)]) (rest := []) (av := [va_rf (some a0), .int 0]) (x_linkV (M := mX3_readPiece) (M' := mX3_readNets) (As := [.int 0]) (index := 33) (C := RX3) (T := TX3) (xE_4 c_89) rfl wd_512 wd_513 (wG_in (List.mem_append_left _ (List.mem_of_getElem? (i := 7) rfl)) rfl) xw_X3_readNets rfl (by decide) rfl rfl dX3_readPiece_28) (ev_X3_readNets hO hP h_88) xw_X3_readNets rfl wd_124 dX3_readPiece_28 (by decide) (by decide) (by simp [x_cat, x_catI, x_catJ])
          refine x_callR z9 ?_
          refine ev_at (st' := []) rfl rfl ?_
          refine ev_goto (tgt := 138) dX3_readPiece_31 (by decide) ?_
          exact ev_sub [] rfl (ev_X3_readPiece_p138 hO hP h)
        · have z9 := x_call (M := mX3_readPiece) (M' := mX3_readNets) (pc := 28) (st := [.int 0, va_rf (some a0)]) (rest := []) (av := [va_rf (some a0), .int 0]) (x_linkV (M := mX3_readPiece) (M' := mX3_readNets) (As := [.int 0]) (index := 33) (C := RX3) (T := TX3) (xE_4 c_89) rfl wd_512 wd_513 (wG_in (List.mem_append_left _ (List.mem_of_getElem? (i := 7) rfl)) rfl) xw_X3_readNets rfl (by decide) rfl rfl dX3_readPiece_28) (ev_X3_readNets hO hP h_88) xw_X3_readNets rfl wd_124 dX3_readPiece_28 (by decide) (by decide) (by simp [x_cat, x_catI, x_catJ])
          cases h
          exact x_callX z9 (evX_out rfl)
    · have z9 := x_call (M := mX3_readPiece) (M' := mX10_isText) (pc := 20) (st := [va_rf (some (P.ad 15)), va_rf (some a_3)]) (rest := []) (av := [va_rf (some a_3), va_rf (some (P.ad 15))]) (x_linkV (M := mX3_readPiece) (M' := mX10_isText) (As := [va_rf (some (P.ad 15))]) (index := 25) (C := RX10) (T := TX10) (xE_10 c_7) rfl wd_493 wd_239 wd_237 xw_X10_isText rfl (by decide) rfl rfl dX3_readPiece_20) (ev_X10_isText hO hP h_6) xw_X10_isText rfl wd_118 dX3_readPiece_20 (by decide) (by decide) (by simp [x_cat, x_catI, x_catJ])
      cases h
      exact x_callX z9 (evX_out rfl)
set_option maxHeartbeats 4000000 in
set_option maxRecDepth 100000 in
theorem ev_X9_readNet_p35 {l : Launch} {G : xG} (hO : x_OK l G) {P : xP} (hP : x_PG P G) {a0 : Nat} {v1 : Int32} {v2 : Int64} {s0 : Option Nat} {s1 : Int32} {σ σ' : xS} {rr : Unit ⊕ String} (h : dm_X9_readNet_p35 P a0 v1 v2 s0 s1 σ = some (rr, σ')) : Ev l G mX9_readNet 35 [(0, va_rf (some a0)), (1, .int v1), (2, .long v2)] [.int s1, va_rf s0] σ (xrV rr) σ' := by
  unfold dm_X9_readNet_p35 at h
  obtain ⟨a_1, ea_1, h⟩ := x_some_e h
  refine ev_at (st' := [.int s1, va_rf (some a_1)]) rfl (by rw [ea_1]) ?_
  obtain ⟨c_5, h⟩ := x_chk_e h
  rcases x_bind_e h with ⟨v_2, σ_3, h_4, h⟩ | ⟨E_40, σ_3, h_4, h⟩
  · have z9 := x_call (M := mX9_readNet) (M' := mX10_refuseIf) (pc := 35) (st := [.int s1, va_rf (some a_1)]) (rest := []) (av := [va_rf (some a_1), .int s1]) (x_linkV (M := mX9_readNet) (M' := mX10_refuseIf) (As := [.int s1]) (index := 80) (C := RX10) (T := TX10) (xE_10 c_5) rfl wd_522 wd_243 wd_241 xw_X10_refuseIf rfl (by decide) rfl rfl dX9_readNet_35) (ev_X10_refuseIf hO hP h_4) xw_X10_refuseIf rfl wd_118 dX9_readNet_35 (by decide) (by decide) (by simp [x_cat, x_catI, x_catJ])
    refine x_callR z9 ?_
    refine ev_at (st' := []) rfl rfl ?_
    refine ev_aload_n (j := 0) (x := (some a0)) dX9_readNet_38 rfl rfl ?_
    obtain ⟨c_6, h⟩ := x_chk_e h
    refine ev_get (C := RX9) (T := TX9) (k := 0) inX9 (xE_9 c_6) rfl (by decide) wd_403 (Or.inr wd_402) rfl dX9_readNet_39 ?_
    obtain ⟨a_7, ea_7, h⟩ := x_some_e h
    refine ev_at (st' := [va_rf (some a_7)]) rfl (by rw [ea_7]) ?_
    obtain ⟨c_11, h⟩ := x_chk_e h
    rcases x_bind_e h with ⟨v_8, σ_9, h_10, h⟩ | ⟨E_39, σ_9, h_10, h⟩
    · have z9 := x_call (M := mX9_readNet) (M' := mX10_step) (pc := 42) (st := [va_rf (some a_7)]) (rest := []) (av := [va_rf (some a_7)]) (x_linkV (M := mX9_readNet) (M' := mX10_step) (As := []) (index := 67) (C := RX10) (T := TX10) (xE_10 c_11) rfl wd_517 wd_247 wd_245 xw_X10_step rfl (by decide) rfl rfl dX9_readNet_42) (ev_X10_step hO hP h_10) xw_X10_step rfl wd_118 dX9_readNet_42 (by decide) (by decide) (by simp [x_cat, x_catI, x_catJ])
      refine x_callR z9 ?_
      refine ev_at (st' := []) rfl rfl ?_
      refine ev_aload_n (j := 0) (x := (some a0)) dX9_readNet_45 rfl rfl ?_
      obtain ⟨c_12, h⟩ := x_chk_e h
      refine ev_get (C := RX9) (T := TX9) (k := 2) inX9 (xE_9 c_12) rfl (by decide) wd_520 (Or.inr wd_519) rfl dX9_readNet_46 ?_
      obtain ⟨c_13, h⟩ := x_chk_e h
      obtain ⟨σ_14, eσ_14, h⟩ := x_let_e h
      refine ev_new (C := RX4) (T := TX4) (N := 4) (ci := 4) inX4 tyX4 tyX4_ok rfl (by decide) wd_523 wd_335 wd_336 (hP.2.1 ▸ c_13.1) (hP.2.2.1 ▸ c_13.2) (nE_5 _ _) nF_5 dX9_readNet_49 (eσ_14 ▸ ?_)
      refine ev_dup dX9_readNet_52 (x_cat _) ?_
      refine ev_lload_n (j := 2) (x := v2) dX9_readNet_53 rfl rfl ?_
      refine ev_iload_n (j := 1) (x := v1) dX9_readNet_54 rfl rfl ?_
      refine ev_aload_n (j := 0) (x := (some a0)) dX9_readNet_55 rfl rfl ?_
      obtain ⟨c_15, h⟩ := x_chk_e h
      refine ev_get (C := RX9) (T := TX9) (k := 0) inX9 (xE_9 c_15) rfl (by decide) wd_403 (Or.inr wd_402) rfl dX9_readNet_56 ?_
      refine ev_iconst (v := 1) dX9_readNet_59 (by decide) ?_
      refine ev_bipush (v := 8) dX9_readNet_60 (by decide) ?_
      obtain ⟨a_16, ea_16, h⟩ := x_some_e h
      refine ev_at (st' := [.int 8, .int 1, va_rf (some a_16), .int v1, .long v2, va_rf (some σ_9.sz), va_rf (some σ_9.sz), va_rf (σ_9.R 302 a0)]) rfl (by rw [ea_16]) ?_
      obtain ⟨c_20, h⟩ := x_chk_e h
      rcases x_bind_e h with ⟨v_17, σ_18, h_19, h⟩ | ⟨E_38, σ_18, h_19, h⟩
      · have z9 := x_call (M := mX9_readNet) (M' := mX10_takeNumber) (pc := 62) (st := [.int 8, .int 1, va_rf (some a_16), .int v1, .long v2, va_rf (some σ_9.sz), va_rf (some σ_9.sz), va_rf (σ_9.R 302 a0)]) (rest := [.int v1, .long v2, va_rf (some σ_9.sz), va_rf (some σ_9.sz), va_rf (σ_9.R 302 a0)]) (av := [va_rf (some a_16), .int 1, .int 8]) (x_linkV (M := mX9_readNet) (M' := mX10_takeNumber) (As := [.int 1, .int 8]) (index := 83) (C := RX10) (T := TX10) (xE_10 c_20) rfl wd_524 wd_352 wd_350 xw_X10_takeNumber rfl (by decide) rfl rfl dX9_readNet_62) (ev_X10_takeNumber hO hP h_19) xw_X10_takeNumber rfl wd_118 dX9_readNet_62 (by decide) (by decide) (by simp [x_cat, x_catI, x_catJ])
        refine x_callR z9 ?_
        refine ev_at (st' := [.int v_17, .int v1, .long v2, va_rf (some σ_9.sz), va_rf (some σ_9.sz), va_rf (σ_9.R 302 a0)]) rfl rfl ?_
        rcases x_bind_e h with ⟨v_21, σ_22, h_23, h⟩ | ⟨E_37, σ_22, h_23, h⟩
        · have z9 := x_call (M := mX9_readNet) (M' := mX4_init) (pc := 65) (st := [.int v_17, .int v1, .long v2, va_rf (some σ_9.sz), va_rf (some σ_9.sz), va_rf (σ_9.R 302 a0)]) (rest := [va_rf (some σ_9.sz), va_rf (σ_9.R 302 a0)]) (av := [va_rf (some σ_9.sz), .long v2, .int v1, .int v_17]) (x_linkI (M := mX9_readNet) (M' := mX4_init) (As := [.long v2, .int v1, .int v_17]) (index := 87) (b := σ_9.sz) rfl wd_525 wd_339 wd_337 (by decide) rfl rfl dX9_readNet_65) (ev_X4_init hO hP h_23) xw_X4_init rfl wd_336 dX9_readNet_65 (by decide) (by decide) (by simp [x_cat, x_catI, x_catJ])
          refine x_callR z9 ?_
          refine ev_at (st' := [va_rf (some σ_9.sz), va_rf (σ_9.R 302 a0)]) rfl rfl ?_
          obtain ⟨a_24, ea_24, h⟩ := x_some_e h
          refine ev_at (st' := [va_rf (some σ_9.sz), va_rf (some a_24)]) rfl (by rw [ea_24]) ?_
          obtain ⟨c_28, h⟩ := x_chk_e h
          rcases x_bind_e h with ⟨v_25, σ_26, h_27, h⟩ | ⟨E_36, σ_26, h_27, h⟩
          · have z9 := x_call (M := mX9_readNet) (M' := mX5_addNet) (pc := 68) (st := [va_rf (some σ_9.sz), va_rf (some a_24)]) (rest := []) (av := [va_rf (some a_24), va_rf (some σ_9.sz)]) (x_linkV (M := mX9_readNet) (M' := mX5_addNet) (As := [va_rf (some σ_9.sz)]) (index := 90) (C := RX5) (T := TX5) (xE_6 c_28) rfl wd_526 wd_343 wd_341 xw_X5_addNet rfl (by decide) rfl rfl dX9_readNet_68) (ev_X5_addNet hO hP h_27) xw_X5_addNet rfl wd_274 dX9_readNet_68 (by decide) (by decide) (by simp [x_cat, x_catI, x_catJ])
            refine x_callR z9 ?_
            refine ev_at (st' := []) rfl rfl ?_
            refine ev_aload_n (j := 0) (x := (some a0)) dX9_readNet_71 rfl rfl ?_
            obtain ⟨c_29, h⟩ := x_chk_e h
            refine ev_get (C := RX9) (T := TX9) (k := 0) inX9 (xE_9 c_29) rfl (by decide) wd_403 (Or.inr wd_402) rfl dX9_readNet_72 ?_
            refine ev_bipush (v := 59) dX9_readNet_75 (by decide) ?_
            obtain ⟨a_30, ea_30, h⟩ := x_some_e h
            refine ev_at (st' := [.int 59, va_rf (some a_30)]) rfl (by rw [ea_30]) ?_
            obtain ⟨c_34, h⟩ := x_chk_e h
            rcases x_bind_e h with ⟨v_31, σ_32, h_33, h⟩ | ⟨E_35, σ_32, h_33, h⟩
            · have z9 := x_call (M := mX9_readNet) (M' := mX10_takeSign) (pc := 77) (st := [.int 59, va_rf (some a_30)]) (rest := []) (av := [va_rf (some a_30), .int 59]) (x_linkV (M := mX9_readNet) (M' := mX10_takeSign) (As := [.int 59]) (index := 31) (C := RX10) (T := TX10) (xE_10 c_34) rfl wd_527 wd_321 wd_319 xw_X10_takeSign rfl (by decide) rfl rfl dX9_readNet_77) (ev_X10_takeSign hO hP h_33) xw_X10_takeSign rfl wd_118 dX9_readNet_77 (by decide) (by decide) (by simp [x_cat, x_catI, x_catJ])
              refine x_callR z9 ?_
              refine ev_at (st' := []) rfl rfl ?_
              cases h
              exact ev_vret rfl dX9_readNet_80
            · have z9 := x_call (M := mX9_readNet) (M' := mX10_takeSign) (pc := 77) (st := [.int 59, va_rf (some a_30)]) (rest := []) (av := [va_rf (some a_30), .int 59]) (x_linkV (M := mX9_readNet) (M' := mX10_takeSign) (As := [.int 59]) (index := 31) (C := RX10) (T := TX10) (xE_10 c_34) rfl wd_527 wd_321 wd_319 xw_X10_takeSign rfl (by decide) rfl rfl dX9_readNet_77) (ev_X10_takeSign hO hP h_33) xw_X10_takeSign rfl wd_118 dX9_readNet_77 (by decide) (by decide) (by simp [x_cat, x_catI, x_catJ])
              cases h
              exact x_callX z9 (evX_out rfl)
          · have z9 := x_call (M := mX9_readNet) (M' := mX5_addNet) (pc := 68) (st := [va_rf (some σ_9.sz), va_rf (some a_24)]) (rest := []) (av := [va_rf (some a_24), va_rf (some σ_9.sz)]) (x_linkV (M := mX9_readNet) (M' := mX5_addNet) (As := [va_rf (some σ_9.sz)]) (index := 90) (C := RX5) (T := TX5) (xE_6 c_28) rfl wd_526 wd_343 wd_341 xw_X5_addNet rfl (by decide) rfl rfl dX9_readNet_68) (ev_X5_addNet hO hP h_27) xw_X5_addNet rfl wd_274 dX9_readNet_68 (by decide) (by decide) (by simp [x_cat, x_catI, x_catJ])
            cases h
            exact x_callX z9 (evX_out rfl)
        · have z9 := x_call (M := mX9_readNet) (M' := mX4_init) (pc := 65) (st := [.int v_17, .int v1, .long v2, va_rf (some σ_9.sz), va_rf (some σ_9.sz), va_rf (σ_9.R 302 a0)]) (rest := [va_rf (some σ_9.sz), va_rf (σ_9.R 302 a0)]) (av := [va_rf (some σ_9.sz), .long v2, .int v1, .int v_17]) (x_linkI (M := mX9_readNet) (M' := mX4_init) (As := [.long v2, .int v1, .int v_17]) (index := 87) (b := σ_9.sz) rfl wd_525 wd_339 wd_337 (by decide) rfl rfl dX9_readNet_65) (ev_X4_init hO hP h_23) xw_X4_init rfl wd_336 dX9_readNet_65 (by decide) (by decide) (by simp [x_cat, x_catI, x_catJ])
          cases h
          exact x_callX z9 (evX_out rfl)
      · have z9 := x_call (M := mX9_readNet) (M' := mX10_takeNumber) (pc := 62) (st := [.int 8, .int 1, va_rf (some a_16), .int v1, .long v2, va_rf (some σ_9.sz), va_rf (some σ_9.sz), va_rf (σ_9.R 302 a0)]) (rest := [.int v1, .long v2, va_rf (some σ_9.sz), va_rf (some σ_9.sz), va_rf (σ_9.R 302 a0)]) (av := [va_rf (some a_16), .int 1, .int 8]) (x_linkV (M := mX9_readNet) (M' := mX10_takeNumber) (As := [.int 1, .int 8]) (index := 83) (C := RX10) (T := TX10) (xE_10 c_20) rfl wd_524 wd_352 wd_350 xw_X10_takeNumber rfl (by decide) rfl rfl dX9_readNet_62) (ev_X10_takeNumber hO hP h_19) xw_X10_takeNumber rfl wd_118 dX9_readNet_62 (by decide) (by decide) (by simp [x_cat, x_catI, x_catJ])
        cases h
        exact x_callX z9 (evX_out rfl)
    · have z9 := x_call (M := mX9_readNet) (M' := mX10_step) (pc := 42) (st := [va_rf (some a_7)]) (rest := []) (av := [va_rf (some a_7)]) (x_linkV (M := mX9_readNet) (M' := mX10_step) (As := []) (index := 67) (C := RX10) (T := TX10) (xE_10 c_11) rfl wd_517 wd_247 wd_245 xw_X10_step rfl (by decide) rfl rfl dX9_readNet_42) (ev_X10_step hO hP h_10) xw_X10_step rfl wd_118 dX9_readNet_42 (by decide) (by decide) (by simp [x_cat, x_catI, x_catJ])
      cases h
      exact x_callX z9 (evX_out rfl)
  · have z9 := x_call (M := mX9_readNet) (M' := mX10_refuseIf) (pc := 35) (st := [.int s1, va_rf (some a_1)]) (rest := []) (av := [va_rf (some a_1), .int s1]) (x_linkV (M := mX9_readNet) (M' := mX10_refuseIf) (As := [.int s1]) (index := 80) (C := RX10) (T := TX10) (xE_10 c_5) rfl wd_522 wd_243 wd_241 xw_X10_refuseIf rfl (by decide) rfl rfl dX9_readNet_35) (ev_X10_refuseIf hO hP h_4) xw_X10_refuseIf rfl wd_118 dX9_readNet_35 (by decide) (by decide) (by simp [x_cat, x_catI, x_catJ])
    cases h
    exact x_callX z9 (evX_out rfl)
set_option maxHeartbeats 4000000 in
set_option maxRecDepth 100000 in
theorem ev_X9_readNet {l : Launch} {G : xG} (hO : x_OK l G) {P : xP} (hP : x_PG P G) {a0 : Nat} {v1 : Int32} {σ σ' : xS} {rr : Unit ⊕ String} (h : dm_X9_readNet P a0 v1 σ = some (rr, σ')) : EvM l G mX9_readNet [va_rf (some a0), .int v1] σ (xrV rr) σ' := by
  unfold dm_X9_readNet at h
  refine evM_of hO (by decide +kernel) (x_lenI (by simp [x_cat, x_catI, x_catJ, mX9_readNet, xM.maxL])) ?_
  refine Eq.mp (congrArg (fun z => Ev l G mX9_readNet 0 z [] σ (xrV rr) σ') (show [(0, va_rf (some a0)), (1, .int v1)] = lv_args 0 [va_rf (some a0), .int v1] by simp [lv_args, x_cat, x_catI, x_catJ])) ?_
  refine ev_aload_n (j := 0) (x := (some a0)) dX9_readNet_0 rfl rfl ?_
  obtain ⟨c_1, h⟩ := x_chk_e h
  refine ev_get (C := RX9) (T := TX9) (k := 0) inX9 (xE_9 c_1) rfl (by decide) wd_403 (Or.inr wd_402) rfl dX9_readNet_1 ?_
  obtain ⟨a_2, ea_2, h⟩ := x_some_e h
  refine ev_at (st' := [va_rf (some a_2)]) rfl (by rw [ea_2]) ?_
  obtain ⟨c_6, h⟩ := x_chk_e h
  rcases x_bind_e h with ⟨v_3, σ_4, h_5, h⟩ | ⟨E_22, σ_4, h_5, h⟩
  · have z9 := x_call (M := mX9_readNet) (M' := mX10_step) (pc := 4) (st := [va_rf (some a_2)]) (rest := []) (av := [va_rf (some a_2)]) (x_linkV (M := mX9_readNet) (M' := mX10_step) (As := []) (index := 67) (C := RX10) (T := TX10) (xE_10 c_6) rfl wd_517 wd_247 wd_245 xw_X10_step rfl (by decide) rfl rfl dX9_readNet_4) (ev_X10_step hO hP h_5) xw_X10_step rfl wd_118 dX9_readNet_4 (by decide) (by decide) (by simp [x_cat, x_catI, x_catJ])
    refine x_callR z9 ?_
    refine ev_at (st' := []) rfl rfl ?_
    refine ev_aload_n (j := 0) (x := (some a0)) dX9_readNet_7 rfl rfl ?_
    obtain ⟨c_7, h⟩ := x_chk_e h
    refine ev_get (C := RX9) (T := TX9) (k := 0) inX9 (xE_9 c_7) rfl (by decide) wd_403 (Or.inr wd_402) rfl dX9_readNet_8 ?_
    obtain ⟨a_8, ea_8, h⟩ := x_some_e h
    refine ev_at (st' := [va_rf (some a_8)]) rfl (by rw [ea_8]) ?_
    obtain ⟨c_12, h⟩ := x_chk_e h
    rcases x_bind_e h with ⟨v_9, σ_10, h_11, h⟩ | ⟨E_21, σ_10, h_11, h⟩
    · have z9 := x_call (M := mX9_readNet) (M' := mX10_name) (pc := 11) (st := [va_rf (some a_8)]) (rest := []) (av := [va_rf (some a_8)]) (x_linkV (M := mX9_readNet) (M' := mX10_name) (As := []) (index := 70) (C := RX10) (T := TX10) (xE_10 c_12) rfl wd_518 wd_281 wd_279 xw_X10_name rfl (by decide) rfl rfl dX9_readNet_11) (ev_X10_name hO hP h_11) xw_X10_name rfl wd_118 dX9_readNet_11 (by decide) (by decide) (by simp [x_cat, x_catI, x_catJ])
      refine x_callR z9 ?_
      refine ev_at (st' := [.long v_9]) rfl rfl ?_
      refine ev_lstore_n (i := 2) (lv' := [(2, .long v_9), (0, va_rf (some a0)), (1, .int v1)]) dX9_readNet_14 rfl (by decide) rfl ?_
      refine ev_aload_n (j := 1) (x := (some a0)) dX9_readNet_15 rfl rfl ?_
      obtain ⟨c_13, h⟩ := x_chk_e h
      refine ev_get (C := RX9) (T := TX9) (k := 0) inX9 (xE_9 c_13) rfl (by decide) wd_403 (Or.inr wd_402) rfl dX9_readNet_16 ?_
      refine ev_aload_n (j := 1) (x := (some a0)) dX9_readNet_19 rfl rfl ?_
      refine ev_get (C := RX9) (T := TX9) (k := 2) inX9 (xE_9 c_13) rfl (by decide) wd_520 (Or.inr wd_519) rfl dX9_readNet_20 ?_
      refine ev_lload_n (j := 0) (x := v_9) dX9_readNet_23 rfl rfl ?_
      obtain ⟨a_14, ea_14, h⟩ := x_some_e h
      refine ev_at (st' := [.long v_9, va_rf (some a_14), va_rf (σ_10.R 300 a0)]) rfl (by rw [ea_14]) ?_
      obtain ⟨c_18, h⟩ := x_chk_e h
      rcases x_bind_e h with ⟨v_15, σ_16, h_17, h⟩ | ⟨E_20, σ_16, h_17, h⟩
      · have z9 := x_call (M := mX9_readNet) (M' := mX5_canTakeNet) (pc := 24) (st := [.long v_9, va_rf (some a_14), va_rf (σ_10.R 300 a0)]) (rest := [va_rf (σ_10.R 300 a0)]) (av := [va_rf (some a_14), .long v_9]) (x_linkV (M := mX9_readNet) (M' := mX5_canTakeNet) (As := [.long v_9]) (index := 74) (C := RX5) (T := TX5) (xE_6 c_18) rfl wd_521 wd_332 wd_330 xw_X5_canTakeNet rfl (by decide) rfl rfl dX9_readNet_24) (ev_X5_canTakeNet hO hP h_17) xw_X5_canTakeNet rfl wd_274 dX9_readNet_24 (by decide) (by decide) (by simp [x_cat, x_catI, x_catJ])
        refine x_callR z9 ?_
        refine ev_at (st' := [.int v_15, va_rf (σ_10.R 300 a0)]) rfl rfl ?_
        by_cases c_19 : v_15 = 0
        · rw [if_pos c_19] at h
          refine ev_if_ne (x := v_15) (tgt := 34) dX9_readNet_27 (by decide) (fun q9 => absurd c_19 q9) (fun _ => ?_)
          refine ev_iconst (v := 1) dX9_readNet_30 (by decide) ?_
          refine ev_goto (tgt := 35) dX9_readNet_31 (by decide) ?_
          exact ev_sub [1, 2, 0] rfl (ev_X9_readNet_p35 hO hP h)
        · rw [if_neg c_19] at h
          refine ev_if_ne (x := v_15) (tgt := 34) dX9_readNet_27 (by decide) (fun _ => ?_) (fun q9 => absurd q9 c_19)
          refine ev_iconst (v := 0) dX9_readNet_34 (by decide) ?_
          exact ev_sub [1, 2, 0] rfl (ev_X9_readNet_p35 hO hP h)
      · have z9 := x_call (M := mX9_readNet) (M' := mX5_canTakeNet) (pc := 24) (st := [.long v_9, va_rf (some a_14), va_rf (σ_10.R 300 a0)]) (rest := [va_rf (σ_10.R 300 a0)]) (av := [va_rf (some a_14), .long v_9]) (x_linkV (M := mX9_readNet) (M' := mX5_canTakeNet) (As := [.long v_9]) (index := 74) (C := RX5) (T := TX5) (xE_6 c_18) rfl wd_521 wd_332 wd_330 xw_X5_canTakeNet rfl (by decide) rfl rfl dX9_readNet_24) (ev_X5_canTakeNet hO hP h_17) xw_X5_canTakeNet rfl wd_274 dX9_readNet_24 (by decide) (by decide) (by simp [x_cat, x_catI, x_catJ])
        cases h
        exact x_callX z9 (evX_out rfl)
    · have z9 := x_call (M := mX9_readNet) (M' := mX10_name) (pc := 11) (st := [va_rf (some a_8)]) (rest := []) (av := [va_rf (some a_8)]) (x_linkV (M := mX9_readNet) (M' := mX10_name) (As := []) (index := 70) (C := RX10) (T := TX10) (xE_10 c_12) rfl wd_518 wd_281 wd_279 xw_X10_name rfl (by decide) rfl rfl dX9_readNet_11) (ev_X10_name hO hP h_11) xw_X10_name rfl wd_118 dX9_readNet_11 (by decide) (by decide) (by simp [x_cat, x_catI, x_catJ])
      cases h
      exact x_callX z9 (evX_out rfl)
  · have z9 := x_call (M := mX9_readNet) (M' := mX10_step) (pc := 4) (st := [va_rf (some a_2)]) (rest := []) (av := [va_rf (some a_2)]) (x_linkV (M := mX9_readNet) (M' := mX10_step) (As := []) (index := 67) (C := RX10) (T := TX10) (xE_10 c_6) rfl wd_517 wd_247 wd_245 xw_X10_step rfl (by decide) rfl rfl dX9_readNet_4) (ev_X10_step hO hP h_5) xw_X10_step rfl wd_118 dX9_readNet_4 (by decide) (by decide) (by simp [x_cat, x_catI, x_catJ])
    cases h
    exact x_callX z9 (evX_out rfl)
