set_option maxHeartbeats 4000000 in
set_option maxRecDepth 100000 in
theorem ev_X12_addRef {l : Launch} {G : xG} (hO : x_OK l G) {P : xP} (hP : x_PG P G) {a0 : Nat} {v1 : Int32} {v2 : Int32} {v3 : Int32} {v4 : Int32} {v5 : Int32} {σ σ' : xS} {rr : Int32 ⊕ String} (h : dm_X12_addRef P a0 v1 v2 v3 v4 v5 σ = some (rr, σ')) : EvM l G mX12_addRef [va_rf (some a0), .int v1, .int v2, .int v3, .int v4, .int v5] σ (xrI rr) σ' := by
  unfold dm_X12_addRef at h
  refine evM_of hO (by decide +kernel) (x_lenI (by simp [x_cat, x_catI, x_catJ, mX12_addRef, xM.maxL])) ?_
  refine Eq.mp (congrArg (fun z => Ev l G mX12_addRef 0 z [] σ (xrI rr) σ') (show [(0, va_rf (some a0)), (1, .int v1), (2, .int v2), (3, .int v3), (4, .int v4), (5, .int v5)] = lv_args 0 [va_rf (some a0), .int v1, .int v2, .int v3, .int v4, .int v5] by simp [lv_args, x_cat, x_catI, x_catJ])) ?_
  refine ev_sipush (v := 512) dX12_addRef_0 (by decide) ?_
  refine ev_aload_n (j := 0) (x := (some a0)) dX12_addRef_3 rfl rfl ?_
  obtain ⟨c_1, h⟩ := x_chk_e h
  refine ev_get (C := RX12) (T := TX12) (k := 40) inX12 (xE_12 c_1) rfl (by decide) wd_638 (Or.inl rfl) rfl dX12_addRef_4 ?_
  refine ev_imul (x := 512) (y := (σ.I 1140 a0)) dX12_addRef_7 ?_
  refine ev_aload_n (j := 0) (x := (some a0)) dX12_addRef_8 rfl rfl ?_
  refine ev_get (C := RX12) (T := TX12) (k := 15) inX12 (xE_12 c_1) rfl (by decide) wd_163 (Or.inl rfl) rfl dX12_addRef_9 ?_
  refine ev_aload_n (j := 0) (x := (some a0)) dX12_addRef_12 rfl rfl ?_
  refine ev_get (C := RX12) (T := TX12) (k := 40) inX12 (xE_12 c_1) rfl (by decide) wd_638 (Or.inl rfl) rfl dX12_addRef_13 ?_
  obtain ⟨a_2, ea_2, h⟩ := x_some_e h
  refine ev_at (st' := [.int (σ.I 1140 a0), va_rf (some a_2), .int (512 * (σ.I 1140 a0))]) rfl (by rw [ea_2]) ?_
  obtain ⟨c_3, h⟩ := x_chk_e h
  refine ev_iald_31 c_3.1 c_3.2 dX12_addRef_16 ?_
  refine ev_iadd (x := (512 * (σ.I 1140 a0))) (y := (σ.AI a_2 (Int32.toNatClampNeg (σ.I 1140 a0)))) dX12_addRef_17 ?_
  obtain ⟨v_4, ev_4, h⟩ := x_let_e h
  rw [← ev_4]
  refine ev_istore (i := 6) (lv' := [(6, .int v_4), (0, va_rf (some a0)), (1, .int v1), (2, .int v2), (3, .int v3), (4, .int v4), (5, .int v5)]) dX12_addRef_18 (by decide) rfl ?_
  refine ev_aload_n (j := 1) (x := (some a0)) dX12_addRef_20 rfl rfl ?_
  refine ev_get (C := RX12) (T := TX12) (k := 17) inX12 (xE_12 c_1) rfl (by decide) wd_165 (Or.inl rfl) rfl dX12_addRef_21 ?_
  refine ev_iload (j := 0) (x := v_4) dX12_addRef_24 rfl ?_
  refine ev_iload_n (j := 2) (x := v1) dX12_addRef_26 rfl rfl ?_
  obtain ⟨a_5, ea_5, h⟩ := x_some_e h
  refine ev_at (st' := [.int v1, .int v_4, va_rf (some a_5)]) rfl (by rw [ea_5]) ?_
  obtain ⟨c_6, h⟩ := x_chk_e h
  obtain ⟨σ_7, eσ_7, h⟩ := x_let_e h
  refine ev_iast_31 c_6.1 c_6.2.1 (hP.2.2.2.1 ▸ c_6.2.2) dX12_addRef_27 (eσ_7 ▸ ?_)
  refine ev_aload_n (j := 1) (x := (some a0)) dX12_addRef_28 rfl rfl ?_
  obtain ⟨c_8, h⟩ := x_chk_e h
  refine ev_get (C := RX12) (T := TX12) (k := 16) inX12 (xE_12 c_8) rfl (by decide) wd_164 (Or.inl rfl) rfl dX12_addRef_29 ?_
  refine ev_iload (j := 0) (x := v_4) dX12_addRef_32 rfl ?_
  refine ev_iload_n (j := 3) (x := v2) dX12_addRef_34 rfl rfl ?_
  obtain ⟨a_9, ea_9, h⟩ := x_some_e h
  refine ev_at (st' := [.int v2, .int v_4, va_rf (some a_9)]) rfl (by rw [ea_9]) ?_
  obtain ⟨c_10, h⟩ := x_chk_e h
  obtain ⟨σ_11, eσ_11, h⟩ := x_let_e h
  refine ev_iast_31 c_10.1 c_10.2.1 (hP.2.2.2.1 ▸ c_10.2.2) dX12_addRef_35 (eσ_11 ▸ ?_)
  refine ev_aload_n (j := 1) (x := (some a0)) dX12_addRef_36 rfl rfl ?_
  obtain ⟨c_12, h⟩ := x_chk_e h
  refine ev_get (C := RX12) (T := TX12) (k := 18) inX12 (xE_12 c_12) rfl (by decide) wd_166 (Or.inl rfl) rfl dX12_addRef_37 ?_
  refine ev_iload (j := 0) (x := v_4) dX12_addRef_40 rfl ?_
  refine ev_iload_n (j := 4) (x := v3) dX12_addRef_42 rfl rfl ?_
  obtain ⟨a_13, ea_13, h⟩ := x_some_e h
  refine ev_at (st' := [.int v3, .int v_4, va_rf (some a_13)]) rfl (by rw [ea_13]) ?_
  obtain ⟨c_14, h⟩ := x_chk_e h
  obtain ⟨σ_15, eσ_15, h⟩ := x_let_e h
  refine ev_iast_31 c_14.1 c_14.2.1 (hP.2.2.2.1 ▸ c_14.2.2) dX12_addRef_43 (eσ_15 ▸ ?_)
  refine ev_aload_n (j := 1) (x := (some a0)) dX12_addRef_44 rfl rfl ?_
  obtain ⟨c_16, h⟩ := x_chk_e h
  refine ev_get (C := RX12) (T := TX12) (k := 19) inX12 (xE_12 c_16) rfl (by decide) wd_167 (Or.inl rfl) rfl dX12_addRef_45 ?_
  refine ev_iload (j := 0) (x := v_4) dX12_addRef_48 rfl ?_
  refine ev_iload (j := 5) (x := v4) dX12_addRef_50 rfl ?_
  obtain ⟨a_17, ea_17, h⟩ := x_some_e h
  refine ev_at (st' := [.int v4, .int v_4, va_rf (some a_17)]) rfl (by rw [ea_17]) ?_
  obtain ⟨c_18, h⟩ := x_chk_e h
  obtain ⟨σ_19, eσ_19, h⟩ := x_let_e h
  refine ev_iast_31 c_18.1 c_18.2.1 (hP.2.2.2.1 ▸ c_18.2.2) dX12_addRef_52 (eσ_19 ▸ ?_)
  refine ev_aload_n (j := 1) (x := (some a0)) dX12_addRef_53 rfl rfl ?_
  obtain ⟨c_20, h⟩ := x_chk_e h
  refine ev_get (C := RX12) (T := TX12) (k := 20) inX12 (xE_12 c_20) rfl (by decide) wd_168 (Or.inl rfl) rfl dX12_addRef_54 ?_
  refine ev_iload (j := 0) (x := v_4) dX12_addRef_57 rfl ?_
  refine ev_iload (j := 6) (x := v5) dX12_addRef_59 rfl ?_
  obtain ⟨a_21, ea_21, h⟩ := x_some_e h
  refine ev_at (st' := [.int v5, .int v_4, va_rf (some a_21)]) rfl (by rw [ea_21]) ?_
  obtain ⟨c_22, h⟩ := x_chk_e h
  obtain ⟨σ_23, eσ_23, h⟩ := x_let_e h
  refine ev_iast_31 c_22.1 c_22.2.1 (hP.2.2.2.1 ▸ c_22.2.2) dX12_addRef_61 (eσ_23 ▸ ?_)
  refine ev_aload_n (j := 1) (x := (some a0)) dX12_addRef_62 rfl rfl ?_
  obtain ⟨c_24, h⟩ := x_chk_e h
  refine ev_get (C := RX12) (T := TX12) (k := 15) inX12 (xE_12 c_24) rfl (by decide) wd_163 (Or.inl rfl) rfl dX12_addRef_63 ?_
  refine ev_aload_n (j := 1) (x := (some a0)) dX12_addRef_66 rfl rfl ?_
  refine ev_get (C := RX12) (T := TX12) (k := 40) inX12 (xE_12 c_24) rfl (by decide) wd_638 (Or.inl rfl) rfl dX12_addRef_67 ?_
  refine ev_dup2_11 dX12_addRef_70 rfl (x_cat _) ?_
  obtain ⟨a_25, ea_25, h⟩ := x_some_e h
  refine ev_at (st' := [.int (σ_23.I 1140 a0), va_rf (some a_25), .int (σ_23.I 1140 a0), va_rf (σ_23.R 1115 a0)]) rfl (by rw [ea_25]) ?_
  obtain ⟨c_26, h⟩ := x_chk_e h
  refine ev_iald_31 c_26.1 c_26.2 dX12_addRef_71 ?_
  refine ev_iconst (v := 1) dX12_addRef_72 (by decide) ?_
  refine ev_iadd (x := (σ_23.AI a_25 (Int32.toNatClampNeg (σ_23.I 1140 a0)))) (y := 1) dX12_addRef_73 ?_
  refine ev_at (st' := [.int ((σ_23.AI a_25 (Int32.toNatClampNeg (σ_23.I 1140 a0))) + 1), .int (σ_23.I 1140 a0), va_rf (some a_25)]) rfl (by rw [ea_25]) ?_
  obtain ⟨c_27, h⟩ := x_chk_e h
  obtain ⟨σ_28, eσ_28, h⟩ := x_let_e h
  refine ev_iast_31 c_27.1 c_27.2.1 (hP.2.2.2.1 ▸ c_27.2.2) dX12_addRef_74 (eσ_28 ▸ ?_)
  refine ev_iload (j := 0) (x := v_4) dX12_addRef_75 rfl ?_
  cases h
  exact ev_iret rfl rfl dX12_addRef_77
set_option maxHeartbeats 4000000 in
set_option maxRecDepth 100000 in
theorem ev_X12_takeNet_p57 {l : Launch} {G : xG} (hO : x_OK l G) {P : xP} (hP : x_PG P G) {a0 : Nat} {v1 : Int32} {σ σ' : xS} {rr : Int32 ⊕ String} (h : dm_X12_takeNet_p57 P a0 v1 σ = some (rr, σ')) : Ev l G mX12_takeNet 57 [(1, .int v1)] [] σ (xrI rr) σ' := by
  unfold dm_X12_takeNet_p57 at h
  refine ev_iload_n (j := 0) (x := v1) dX12_takeNet_57 rfl rfl ?_
  cases h
  exact ev_iret rfl rfl dX12_takeNet_58
set_option maxHeartbeats 4000000 in
set_option maxRecDepth 100000 in
theorem ev_X12_takeNet_p49 {l : Launch} {G : xG} (hO : x_OK l G) {P : xP} (hP : x_PG P G) {a0 : Nat} {v1 : Int32} {σ σ' : xS} {rr : Int32 ⊕ String} (h : dm_X12_takeNet_p49 P a0 v1 σ = some (rr, σ')) : Ev l G mX12_takeNet 49 [(0, va_rf (some a0)), (1, .int v1)] [] σ (xrI rr) σ' := by
  unfold dm_X12_takeNet_p49 at h
  refine ev_aload_n (j := 0) (x := (some a0)) dX12_takeNet_49 rfl rfl ?_
  refine ev_aload_n (j := 0) (x := (some a0)) dX12_takeNet_50 rfl rfl ?_
  obtain ⟨c_1, h⟩ := x_chk_e h
  refine ev_get (C := RX12) (T := TX12) (k := 36) inX12 (xE_12 c_1) rfl (by decide) wd_646 (Or.inl rfl) rfl dX12_takeNet_51 ?_
  rcases x_bind_e h with ⟨v_2, σ_3, h_4, h⟩ | ⟨E_5, σ_3, h_4, h⟩
  · have z9 := x_call (M := mX12_takeNet) (M' := mX12_fail) (pc := 54) (st := [.int (σ.I 1136 a0), va_rf (some a0)]) (rest := []) (av := [va_rf (some a0), .int (σ.I 1136 a0)]) (x_linkV (M := mX12_takeNet) (M' := mX12_fail) (As := [.int (σ.I 1136 a0)]) (index := 150) (C := RX12) (T := TX12) (xE_12 c_1) rfl wd_657 wd_658 (wG_in (List.mem_append_left _ (List.mem_of_getElem? (i := 39) rfl)) rfl) xw_X12_fail rfl (by decide) rfl rfl dX12_takeNet_54) (ev_X12_fail hO hP h_4) xw_X12_fail rfl wd_198 dX12_takeNet_54 (by decide) (by decide) (by simp [x_cat, x_catI, x_catJ])
    refine x_callR z9 ?_
    refine ev_at (st' := []) rfl rfl ?_
    exact ev_sub [1] rfl (ev_X12_takeNet_p57 hO hP h)
  · have z9 := x_call (M := mX12_takeNet) (M' := mX12_fail) (pc := 54) (st := [.int (σ.I 1136 a0), va_rf (some a0)]) (rest := []) (av := [va_rf (some a0), .int (σ.I 1136 a0)]) (x_linkV (M := mX12_takeNet) (M' := mX12_fail) (As := [.int (σ.I 1136 a0)]) (index := 150) (C := RX12) (T := TX12) (xE_12 c_1) rfl wd_657 wd_658 (wG_in (List.mem_append_left _ (List.mem_of_getElem? (i := 39) rfl)) rfl) xw_X12_fail rfl (by decide) rfl rfl dX12_takeNet_54) (ev_X12_fail hO hP h_4) xw_X12_fail rfl wd_198 dX12_takeNet_54 (by decide) (by decide) (by simp [x_cat, x_catI, x_catJ])
    cases h
    exact x_callX z9 (evX_out rfl)
set_option maxHeartbeats 4000000 in
set_option maxRecDepth 100000 in
theorem ev_X12_takeNet_p23 {l : Launch} {G : xG} (hO : x_OK l G) {P : xP} (hP : x_PG P G) {a0 : Nat} {s0 : Int32} {σ σ' : xS} {rr : Int32 ⊕ String} (h : dm_X12_takeNet_p23 P a0 s0 σ = some (rr, σ')) : Ev l G mX12_takeNet 23 [(0, va_rf (some a0))] [.int s0] σ (xrI rr) σ' := by
  unfold dm_X12_takeNet_p23 at h
  refine ev_istore_n (i := 1) (lv' := [(1, .int s0), (0, va_rf (some a0))]) dX12_takeNet_23 rfl (by decide) (by simp [x_cat, x_catI, x_catJ]) ?_
  refine ev_aload_n (j := 1) (x := (some a0)) dX12_takeNet_24 rfl rfl ?_
  obtain ⟨c_4, h⟩ := x_chk_e h
  rcases x_bind_e h with ⟨v_1, σ_2, h_3, h⟩ | ⟨E_15, σ_2, h_3, h⟩
  · have z9 := x_call (M := mX12_takeNet) (M' := mX12_ok) (pc := 25) (st := [va_rf (some a0)]) (rest := []) (av := [va_rf (some a0)]) (x_linkV (M := mX12_takeNet) (M' := mX12_ok) (As := []) (index := 121) (C := RX12) (T := TX12) (xE_12 c_4) rfl wd_640 wd_641 (wG_in (List.mem_append_left _ (List.mem_of_getElem? (i := 37) rfl)) rfl) xw_X12_ok rfl (by decide) rfl rfl dX12_takeNet_25) (ev_X12_ok hO hP h_3) xw_X12_ok rfl wd_198 dX12_takeNet_25 (by decide) (by decide) (by simp [x_cat, x_catI, x_catJ])
    refine x_callR z9 ?_
    refine ev_at (st' := [.int v_1]) rfl rfl ?_
    by_cases c_5 : v_1 = 0
    · rw [if_pos c_5] at h
      refine ev_if_eq (x := v_1) (tgt := 57) dX12_takeNet_28 (by decide) (fun _ => ?_) (fun q9 => absurd c_5 q9)
      exact ev_sub [0] rfl (ev_X12_takeNet_p57 hO hP h)
    · rw [if_neg c_5] at h
      refine ev_if_eq (x := v_1) (tgt := 57) dX12_takeNet_28 (by decide) (fun q9 => absurd q9 c_5) (fun _ => ?_)
      refine ev_iload_n (j := 0) (x := s0) dX12_takeNet_31 rfl rfl ?_
      refine ev_iconst (v := -1) dX12_takeNet_32 (by decide) ?_
      by_cases c_6 : s0 = (-1)
      · rw [if_pos c_6] at h
        refine ev_icmp_eq (x := s0) (y := (-1)) (tgt := 49) dX12_takeNet_33 (by decide) (fun _ => ?_) (fun q9 => absurd c_6 q9)
        exact ev_sub [1, 0] rfl (ev_X12_takeNet_p49 hO hP h)
      · rw [if_neg c_6] at h
        refine ev_icmp_eq (x := s0) (y := (-1)) (tgt := 49) dX12_takeNet_33 (by decide) (fun q9 => absurd q9 c_6) (fun _ => ?_)
        refine ev_aload_n (j := 1) (x := (some a0)) dX12_takeNet_36 rfl rfl ?_
        obtain ⟨c_7, h⟩ := x_chk_e h
        refine ev_get (C := RX12) (T := TX12) (k := 14) inX12 (xE_12 c_7) rfl (by decide) wd_162 (Or.inl rfl) rfl dX12_takeNet_37 ?_
        refine ev_aload_n (j := 1) (x := (some a0)) dX12_takeNet_40 rfl rfl ?_
        refine ev_iload_n (j := 0) (x := s0) dX12_takeNet_41 rfl rfl ?_
        rcases x_bind_e h with ⟨v_8, σ_9, h_10, h⟩ | ⟨E_14, σ_9, h_10, h⟩
        · have z9 := x_call (M := mX12_takeNet) (M' := mX12_netCell) (pc := 42) (st := [.int s0, va_rf (some a0), va_rf (σ_2.R 1114 a0)]) (rest := [va_rf (σ_2.R 1114 a0)]) (av := [va_rf (some a0), .int s0]) (x_linkV (M := mX12_takeNet) (M' := mX12_netCell) (As := [.int s0]) (index := 178) (C := RX12) (T := TX12) (xE_12 c_7) rfl wd_685 wd_686 (wG_in (List.mem_append_left _ (List.mem_of_getElem? (i := 53) rfl)) rfl) xw_X12_netCell rfl (by decide) rfl rfl dX12_takeNet_42) (ev_X12_netCell hO hP h_10) xw_X12_netCell rfl wd_198 dX12_takeNet_42 (by decide) (by decide) (by simp [x_cat, x_catI, x_catJ])
          refine x_callR z9 ?_
          refine ev_at (st' := [.int v_8, va_rf (σ_2.R 1114 a0)]) rfl rfl ?_
          obtain ⟨a_11, ea_11, h⟩ := x_some_e h
          refine ev_at (st' := [.int v_8, va_rf (some a_11)]) rfl (by rw [ea_11]) ?_
          obtain ⟨c_12, h⟩ := x_chk_e h
          refine ev_zald_33 c_12.1 c_12.2 dX12_takeNet_45 ?_
          by_cases c_13 : (σ_9.AI a_11 (Int32.toNatClampNeg v_8)) = 0
          · rw [if_pos c_13] at h
            refine ev_if_ne (x := (σ_9.AI a_11 (Int32.toNatClampNeg v_8))) (tgt := 57) dX12_takeNet_46 (by decide) (fun q9 => absurd c_13 q9) (fun _ => ?_)
            exact ev_sub [1, 0] rfl (ev_X12_takeNet_p49 hO hP h)
          · rw [if_neg c_13] at h
            refine ev_if_ne (x := (σ_9.AI a_11 (Int32.toNatClampNeg v_8))) (tgt := 57) dX12_takeNet_46 (by decide) (fun _ => ?_) (fun q9 => absurd q9 c_13)
            exact ev_sub [0] rfl (ev_X12_takeNet_p57 hO hP h)
        · have z9 := x_call (M := mX12_takeNet) (M' := mX12_netCell) (pc := 42) (st := [.int s0, va_rf (some a0), va_rf (σ_2.R 1114 a0)]) (rest := [va_rf (σ_2.R 1114 a0)]) (av := [va_rf (some a0), .int s0]) (x_linkV (M := mX12_takeNet) (M' := mX12_netCell) (As := [.int s0]) (index := 178) (C := RX12) (T := TX12) (xE_12 c_7) rfl wd_685 wd_686 (wG_in (List.mem_append_left _ (List.mem_of_getElem? (i := 53) rfl)) rfl) xw_X12_netCell rfl (by decide) rfl rfl dX12_takeNet_42) (ev_X12_netCell hO hP h_10) xw_X12_netCell rfl wd_198 dX12_takeNet_42 (by decide) (by decide) (by simp [x_cat, x_catI, x_catJ])
          cases h
          exact x_callX z9 (evX_out rfl)
  · have z9 := x_call (M := mX12_takeNet) (M' := mX12_ok) (pc := 25) (st := [va_rf (some a0)]) (rest := []) (av := [va_rf (some a0)]) (x_linkV (M := mX12_takeNet) (M' := mX12_ok) (As := []) (index := 121) (C := RX12) (T := TX12) (xE_12 c_4) rfl wd_640 wd_641 (wG_in (List.mem_append_left _ (List.mem_of_getElem? (i := 37) rfl)) rfl) xw_X12_ok rfl (by decide) rfl rfl dX12_takeNet_25) (ev_X12_ok hO hP h_3) xw_X12_ok rfl wd_198 dX12_takeNet_25 (by decide) (by decide) (by simp [x_cat, x_catI, x_catJ])
    cases h
    exact x_callX z9 (evX_out rfl)
set_option maxHeartbeats 4000000 in
set_option maxRecDepth 100000 in
theorem ev_X12_takeNet {l : Launch} {G : xG} (hO : x_OK l G) {P : xP} (hP : x_PG P G) {a0 : Nat} {σ σ' : xS} {rr : Int32 ⊕ String} (h : dm_X12_takeNet P a0 σ = some (rr, σ')) : EvM l G mX12_takeNet [va_rf (some a0)] σ (xrI rr) σ' := by
  unfold dm_X12_takeNet at h
  refine evM_of hO (by decide +kernel) (x_lenI (by simp [x_cat, x_catI, x_catJ, mX12_takeNet, xM.maxL])) ?_
  refine Eq.mp (congrArg (fun z => Ev l G mX12_takeNet 0 z [] σ (xrI rr) σ') (show [(0, va_rf (some a0))] = lv_args 0 [va_rf (some a0)] by simp [lv_args, x_cat, x_catI, x_catJ])) ?_
  refine ev_aload_n (j := 0) (x := (some a0)) dX12_takeNet_0 rfl rfl ?_
  obtain ⟨c_4, h⟩ := x_chk_e h
  rcases x_bind_e h with ⟨v_1, σ_2, h_3, h⟩ | ⟨E_16, σ_2, h_3, h⟩
  · have z9 := x_call (M := mX12_takeNet) (M' := mX12_needName) (pc := 1) (st := [va_rf (some a0)]) (rest := []) (av := [va_rf (some a0)]) (x_linkV (M := mX12_takeNet) (M' := mX12_needName) (As := []) (index := 185) (C := RX12) (T := TX12) (xE_12 c_4) rfl wd_670 wd_671 (wG_in (List.mem_append_left _ (List.mem_of_getElem? (i := 45) rfl)) rfl) xw_X12_needName rfl (by decide) rfl rfl dX12_takeNet_1) (ev_X12_needName hO hP h_3) xw_X12_needName rfl wd_198 dX12_takeNet_1 (by decide) (by decide) (by simp [x_cat, x_catI, x_catJ])
    refine x_callR z9 ?_
    refine ev_at (st' := []) rfl rfl ?_
    refine ev_aload_n (j := 0) (x := (some a0)) dX12_takeNet_4 rfl rfl ?_
    obtain ⟨c_8, h⟩ := x_chk_e h
    rcases x_bind_e h with ⟨v_5, σ_6, h_7, h⟩ | ⟨E_15, σ_6, h_7, h⟩
    · have z9 := x_call (M := mX12_takeNet) (M' := mX12_ok) (pc := 5) (st := [va_rf (some a0)]) (rest := []) (av := [va_rf (some a0)]) (x_linkV (M := mX12_takeNet) (M' := mX12_ok) (As := []) (index := 121) (C := RX12) (T := TX12) (xE_12 c_8) rfl wd_640 wd_641 (wG_in (List.mem_append_left _ (List.mem_of_getElem? (i := 37) rfl)) rfl) xw_X12_ok rfl (by decide) rfl rfl dX12_takeNet_5) (ev_X12_ok hO hP h_7) xw_X12_ok rfl wd_198 dX12_takeNet_5 (by decide) (by decide) (by simp [x_cat, x_catI, x_catJ])
      refine x_callR z9 ?_
      refine ev_at (st' := [.int v_5]) rfl rfl ?_
      by_cases c_9 : v_5 = 0
      · rw [if_pos c_9] at h
        refine ev_if_eq (x := v_5) (tgt := 22) dX12_takeNet_8 (by decide) (fun _ => ?_) (fun q9 => absurd c_9 q9)
        refine ev_iconst (v := -1) dX12_takeNet_22 (by decide) ?_
        exact ev_sub [0] rfl (ev_X12_takeNet_p23 hO hP h)
      · rw [if_neg c_9] at h
        refine ev_if_eq (x := v_5) (tgt := 22) dX12_takeNet_8 (by decide) (fun q9 => absurd q9 c_9) (fun _ => ?_)
        refine ev_aload_n (j := 0) (x := (some a0)) dX12_takeNet_11 rfl rfl ?_
        refine ev_aload_n (j := 0) (x := (some a0)) dX12_takeNet_12 rfl rfl ?_
        obtain ⟨c_10, h⟩ := x_chk_e h
        refine ev_get (C := RX12) (T := TX12) (k := 36) inX12 (xE_12 c_10) rfl (by decide) wd_646 (Or.inl rfl) rfl dX12_takeNet_13 ?_
        rcases x_bind_e h with ⟨v_11, σ_12, h_13, h⟩ | ⟨E_14, σ_12, h_13, h⟩
        · have z9 := x_call (M := mX12_takeNet) (M' := mX12_netNamed) (pc := 16) (st := [.int (σ_6.I 1136 a0), va_rf (some a0)]) (rest := []) (av := [va_rf (some a0), .int (σ_6.I 1136 a0)]) (x_linkV (M := mX12_takeNet) (M' := mX12_netNamed) (As := [.int (σ_6.I 1136 a0)]) (index := 188) (C := RX12) (T := TX12) (xE_12 c_10) rfl wd_688 wd_689 (wG_in (List.mem_append_left _ (List.mem_of_getElem? (i := 52) rfl)) rfl) xw_X12_netNamed rfl (by decide) rfl rfl dX12_takeNet_16) (ev_X12_netNamed hO hP h_13) xw_X12_netNamed rfl wd_198 dX12_takeNet_16 (by decide) (by decide) (by simp [x_cat, x_catI, x_catJ])
          refine x_callR z9 ?_
          refine ev_at (st' := [.int v_11]) rfl rfl ?_
          refine ev_goto (tgt := 23) dX12_takeNet_19 (by decide) ?_
          exact ev_sub [0] rfl (ev_X12_takeNet_p23 hO hP h)
        · have z9 := x_call (M := mX12_takeNet) (M' := mX12_netNamed) (pc := 16) (st := [.int (σ_6.I 1136 a0), va_rf (some a0)]) (rest := []) (av := [va_rf (some a0), .int (σ_6.I 1136 a0)]) (x_linkV (M := mX12_takeNet) (M' := mX12_netNamed) (As := [.int (σ_6.I 1136 a0)]) (index := 188) (C := RX12) (T := TX12) (xE_12 c_10) rfl wd_688 wd_689 (wG_in (List.mem_append_left _ (List.mem_of_getElem? (i := 52) rfl)) rfl) xw_X12_netNamed rfl (by decide) rfl rfl dX12_takeNet_16) (ev_X12_netNamed hO hP h_13) xw_X12_netNamed rfl wd_198 dX12_takeNet_16 (by decide) (by decide) (by simp [x_cat, x_catI, x_catJ])
          cases h
          exact x_callX z9 (evX_out rfl)
    · have z9 := x_call (M := mX12_takeNet) (M' := mX12_ok) (pc := 5) (st := [va_rf (some a0)]) (rest := []) (av := [va_rf (some a0)]) (x_linkV (M := mX12_takeNet) (M' := mX12_ok) (As := []) (index := 121) (C := RX12) (T := TX12) (xE_12 c_8) rfl wd_640 wd_641 (wG_in (List.mem_append_left _ (List.mem_of_getElem? (i := 37) rfl)) rfl) xw_X12_ok rfl (by decide) rfl rfl dX12_takeNet_5) (ev_X12_ok hO hP h_7) xw_X12_ok rfl wd_198 dX12_takeNet_5 (by decide) (by decide) (by simp [x_cat, x_catI, x_catJ])
      cases h
      exact x_callX z9 (evX_out rfl)
  · have z9 := x_call (M := mX12_takeNet) (M' := mX12_needName) (pc := 1) (st := [va_rf (some a0)]) (rest := []) (av := [va_rf (some a0)]) (x_linkV (M := mX12_takeNet) (M' := mX12_needName) (As := []) (index := 185) (C := RX12) (T := TX12) (xE_12 c_4) rfl wd_670 wd_671 (wG_in (List.mem_append_left _ (List.mem_of_getElem? (i := 45) rfl)) rfl) xw_X12_needName rfl (by decide) rfl rfl dX12_takeNet_1) (ev_X12_needName hO hP h_3) xw_X12_needName rfl wd_198 dX12_takeNet_1 (by decide) (by decide) (by simp [x_cat, x_catI, x_catJ])
    cases h
    exact x_callX z9 (evX_out rfl)
set_option maxHeartbeats 4000000 in
set_option maxRecDepth 100000 in
theorem ev_X12_longRef_p77 {l : Launch} {G : xG} (hO : x_OK l G) {P : xP} (hP : x_PG P G) {a0 : Nat} {s0 : Int32} {σ σ' : xS} {rr : Int32 ⊕ String} (h : dm_X12_longRef_p77 P a0 s0 σ = some (rr, σ')) : Ev l G mX12_longRef 77 [] [.int s0] σ (xrI rr) σ' := by
  unfold dm_X12_longRef_p77 at h
  cases h
  exact ev_iret rfl rfl dX12_longRef_77
set_option maxHeartbeats 4000000 in
set_option maxRecDepth 100000 in
theorem ev_X12_longRef_p116 {l : Launch} {G : xG} (hO : x_OK l G) {P : xP} (hP : x_PG P G) {a0 : Nat} {s0 : Int32} {σ σ' : xS} {rr : Int32 ⊕ String} (h : dm_X12_longRef_p116 P a0 s0 σ = some (rr, σ')) : Ev l G mX12_longRef 116 [] [.int s0] σ (xrI rr) σ' := by
  unfold dm_X12_longRef_p116 at h
  cases h
  exact ev_iret rfl rfl dX12_longRef_116
set_option maxHeartbeats 4000000 in
set_option maxRecDepth 100000 in
theorem ev_X12_longRef_p216 {l : Launch} {G : xG} (hO : x_OK l G) {P : xP} (hP : x_PG P G) {a0 : Nat} {s0 : Int32} {σ σ' : xS} {rr : Int32 ⊕ String} (h : dm_X12_longRef_p216 P a0 s0 σ = some (rr, σ')) : Ev l G mX12_longRef 216 [] [.int s0] σ (xrI rr) σ' := by
  unfold dm_X12_longRef_p216 at h
  cases h
  exact ev_iret rfl rfl dX12_longRef_216
set_option maxHeartbeats 4000000 in
set_option maxRecDepth 100000 in
theorem ev_X12_longRef_p188 {l : Launch} {G : xG} (hO : x_OK l G) {P : xP} (hP : x_PG P G) {a0 : Nat} {v1 : Int32} {v2 : Int32} {v3 : Int32} {v4 : Int32} {v5 : Int32} {σ σ' : xS} {rr : Int32 ⊕ String} (h : dm_X12_longRef_p188 P a0 v1 v2 v3 v4 v5 σ = some (rr, σ')) : Ev l G mX12_longRef 188 [(0, va_rf (some a0)), (1, .int v1), (2, .int v2), (3, .int v3), (4, .int v4), (5, .int v5)] [] σ (xrI rr) σ' := by
  unfold dm_X12_longRef_p188 at h
  refine ev_aload_n (j := 0) (x := (some a0)) dX12_longRef_188 rfl rfl ?_
  refine ev_bipush (v := 93) dX12_longRef_189 (by decide) ?_
  obtain ⟨c_4, h⟩ := x_chk_e h
  rcases x_bind_e h with ⟨v_1, σ_2, h_3, h⟩ | ⟨E_16, σ_2, h_3, h⟩
  · have z9 := x_call (M := mX12_longRef) (M' := mX12_needSign) (pc := 191) (st := [.int 93, va_rf (some a0)]) (rest := []) (av := [va_rf (some a0), .int 93]) (x_linkV (M := mX12_longRef) (M' := mX12_needSign) (As := [.int 93]) (index := 199) (C := RX12) (T := TX12) (xE_12 c_4) rfl wd_697 wd_698 (wG_in (List.mem_append_left _ (List.mem_of_getElem? (i := 49) rfl)) rfl) xw_X12_needSign rfl (by decide) rfl rfl dX12_longRef_191) (ev_X12_needSign hO hP h_3) xw_X12_needSign rfl wd_198 dX12_longRef_191 (by decide) (by decide) (by simp [x_cat, x_catI, x_catJ])
    refine x_callR z9 ?_
    refine ev_at (st' := []) rfl rfl ?_
    refine ev_aload_n (j := 0) (x := (some a0)) dX12_longRef_194 rfl rfl ?_
    obtain ⟨c_8, h⟩ := x_chk_e h
    rcases x_bind_e h with ⟨v_5, σ_6, h_7, h⟩ | ⟨E_15, σ_6, h_7, h⟩
    · have z9 := x_call (M := mX12_longRef) (M' := mX12_ok) (pc := 195) (st := [va_rf (some a0)]) (rest := []) (av := [va_rf (some a0)]) (x_linkV (M := mX12_longRef) (M' := mX12_ok) (As := []) (index := 121) (C := RX12) (T := TX12) (xE_12 c_8) rfl wd_640 wd_641 (wG_in (List.mem_append_left _ (List.mem_of_getElem? (i := 37) rfl)) rfl) xw_X12_ok rfl (by decide) rfl rfl dX12_longRef_195) (ev_X12_ok hO hP h_7) xw_X12_ok rfl wd_198 dX12_longRef_195 (by decide) (by decide) (by simp [x_cat, x_catI, x_catJ])
      refine x_callR z9 ?_
      refine ev_at (st' := [.int v_5]) rfl rfl ?_
      by_cases c_9 : v_5 = 0
      · rw [if_pos c_9] at h
        refine ev_if_eq (x := v_5) (tgt := 215) dX12_longRef_198 (by decide) (fun _ => ?_) (fun q9 => absurd c_9 q9)
        refine ev_iconst (v := -1) dX12_longRef_215 (by decide) ?_
        exact ev_sub [] rfl (ev_X12_longRef_p216 hO hP h)
      · rw [if_neg c_9] at h
        refine ev_if_eq (x := v_5) (tgt := 215) dX12_longRef_198 (by decide) (fun q9 => absurd q9 c_9) (fun _ => ?_)
        refine ev_aload_n (j := 0) (x := (some a0)) dX12_longRef_201 rfl rfl ?_
        refine ev_iload (j := 5) (x := v5) dX12_longRef_202 rfl ?_
        refine ev_iload_n (j := 1) (x := v1) dX12_longRef_204 rfl rfl ?_
        refine ev_iload_n (j := 2) (x := v2) dX12_longRef_205 rfl rfl ?_
        refine ev_iload_n (j := 3) (x := v3) dX12_longRef_206 rfl rfl ?_
        refine ev_iload (j := 4) (x := v4) dX12_longRef_207 rfl ?_
        obtain ⟨c_13, h⟩ := x_chk_e h
        rcases x_bind_e h with ⟨v_10, σ_11, h_12, h⟩ | ⟨E_14, σ_11, h_12, h⟩
        · have z9 := x_call (M := mX12_longRef) (M' := mX12_addRef) (pc := 209) (st := [.int v4, .int v3, .int v2, .int v1, .int v5, va_rf (some a0)]) (rest := []) (av := [va_rf (some a0), .int v5, .int v1, .int v2, .int v3, .int v4]) (x_linkV (M := mX12_longRef) (M' := mX12_addRef) (As := [.int v5, .int v1, .int v2, .int v3, .int v4]) (index := 208) (C := RX12) (T := TX12) (xE_12 c_13) rfl wd_706 wd_707 (wG_in (List.mem_append_left _ (List.mem_of_getElem? (i := 61) rfl)) rfl) xw_X12_addRef rfl (by decide) rfl rfl dX12_longRef_209) (ev_X12_addRef hO hP h_12) xw_X12_addRef rfl wd_198 dX12_longRef_209 (by decide) (by decide) (by simp [x_cat, x_catI, x_catJ])
          refine x_callR z9 ?_
          refine ev_at (st' := [.int v_10]) rfl rfl ?_
          refine ev_goto (tgt := 216) dX12_longRef_212 (by decide) ?_
          exact ev_sub [] rfl (ev_X12_longRef_p216 hO hP h)
        · have z9 := x_call (M := mX12_longRef) (M' := mX12_addRef) (pc := 209) (st := [.int v4, .int v3, .int v2, .int v1, .int v5, va_rf (some a0)]) (rest := []) (av := [va_rf (some a0), .int v5, .int v1, .int v2, .int v3, .int v4]) (x_linkV (M := mX12_longRef) (M' := mX12_addRef) (As := [.int v5, .int v1, .int v2, .int v3, .int v4]) (index := 208) (C := RX12) (T := TX12) (xE_12 c_13) rfl wd_706 wd_707 (wG_in (List.mem_append_left _ (List.mem_of_getElem? (i := 61) rfl)) rfl) xw_X12_addRef rfl (by decide) rfl rfl dX12_longRef_209) (ev_X12_addRef hO hP h_12) xw_X12_addRef rfl wd_198 dX12_longRef_209 (by decide) (by decide) (by simp [x_cat, x_catI, x_catJ])
          cases h
          exact x_callX z9 (evX_out rfl)
    · have z9 := x_call (M := mX12_longRef) (M' := mX12_ok) (pc := 195) (st := [va_rf (some a0)]) (rest := []) (av := [va_rf (some a0)]) (x_linkV (M := mX12_longRef) (M' := mX12_ok) (As := []) (index := 121) (C := RX12) (T := TX12) (xE_12 c_8) rfl wd_640 wd_641 (wG_in (List.mem_append_left _ (List.mem_of_getElem? (i := 37) rfl)) rfl) xw_X12_ok rfl (by decide) rfl rfl dX12_longRef_195) (ev_X12_ok hO hP h_7) xw_X12_ok rfl wd_198 dX12_longRef_195 (by decide) (by decide) (by simp [x_cat, x_catI, x_catJ])
      cases h
      exact x_callX z9 (evX_out rfl)
  · have z9 := x_call (M := mX12_longRef) (M' := mX12_needSign) (pc := 191) (st := [.int 93, va_rf (some a0)]) (rest := []) (av := [va_rf (some a0), .int 93]) (x_linkV (M := mX12_longRef) (M' := mX12_needSign) (As := [.int 93]) (index := 199) (C := RX12) (T := TX12) (xE_12 c_4) rfl wd_697 wd_698 (wG_in (List.mem_append_left _ (List.mem_of_getElem? (i := 49) rfl)) rfl) xw_X12_needSign rfl (by decide) rfl rfl dX12_longRef_191) (ev_X12_needSign hO hP h_3) xw_X12_needSign rfl wd_198 dX12_longRef_191 (by decide) (by decide) (by simp [x_cat, x_catI, x_catJ])
    cases h
    exact x_callX z9 (evX_out rfl)
set_option maxHeartbeats 4000000 in
set_option maxRecDepth 100000 in
theorem ev_X12_longRef_p78 {l : Launch} {G : xG} (hO : x_OK l G) {P : xP} (hP : x_PG P G) {a0 : Nat} {v1 : Int32} {σ σ' : xS} {rr : Int32 ⊕ String} (h : dm_X12_longRef_p78 P a0 v1 σ = some (rr, σ')) : Ev l G mX12_longRef 78 [(0, va_rf (some a0)), (1, .int v1)] [] σ (xrI rr) σ' := by
  unfold dm_X12_longRef_p78 at h
  refine ev_aload_n (j := 0) (x := (some a0)) dX12_longRef_78 rfl rfl ?_
  obtain ⟨c_4, h⟩ := x_chk_e h
  rcases x_bind_e h with ⟨v_1, σ_2, h_3, h⟩ | ⟨E_73, σ_2, h_3, h⟩
  · have z9 := x_call (M := mX12_longRef) (M' := mX12_takeNet) (pc := 79) (st := [va_rf (some a0)]) (rest := []) (av := [va_rf (some a0)]) (x_linkV (M := mX12_longRef) (M' := mX12_takeNet) (As := []) (index := 212) (C := RX12) (T := TX12) (xE_12 c_4) rfl wd_709 wd_710 (wG_in (List.mem_append_left _ (List.mem_of_getElem? (i := 62) rfl)) rfl) xw_X12_takeNet rfl (by decide) rfl rfl dX12_longRef_79) (ev_X12_takeNet hO hP h_3) xw_X12_takeNet rfl wd_198 dX12_longRef_79 (by decide) (by decide) (by simp [x_cat, x_catI, x_catJ])
    refine x_callR z9 ?_
    refine ev_at (st' := [.int v_1]) rfl rfl ?_
    refine ev_istore_n (i := 2) (lv' := [(2, .int v_1), (0, va_rf (some a0)), (1, .int v1)]) dX12_longRef_82 rfl (by decide) rfl ?_
    refine ev_aload_n (j := 1) (x := (some a0)) dX12_longRef_83 rfl rfl ?_
    obtain ⟨c_8, h⟩ := x_chk_e h
    rcases x_bind_e h with ⟨v_5, σ_6, h_7, h⟩ | ⟨E_72, σ_6, h_7, h⟩
    · have z9 := x_call (M := mX12_longRef) (M' := mX12_next) (pc := 84) (st := [va_rf (some a0)]) (rest := []) (av := [va_rf (some a0)]) (x_linkV (M := mX12_longRef) (M' := mX12_next) (As := []) (index := 169) (C := RX12) (T := TX12) (xE_12 c_8) rfl wd_679 wd_680 (wG_in (List.mem_append_left _ (List.mem_of_getElem? (i := 36) rfl)) rfl) xw_X12_next rfl (by decide) rfl rfl dX12_longRef_84) (ev_X12_next hO hP h_7) xw_X12_next rfl wd_198 dX12_longRef_84 (by decide) (by decide) (by simp [x_cat, x_catI, x_catJ])
      refine x_callR z9 ?_
      refine ev_at (st' := []) rfl rfl ?_
      refine ev_aload_n (j := 1) (x := (some a0)) dX12_longRef_87 rfl rfl ?_
      refine ev_bipush (v := 91) dX12_longRef_88 (by decide) ?_
      obtain ⟨c_12, h⟩ := x_chk_e h
      rcases x_bind_e h with ⟨v_9, σ_10, h_11, h⟩ | ⟨E_71, σ_10, h_11, h⟩
      · have z9 := x_call (M := mX12_longRef) (M' := mX12_isSign) (pc := 90) (st := [.int 91, va_rf (some a0)]) (rest := []) (av := [va_rf (some a0), .int 91]) (x_linkV (M := mX12_longRef) (M' := mX12_isSign) (As := [.int 91]) (index := 166) (C := RX12) (T := TX12) (xE_12 c_12) rfl wd_682 wd_683 (wG_in (List.mem_append_left _ (List.mem_of_getElem? (i := 50) rfl)) rfl) xw_X12_isSign rfl (by decide) rfl rfl dX12_longRef_90) (ev_X12_isSign hO hP h_11) xw_X12_isSign rfl wd_198 dX12_longRef_90 (by decide) (by decide) (by simp [x_cat, x_catI, x_catJ])
        refine x_callR z9 ?_
        refine ev_at (st' := [.int v_9]) rfl rfl ?_
        by_cases c_13 : v_9 = 0
        · rw [if_pos c_13] at h
          refine ev_if_ne (x := v_9) (tgt := 117) dX12_longRef_93 (by decide) (fun q9 => absurd c_13 q9) (fun _ => ?_)
          refine ev_aload_n (j := 1) (x := (some a0)) dX12_longRef_96 rfl rfl ?_
          obtain ⟨c_63, h⟩ := x_chk_e h
          rcases x_bind_e h with ⟨v_60, σ_61, h_62, h⟩ | ⟨E_70, σ_61, h_62, h⟩
          · have z9 := x_call (M := mX12_longRef) (M' := mX12_ok) (pc := 97) (st := [va_rf (some a0)]) (rest := []) (av := [va_rf (some a0)]) (x_linkV (M := mX12_longRef) (M' := mX12_ok) (As := []) (index := 121) (C := RX12) (T := TX12) (xE_12 c_63) rfl wd_640 wd_641 (wG_in (List.mem_append_left _ (List.mem_of_getElem? (i := 37) rfl)) rfl) xw_X12_ok rfl (by decide) rfl rfl dX12_longRef_97) (ev_X12_ok hO hP h_62) xw_X12_ok rfl wd_198 dX12_longRef_97 (by decide) (by decide) (by simp [x_cat, x_catI, x_catJ])
            refine x_callR z9 ?_
            refine ev_at (st' := [.int v_60]) rfl rfl ?_
            by_cases c_64 : v_60 = 0
            · rw [if_pos c_64] at h
              refine ev_if_eq (x := v_60) (tgt := 115) dX12_longRef_100 (by decide) (fun _ => ?_) (fun q9 => absurd c_64 q9)
              refine ev_iconst (v := -1) dX12_longRef_115 (by decide) ?_
              exact ev_sub [] rfl (ev_X12_longRef_p116 hO hP h)
            · rw [if_neg c_64] at h
              refine ev_if_eq (x := v_60) (tgt := 115) dX12_longRef_100 (by decide) (fun q9 => absurd q9 c_64) (fun _ => ?_)
              refine ev_aload_n (j := 1) (x := (some a0)) dX12_longRef_103 rfl rfl ?_
              refine ev_iconst (v := 0) dX12_longRef_104 (by decide) ?_
              refine ev_iload_n (j := 2) (x := v1) dX12_longRef_105 rfl rfl ?_
              refine ev_iload_n (j := 0) (x := v_1) dX12_longRef_106 rfl rfl ?_
              refine ev_iconst (v := 0) dX12_longRef_107 (by decide) ?_
              refine ev_iconst (v := 0) dX12_longRef_108 (by decide) ?_
              obtain ⟨c_68, h⟩ := x_chk_e h
              rcases x_bind_e h with ⟨v_65, σ_66, h_67, h⟩ | ⟨E_69, σ_66, h_67, h⟩
              · have z9 := x_call (M := mX12_longRef) (M' := mX12_addRef) (pc := 109) (st := [.int 0, .int 0, .int v_1, .int v1, .int 0, va_rf (some a0)]) (rest := []) (av := [va_rf (some a0), .int 0, .int v1, .int v_1, .int 0, .int 0]) (x_linkV (M := mX12_longRef) (M' := mX12_addRef) (As := [.int 0, .int v1, .int v_1, .int 0, .int 0]) (index := 208) (C := RX12) (T := TX12) (xE_12 c_68) rfl wd_706 wd_707 (wG_in (List.mem_append_left _ (List.mem_of_getElem? (i := 61) rfl)) rfl) xw_X12_addRef rfl (by decide) rfl rfl dX12_longRef_109) (ev_X12_addRef hO hP h_67) xw_X12_addRef rfl wd_198 dX12_longRef_109 (by decide) (by decide) (by simp [x_cat, x_catI, x_catJ])
                refine x_callR z9 ?_
                refine ev_at (st' := [.int v_65]) rfl rfl ?_
                refine ev_goto (tgt := 116) dX12_longRef_112 (by decide) ?_
                exact ev_sub [] rfl (ev_X12_longRef_p116 hO hP h)
              · have z9 := x_call (M := mX12_longRef) (M' := mX12_addRef) (pc := 109) (st := [.int 0, .int 0, .int v_1, .int v1, .int 0, va_rf (some a0)]) (rest := []) (av := [va_rf (some a0), .int 0, .int v1, .int v_1, .int 0, .int 0]) (x_linkV (M := mX12_longRef) (M' := mX12_addRef) (As := [.int 0, .int v1, .int v_1, .int 0, .int 0]) (index := 208) (C := RX12) (T := TX12) (xE_12 c_68) rfl wd_706 wd_707 (wG_in (List.mem_append_left _ (List.mem_of_getElem? (i := 61) rfl)) rfl) xw_X12_addRef rfl (by decide) rfl rfl dX12_longRef_109) (ev_X12_addRef hO hP h_67) xw_X12_addRef rfl wd_198 dX12_longRef_109 (by decide) (by decide) (by simp [x_cat, x_catI, x_catJ])
                cases h
                exact x_callX z9 (evX_out rfl)
          · have z9 := x_call (M := mX12_longRef) (M' := mX12_ok) (pc := 97) (st := [va_rf (some a0)]) (rest := []) (av := [va_rf (some a0)]) (x_linkV (M := mX12_longRef) (M' := mX12_ok) (As := []) (index := 121) (C := RX12) (T := TX12) (xE_12 c_63) rfl wd_640 wd_641 (wG_in (List.mem_append_left _ (List.mem_of_getElem? (i := 37) rfl)) rfl) xw_X12_ok rfl (by decide) rfl rfl dX12_longRef_97) (ev_X12_ok hO hP h_62) xw_X12_ok rfl wd_198 dX12_longRef_97 (by decide) (by decide) (by simp [x_cat, x_catI, x_catJ])
            cases h
            exact x_callX z9 (evX_out rfl)
        · rw [if_neg c_13] at h
          refine ev_if_ne (x := v_9) (tgt := 117) dX12_longRef_93 (by decide) (fun _ => ?_) (fun q9 => absurd q9 c_13)
          refine ev_aload_n (j := 1) (x := (some a0)) dX12_longRef_117 rfl rfl ?_
          obtain ⟨c_17, h⟩ := x_chk_e h
          rcases x_bind_e h with ⟨v_14, σ_15, h_16, h⟩ | ⟨E_59, σ_15, h_16, h⟩
          · have z9 := x_call (M := mX12_longRef) (M' := mX12_next) (pc := 118) (st := [va_rf (some a0)]) (rest := []) (av := [va_rf (some a0)]) (x_linkV (M := mX12_longRef) (M' := mX12_next) (As := []) (index := 169) (C := RX12) (T := TX12) (xE_12 c_17) rfl wd_679 wd_680 (wG_in (List.mem_append_left _ (List.mem_of_getElem? (i := 36) rfl)) rfl) xw_X12_next rfl (by decide) rfl rfl dX12_longRef_118) (ev_X12_next hO hP h_16) xw_X12_next rfl wd_198 dX12_longRef_118 (by decide) (by decide) (by simp [x_cat, x_catI, x_catJ])
            refine x_callR z9 ?_
            refine ev_at (st' := []) rfl rfl ?_
            refine ev_aload_n (j := 1) (x := (some a0)) dX12_longRef_121 rfl rfl ?_
            refine ev_iconst (v := 0) dX12_longRef_122 (by decide) ?_
            refine ev_aload_n (j := 1) (x := (some a0)) dX12_longRef_123 rfl rfl ?_
            obtain ⟨c_18, h⟩ := x_chk_e h
            refine ev_get (C := RX12) (T := TX12) (k := 12) inX12 (xE_12 c_18) rfl (by decide) wd_159 (Or.inl rfl) rfl dX12_longRef_124 ?_
            refine ev_aload_n (j := 1) (x := (some a0)) dX12_longRef_127 rfl rfl ?_
            refine ev_iload_n (j := 0) (x := v_1) dX12_longRef_128 rfl rfl ?_
            rcases x_bind_e h with ⟨v_19, σ_20, h_21, h⟩ | ⟨E_58, σ_20, h_21, h⟩
            · have z9 := x_call (M := mX12_longRef) (M' := mX12_netCell) (pc := 129) (st := [.int v_1, va_rf (some a0), va_rf (σ_15.R 1112 a0), .int 0, va_rf (some a0)]) (rest := [va_rf (σ_15.R 1112 a0), .int 0, va_rf (some a0)]) (av := [va_rf (some a0), .int v_1]) (x_linkV (M := mX12_longRef) (M' := mX12_netCell) (As := [.int v_1]) (index := 178) (C := RX12) (T := TX12) (xE_12 c_18) rfl wd_685 wd_686 (wG_in (List.mem_append_left _ (List.mem_of_getElem? (i := 53) rfl)) rfl) xw_X12_netCell rfl (by decide) rfl rfl dX12_longRef_129) (ev_X12_netCell hO hP h_21) xw_X12_netCell rfl wd_198 dX12_longRef_129 (by decide) (by decide) (by simp [x_cat, x_catI, x_catJ])
              refine x_callR z9 ?_
              refine ev_at (st' := [.int v_19, va_rf (σ_15.R 1112 a0), .int 0, va_rf (some a0)]) rfl rfl ?_
              obtain ⟨a_22, ea_22, h⟩ := x_some_e h
              refine ev_at (st' := [.int v_19, va_rf (some a_22), .int 0, va_rf (some a0)]) rfl (by rw [ea_22]) ?_
              obtain ⟨c_23, h⟩ := x_chk_e h
              refine ev_iald_31 c_23.1 c_23.2 dX12_longRef_132 ?_
              refine ev_iconst (v := 1) dX12_longRef_133 (by decide) ?_
              refine ev_isub (x := (σ_20.AI a_22 (Int32.toNatClampNeg v_19))) (y := 1) dX12_longRef_134 ?_
              obtain ⟨c_27, h⟩ := x_chk_e h
              rcases x_bind_e h with ⟨v_24, σ_25, h_26, h⟩ | ⟨E_57, σ_25, h_26, h⟩
              · have z9 := x_call (M := mX12_longRef) (M' := mX12_needNumber) (pc := 135) (st := [.int ((σ_20.AI a_22 (Int32.toNatClampNeg v_19)) - 1), .int 0, va_rf (some a0)]) (rest := []) (av := [va_rf (some a0), .int 0, .int ((σ_20.AI a_22 (Int32.toNatClampNeg v_19)) - 1)]) (x_linkV (M := mX12_longRef) (M' := mX12_needNumber) (As := [.int 0, .int ((σ_20.AI a_22 (Int32.toNatClampNeg v_19)) - 1)]) (index := 195) (C := RX12) (T := TX12) (xE_12 c_27) rfl wd_694 wd_695 (wG_in (List.mem_append_left _ (List.mem_of_getElem? (i := 56) rfl)) rfl) xw_X12_needNumber rfl (by decide) rfl rfl dX12_longRef_135) (ev_X12_needNumber hO hP h_26) xw_X12_needNumber rfl wd_198 dX12_longRef_135 (by decide) (by decide) (by simp [x_cat, x_catI, x_catJ])
                refine x_callR z9 ?_
                refine ev_at (st' := []) rfl rfl ?_
                refine ev_aload_n (j := 1) (x := (some a0)) dX12_longRef_138 rfl rfl ?_
                obtain ⟨c_28, h⟩ := x_chk_e h
                refine ev_get (C := RX12) (T := TX12) (k := 38) inX12 (xE_12 c_28) rfl (by decide) wd_654 (Or.inl rfl) rfl dX12_longRef_139 ?_
                obtain ⟨v_29, ev_29, h⟩ := x_let_e h
                rw [← ev_29]
                refine ev_istore_n (i := 3) (lv' := [(3, .int v_29), (2, .int v_1), (0, va_rf (some a0)), (1, .int v1)]) dX12_longRef_142 rfl (by decide) rfl ?_
                refine ev_aload_n (j := 2) (x := (some a0)) dX12_longRef_143 rfl rfl ?_
                refine ev_get (C := RX12) (T := TX12) (k := 38) inX12 (xE_12 c_28) rfl (by decide) wd_654 (Or.inl rfl) rfl dX12_longRef_144 ?_
                obtain ⟨v_30, ev_30, h⟩ := x_let_e h
                rw [← ev_30]
                refine ev_istore (i := 4) (lv' := [(4, .int v_30), (3, .int v_29), (2, .int v_1), (0, va_rf (some a0)), (1, .int v1)]) dX12_longRef_147 (by decide) rfl ?_
                refine ev_iconst (v := 1) dX12_longRef_149 (by decide) ?_
                refine ev_istore (i := 5) (lv' := [(5, .int 1), (4, .int v_30), (3, .int v_29), (2, .int v_1), (0, va_rf (some a0)), (1, .int v1)]) dX12_longRef_150 (by decide) rfl ?_
                refine ev_aload_n (j := 4) (x := (some a0)) dX12_longRef_152 rfl rfl ?_
                rcases x_bind_e h with ⟨v_31, σ_32, h_33, h⟩ | ⟨E_56, σ_32, h_33, h⟩
                · have z9 := x_call (M := mX12_longRef) (M' := mX12_next) (pc := 153) (st := [va_rf (some a0)]) (rest := []) (av := [va_rf (some a0)]) (x_linkV (M := mX12_longRef) (M' := mX12_next) (As := []) (index := 169) (C := RX12) (T := TX12) (xE_12 c_28) rfl wd_679 wd_680 (wG_in (List.mem_append_left _ (List.mem_of_getElem? (i := 36) rfl)) rfl) xw_X12_next rfl (by decide) rfl rfl dX12_longRef_153) (ev_X12_next hO hP h_33) xw_X12_next rfl wd_198 dX12_longRef_153 (by decide) (by decide) (by simp [x_cat, x_catI, x_catJ])
                  refine x_callR z9 ?_
                  refine ev_at (st' := []) rfl rfl ?_
                  refine ev_aload_n (j := 4) (x := (some a0)) dX12_longRef_156 rfl rfl ?_
                  refine ev_bipush (v := 58) dX12_longRef_157 (by decide) ?_
                  obtain ⟨c_37, h⟩ := x_chk_e h
                  rcases x_bind_e h with ⟨v_34, σ_35, h_36, h⟩ | ⟨E_55, σ_35, h_36, h⟩
                  · have z9 := x_call (M := mX12_longRef) (M' := mX12_isSign) (pc := 159) (st := [.int 58, va_rf (some a0)]) (rest := []) (av := [va_rf (some a0), .int 58]) (x_linkV (M := mX12_longRef) (M' := mX12_isSign) (As := [.int 58]) (index := 166) (C := RX12) (T := TX12) (xE_12 c_37) rfl wd_682 wd_683 (wG_in (List.mem_append_left _ (List.mem_of_getElem? (i := 50) rfl)) rfl) xw_X12_isSign rfl (by decide) rfl rfl dX12_longRef_159) (ev_X12_isSign hO hP h_36) xw_X12_isSign rfl wd_198 dX12_longRef_159 (by decide) (by decide) (by simp [x_cat, x_catI, x_catJ])
                    refine x_callR z9 ?_
                    refine ev_at (st' := [.int v_34]) rfl rfl ?_
                    by_cases c_38 : v_34 = 0
                    · rw [if_pos c_38] at h
                      refine ev_if_eq (x := v_34) (tgt := 188) dX12_longRef_162 (by decide) (fun _ => ?_) (fun q9 => absurd c_38 q9)
                      exact ev_sub [4, 5, 3, 2, 1, 0] rfl (ev_X12_longRef_p188 hO hP h)
                    · rw [if_neg c_38] at h
                      refine ev_if_eq (x := v_34) (tgt := 188) dX12_longRef_162 (by decide) (fun q9 => absurd q9 c_38) (fun _ => ?_)
                      refine ev_aload_n (j := 4) (x := (some a0)) dX12_longRef_165 rfl rfl ?_
                      obtain ⟨c_42, h⟩ := x_chk_e h
                      rcases x_bind_e h with ⟨v_39, σ_40, h_41, h⟩ | ⟨E_54, σ_40, h_41, h⟩
                      · have z9 := x_call (M := mX12_longRef) (M' := mX12_next) (pc := 166) (st := [va_rf (some a0)]) (rest := []) (av := [va_rf (some a0)]) (x_linkV (M := mX12_longRef) (M' := mX12_next) (As := []) (index := 169) (C := RX12) (T := TX12) (xE_12 c_42) rfl wd_679 wd_680 (wG_in (List.mem_append_left _ (List.mem_of_getElem? (i := 36) rfl)) rfl) xw_X12_next rfl (by decide) rfl rfl dX12_longRef_166) (ev_X12_next hO hP h_41) xw_X12_next rfl wd_198 dX12_longRef_166 (by decide) (by decide) (by simp [x_cat, x_catI, x_catJ])
                        refine x_callR z9 ?_
                        refine ev_at (st' := []) rfl rfl ?_
                        refine ev_aload_n (j := 4) (x := (some a0)) dX12_longRef_169 rfl rfl ?_
                        refine ev_iconst (v := 0) dX12_longRef_170 (by decide) ?_
                        refine ev_iload_n (j := 2) (x := v_29) dX12_longRef_171 rfl rfl ?_
                        obtain ⟨c_46, h⟩ := x_chk_e h
                        rcases x_bind_e h with ⟨v_43, σ_44, h_45, h⟩ | ⟨E_53, σ_44, h_45, h⟩
                        · have z9 := x_call (M := mX12_longRef) (M' := mX12_needNumber) (pc := 172) (st := [.int v_29, .int 0, va_rf (some a0)]) (rest := []) (av := [va_rf (some a0), .int 0, .int v_29]) (x_linkV (M := mX12_longRef) (M' := mX12_needNumber) (As := [.int 0, .int v_29]) (index := 195) (C := RX12) (T := TX12) (xE_12 c_46) rfl wd_694 wd_695 (wG_in (List.mem_append_left _ (List.mem_of_getElem? (i := 56) rfl)) rfl) xw_X12_needNumber rfl (by decide) rfl rfl dX12_longRef_172) (ev_X12_needNumber hO hP h_45) xw_X12_needNumber rfl wd_198 dX12_longRef_172 (by decide) (by decide) (by simp [x_cat, x_catI, x_catJ])
                          refine x_callR z9 ?_
                          refine ev_at (st' := []) rfl rfl ?_
                          refine ev_aload_n (j := 4) (x := (some a0)) dX12_longRef_175 rfl rfl ?_
                          obtain ⟨c_47, h⟩ := x_chk_e h
                          refine ev_get (C := RX12) (T := TX12) (k := 38) inX12 (xE_12 c_47) rfl (by decide) wd_654 (Or.inl rfl) rfl dX12_longRef_176 ?_
                          obtain ⟨v_48, ev_48, h⟩ := x_let_e h
                          rw [← ev_48]
                          refine ev_istore (i := 4) (lv' := [(4, .int v_48), (5, .int 1), (3, .int v_29), (2, .int v_1), (0, va_rf (some a0)), (1, .int v1)]) dX12_longRef_179 (by decide) rfl ?_
                          refine ev_iconst (v := 2) dX12_longRef_181 (by decide) ?_
                          refine ev_istore (i := 5) (lv' := [(5, .int 2), (4, .int v_48), (3, .int v_29), (2, .int v_1), (0, va_rf (some a0)), (1, .int v1)]) dX12_longRef_182 (by decide) rfl ?_
                          refine ev_aload_n (j := 4) (x := (some a0)) dX12_longRef_184 rfl rfl ?_
                          rcases x_bind_e h with ⟨v_49, σ_50, h_51, h⟩ | ⟨E_52, σ_50, h_51, h⟩
                          · have z9 := x_call (M := mX12_longRef) (M' := mX12_next) (pc := 185) (st := [va_rf (some a0)]) (rest := []) (av := [va_rf (some a0)]) (x_linkV (M := mX12_longRef) (M' := mX12_next) (As := []) (index := 169) (C := RX12) (T := TX12) (xE_12 c_47) rfl wd_679 wd_680 (wG_in (List.mem_append_left _ (List.mem_of_getElem? (i := 36) rfl)) rfl) xw_X12_next rfl (by decide) rfl rfl dX12_longRef_185) (ev_X12_next hO hP h_51) xw_X12_next rfl wd_198 dX12_longRef_185 (by decide) (by decide) (by simp [x_cat, x_catI, x_catJ])
                            refine x_callR z9 ?_
                            refine ev_at (st' := []) rfl rfl ?_
                            exact ev_sub [4, 5, 3, 2, 1, 0] rfl (ev_X12_longRef_p188 hO hP h)
                          · have z9 := x_call (M := mX12_longRef) (M' := mX12_next) (pc := 185) (st := [va_rf (some a0)]) (rest := []) (av := [va_rf (some a0)]) (x_linkV (M := mX12_longRef) (M' := mX12_next) (As := []) (index := 169) (C := RX12) (T := TX12) (xE_12 c_47) rfl wd_679 wd_680 (wG_in (List.mem_append_left _ (List.mem_of_getElem? (i := 36) rfl)) rfl) xw_X12_next rfl (by decide) rfl rfl dX12_longRef_185) (ev_X12_next hO hP h_51) xw_X12_next rfl wd_198 dX12_longRef_185 (by decide) (by decide) (by simp [x_cat, x_catI, x_catJ])
                            cases h
                            exact x_callX z9 (evX_out rfl)
                        · have z9 := x_call (M := mX12_longRef) (M' := mX12_needNumber) (pc := 172) (st := [.int v_29, .int 0, va_rf (some a0)]) (rest := []) (av := [va_rf (some a0), .int 0, .int v_29]) (x_linkV (M := mX12_longRef) (M' := mX12_needNumber) (As := [.int 0, .int v_29]) (index := 195) (C := RX12) (T := TX12) (xE_12 c_46) rfl wd_694 wd_695 (wG_in (List.mem_append_left _ (List.mem_of_getElem? (i := 56) rfl)) rfl) xw_X12_needNumber rfl (by decide) rfl rfl dX12_longRef_172) (ev_X12_needNumber hO hP h_45) xw_X12_needNumber rfl wd_198 dX12_longRef_172 (by decide) (by decide) (by simp [x_cat, x_catI, x_catJ])
                          cases h
                          exact x_callX z9 (evX_out rfl)
                      · have z9 := x_call (M := mX12_longRef) (M' := mX12_next) (pc := 166) (st := [va_rf (some a0)]) (rest := []) (av := [va_rf (some a0)]) (x_linkV (M := mX12_longRef) (M' := mX12_next) (As := []) (index := 169) (C := RX12) (T := TX12) (xE_12 c_42) rfl wd_679 wd_680 (wG_in (List.mem_append_left _ (List.mem_of_getElem? (i := 36) rfl)) rfl) xw_X12_next rfl (by decide) rfl rfl dX12_longRef_166) (ev_X12_next hO hP h_41) xw_X12_next rfl wd_198 dX12_longRef_166 (by decide) (by decide) (by simp [x_cat, x_catI, x_catJ])
                        cases h
                        exact x_callX z9 (evX_out rfl)
                  · have z9 := x_call (M := mX12_longRef) (M' := mX12_isSign) (pc := 159) (st := [.int 58, va_rf (some a0)]) (rest := []) (av := [va_rf (some a0), .int 58]) (x_linkV (M := mX12_longRef) (M' := mX12_isSign) (As := [.int 58]) (index := 166) (C := RX12) (T := TX12) (xE_12 c_37) rfl wd_682 wd_683 (wG_in (List.mem_append_left _ (List.mem_of_getElem? (i := 50) rfl)) rfl) xw_X12_isSign rfl (by decide) rfl rfl dX12_longRef_159) (ev_X12_isSign hO hP h_36) xw_X12_isSign rfl wd_198 dX12_longRef_159 (by decide) (by decide) (by simp [x_cat, x_catI, x_catJ])
                    cases h
                    exact x_callX z9 (evX_out rfl)
                · have z9 := x_call (M := mX12_longRef) (M' := mX12_next) (pc := 153) (st := [va_rf (some a0)]) (rest := []) (av := [va_rf (some a0)]) (x_linkV (M := mX12_longRef) (M' := mX12_next) (As := []) (index := 169) (C := RX12) (T := TX12) (xE_12 c_28) rfl wd_679 wd_680 (wG_in (List.mem_append_left _ (List.mem_of_getElem? (i := 36) rfl)) rfl) xw_X12_next rfl (by decide) rfl rfl dX12_longRef_153) (ev_X12_next hO hP h_33) xw_X12_next rfl wd_198 dX12_longRef_153 (by decide) (by decide) (by simp [x_cat, x_catI, x_catJ])
                  cases h
                  exact x_callX z9 (evX_out rfl)
              · have z9 := x_call (M := mX12_longRef) (M' := mX12_needNumber) (pc := 135) (st := [.int ((σ_20.AI a_22 (Int32.toNatClampNeg v_19)) - 1), .int 0, va_rf (some a0)]) (rest := []) (av := [va_rf (some a0), .int 0, .int ((σ_20.AI a_22 (Int32.toNatClampNeg v_19)) - 1)]) (x_linkV (M := mX12_longRef) (M' := mX12_needNumber) (As := [.int 0, .int ((σ_20.AI a_22 (Int32.toNatClampNeg v_19)) - 1)]) (index := 195) (C := RX12) (T := TX12) (xE_12 c_27) rfl wd_694 wd_695 (wG_in (List.mem_append_left _ (List.mem_of_getElem? (i := 56) rfl)) rfl) xw_X12_needNumber rfl (by decide) rfl rfl dX12_longRef_135) (ev_X12_needNumber hO hP h_26) xw_X12_needNumber rfl wd_198 dX12_longRef_135 (by decide) (by decide) (by simp [x_cat, x_catI, x_catJ])
                cases h
                exact x_callX z9 (evX_out rfl)
            · have z9 := x_call (M := mX12_longRef) (M' := mX12_netCell) (pc := 129) (st := [.int v_1, va_rf (some a0), va_rf (σ_15.R 1112 a0), .int 0, va_rf (some a0)]) (rest := [va_rf (σ_15.R 1112 a0), .int 0, va_rf (some a0)]) (av := [va_rf (some a0), .int v_1]) (x_linkV (M := mX12_longRef) (M' := mX12_netCell) (As := [.int v_1]) (index := 178) (C := RX12) (T := TX12) (xE_12 c_18) rfl wd_685 wd_686 (wG_in (List.mem_append_left _ (List.mem_of_getElem? (i := 53) rfl)) rfl) xw_X12_netCell rfl (by decide) rfl rfl dX12_longRef_129) (ev_X12_netCell hO hP h_21) xw_X12_netCell rfl wd_198 dX12_longRef_129 (by decide) (by decide) (by simp [x_cat, x_catI, x_catJ])
              cases h
              exact x_callX z9 (evX_out rfl)
          · have z9 := x_call (M := mX12_longRef) (M' := mX12_next) (pc := 118) (st := [va_rf (some a0)]) (rest := []) (av := [va_rf (some a0)]) (x_linkV (M := mX12_longRef) (M' := mX12_next) (As := []) (index := 169) (C := RX12) (T := TX12) (xE_12 c_17) rfl wd_679 wd_680 (wG_in (List.mem_append_left _ (List.mem_of_getElem? (i := 36) rfl)) rfl) xw_X12_next rfl (by decide) rfl rfl dX12_longRef_118) (ev_X12_next hO hP h_16) xw_X12_next rfl wd_198 dX12_longRef_118 (by decide) (by decide) (by simp [x_cat, x_catI, x_catJ])
            cases h
            exact x_callX z9 (evX_out rfl)
      · have z9 := x_call (M := mX12_longRef) (M' := mX12_isSign) (pc := 90) (st := [.int 91, va_rf (some a0)]) (rest := []) (av := [va_rf (some a0), .int 91]) (x_linkV (M := mX12_longRef) (M' := mX12_isSign) (As := [.int 91]) (index := 166) (C := RX12) (T := TX12) (xE_12 c_12) rfl wd_682 wd_683 (wG_in (List.mem_append_left _ (List.mem_of_getElem? (i := 50) rfl)) rfl) xw_X12_isSign rfl (by decide) rfl rfl dX12_longRef_90) (ev_X12_isSign hO hP h_11) xw_X12_isSign rfl wd_198 dX12_longRef_90 (by decide) (by decide) (by simp [x_cat, x_catI, x_catJ])
        cases h
        exact x_callX z9 (evX_out rfl)
    · have z9 := x_call (M := mX12_longRef) (M' := mX12_next) (pc := 84) (st := [va_rf (some a0)]) (rest := []) (av := [va_rf (some a0)]) (x_linkV (M := mX12_longRef) (M' := mX12_next) (As := []) (index := 169) (C := RX12) (T := TX12) (xE_12 c_8) rfl wd_679 wd_680 (wG_in (List.mem_append_left _ (List.mem_of_getElem? (i := 36) rfl)) rfl) xw_X12_next rfl (by decide) rfl rfl dX12_longRef_84) (ev_X12_next hO hP h_7) xw_X12_next rfl wd_198 dX12_longRef_84 (by decide) (by decide) (by simp [x_cat, x_catI, x_catJ])
      cases h
      exact x_callX z9 (evX_out rfl)
  · have z9 := x_call (M := mX12_longRef) (M' := mX12_takeNet) (pc := 79) (st := [va_rf (some a0)]) (rest := []) (av := [va_rf (some a0)]) (x_linkV (M := mX12_longRef) (M' := mX12_takeNet) (As := []) (index := 212) (C := RX12) (T := TX12) (xE_12 c_4) rfl wd_709 wd_710 (wG_in (List.mem_append_left _ (List.mem_of_getElem? (i := 62) rfl)) rfl) xw_X12_takeNet rfl (by decide) rfl rfl dX12_longRef_79) (ev_X12_takeNet hO hP h_3) xw_X12_takeNet rfl wd_198 dX12_longRef_79 (by decide) (by decide) (by simp [x_cat, x_catI, x_catJ])
    cases h
    exact x_callX z9 (evX_out rfl)
set_option maxHeartbeats 4000000 in
set_option maxRecDepth 100000 in
theorem ev_X12_longRef {l : Launch} {G : xG} (hO : x_OK l G) {P : xP} (hP : x_PG P G) {a0 : Nat} {σ σ' : xS} {rr : Int32 ⊕ String} (h : dm_X12_longRef P a0 σ = some (rr, σ')) : EvM l G mX12_longRef [va_rf (some a0)] σ (xrI rr) σ' := by
  unfold dm_X12_longRef at h
  refine evM_of hO (by decide +kernel) (x_lenI (by simp [x_cat, x_catI, x_catJ, mX12_longRef, xM.maxL])) ?_
  refine Eq.mp (congrArg (fun z => Ev l G mX12_longRef 0 z [] σ (xrI rr) σ') (show [(0, va_rf (some a0))] = lv_args 0 [va_rf (some a0)] by simp [lv_args, x_cat, x_catI, x_catJ])) ?_
  refine ev_aload_n (j := 0) (x := (some a0)) dX12_longRef_0 rfl rfl ?_
  obtain ⟨c_1, h⟩ := x_chk_e h
  refine ev_get (C := RX12) (T := TX12) (k := 36) inX12 (xE_12 c_1) rfl (by decide) wd_646 (Or.inl rfl) rfl dX12_longRef_1 ?_
  obtain ⟨v_2, ev_2, h⟩ := x_let_e h
  rw [← ev_2]
  refine ev_istore_n (i := 1) (lv' := [(1, .int v_2), (0, va_rf (some a0))]) dX12_longRef_4 rfl (by decide) (by simp [x_cat, x_catI, x_catJ]) ?_
  refine ev_aload_n (j := 1) (x := (some a0)) dX12_longRef_5 rfl rfl ?_
  rcases x_bind_e h with ⟨v_3, σ_4, h_5, h⟩ | ⟨E_46, σ_4, h_5, h⟩
  · have z9 := x_call (M := mX12_longRef) (M' := mX12_ok) (pc := 6) (st := [va_rf (some a0)]) (rest := []) (av := [va_rf (some a0)]) (x_linkV (M := mX12_longRef) (M' := mX12_ok) (As := []) (index := 121) (C := RX12) (T := TX12) (xE_12 c_1) rfl wd_640 wd_641 (wG_in (List.mem_append_left _ (List.mem_of_getElem? (i := 37) rfl)) rfl) xw_X12_ok rfl (by decide) rfl rfl dX12_longRef_6) (ev_X12_ok hO hP h_5) xw_X12_ok rfl wd_198 dX12_longRef_6 (by decide) (by decide) (by simp [x_cat, x_catI, x_catJ])
    refine x_callR z9 ?_
    refine ev_at (st' := [.int v_3]) rfl rfl ?_
    by_cases c_6 : v_3 = 0
    · rw [if_pos c_6] at h
      refine ev_if_eq (x := v_3) (tgt := 78) dX12_longRef_9 (by decide) (fun _ => ?_) (fun q9 => absurd c_6 q9)
      exact ev_sub [1, 0] rfl (ev_X12_longRef_p78 hO hP h)
    · rw [if_neg c_6] at h
      refine ev_if_eq (x := v_3) (tgt := 78) dX12_longRef_9 (by decide) (fun q9 => absurd q9 c_6) (fun _ => ?_)
      refine ev_aload_n (j := 1) (x := (some a0)) dX12_longRef_12 rfl rfl ?_
      obtain ⟨c_7, h⟩ := x_chk_e h
      refine ev_get (C := RX12) (T := TX12) (k := 35) inX12 (xE_12 c_7) rfl (by decide) wd_653 (Or.inl rfl) rfl dX12_longRef_13 ?_
      refine ev_iconst (v := 2) dX12_longRef_16 (by decide) ?_
      by_cases c_8 : (σ_4.I 1135 a0) = 2
      · rw [if_pos c_8] at h
        refine ev_icmp_ne (x := (σ_4.I 1135 a0)) (y := 2) (tgt := 78) dX12_longRef_17 (by decide) (fun q9 => absurd c_8 q9) (fun _ => ?_)
        refine ev_aload_n (j := 1) (x := (some a0)) dX12_longRef_20 rfl rfl ?_
        refine ev_get (C := RX12) (T := TX12) (k := 38) inX12 (xE_12 c_7) rfl (by decide) wd_654 (Or.inl rfl) rfl dX12_longRef_21 ?_
        obtain ⟨v_9, ev_9, h⟩ := x_let_e h
        rw [← ev_9]
        refine ev_istore_n (i := 2) (lv' := [(2, .int v_9), (1, .int v_2), (0, va_rf (some a0))]) dX12_longRef_24 rfl (by decide) rfl ?_
        refine ev_aload_n (j := 2) (x := (some a0)) dX12_longRef_25 rfl rfl ?_
        refine ev_iconst (v := 1) dX12_longRef_26 (by decide) ?_
        refine ev_bipush (v := 7) dX12_longRef_27 (by decide) ?_
        rcases x_bind_e h with ⟨v_10, σ_11, h_12, h⟩ | ⟨E_45, σ_11, h_12, h⟩
        · have z9 := x_call (M := mX12_longRef) (M' := mX12_needNumber) (pc := 29) (st := [.int 7, .int 1, va_rf (some a0)]) (rest := []) (av := [va_rf (some a0), .int 1, .int 7]) (x_linkV (M := mX12_longRef) (M' := mX12_needNumber) (As := [.int 1, .int 7]) (index := 195) (C := RX12) (T := TX12) (xE_12 c_7) rfl wd_694 wd_695 (wG_in (List.mem_append_left _ (List.mem_of_getElem? (i := 56) rfl)) rfl) xw_X12_needNumber rfl (by decide) rfl rfl dX12_longRef_29) (ev_X12_needNumber hO hP h_12) xw_X12_needNumber rfl wd_198 dX12_longRef_29 (by decide) (by decide) (by simp [x_cat, x_catI, x_catJ])
          refine x_callR z9 ?_
          refine ev_at (st' := []) rfl rfl ?_
          refine ev_aload_n (j := 2) (x := (some a0)) dX12_longRef_32 rfl rfl ?_
          obtain ⟨c_16, h⟩ := x_chk_e h
          rcases x_bind_e h with ⟨v_13, σ_14, h_15, h⟩ | ⟨E_44, σ_14, h_15, h⟩
          · have z9 := x_call (M := mX12_longRef) (M' := mX12_next) (pc := 33) (st := [va_rf (some a0)]) (rest := []) (av := [va_rf (some a0)]) (x_linkV (M := mX12_longRef) (M' := mX12_next) (As := []) (index := 169) (C := RX12) (T := TX12) (xE_12 c_16) rfl wd_679 wd_680 (wG_in (List.mem_append_left _ (List.mem_of_getElem? (i := 36) rfl)) rfl) xw_X12_next rfl (by decide) rfl rfl dX12_longRef_33) (ev_X12_next hO hP h_15) xw_X12_next rfl wd_198 dX12_longRef_33 (by decide) (by decide) (by simp [x_cat, x_catI, x_catJ])
            refine x_callR z9 ?_
            refine ev_at (st' := []) rfl rfl ?_
            refine ev_aload_n (j := 2) (x := (some a0)) dX12_longRef_36 rfl rfl ?_
            refine ev_bipush (v := 39) dX12_longRef_37 (by decide) ?_
            obtain ⟨c_20, h⟩ := x_chk_e h
            rcases x_bind_e h with ⟨v_17, σ_18, h_19, h⟩ | ⟨E_43, σ_18, h_19, h⟩
            · have z9 := x_call (M := mX12_longRef) (M' := mX12_needSign) (pc := 39) (st := [.int 39, va_rf (some a0)]) (rest := []) (av := [va_rf (some a0), .int 39]) (x_linkV (M := mX12_longRef) (M' := mX12_needSign) (As := [.int 39]) (index := 199) (C := RX12) (T := TX12) (xE_12 c_20) rfl wd_697 wd_698 (wG_in (List.mem_append_left _ (List.mem_of_getElem? (i := 49) rfl)) rfl) xw_X12_needSign rfl (by decide) rfl rfl dX12_longRef_39) (ev_X12_needSign hO hP h_19) xw_X12_needSign rfl wd_198 dX12_longRef_39 (by decide) (by decide) (by simp [x_cat, x_catI, x_catJ])
              refine x_callR z9 ?_
              refine ev_at (st' := []) rfl rfl ?_
              refine ev_aload_n (j := 2) (x := (some a0)) dX12_longRef_42 rfl rfl ?_
              obtain ⟨c_21, h⟩ := x_chk_e h
              refine ev_get (C := RX12) (T := TX12) (k := 36) inX12 (xE_12 c_21) rfl (by decide) wd_646 (Or.inl rfl) rfl dX12_longRef_43 ?_
              obtain ⟨v_22, ev_22, h⟩ := x_let_e h
              rw [← ev_22]
              refine ev_istore_n (i := 3) (lv' := [(3, .int v_22), (2, .int v_9), (1, .int v_2), (0, va_rf (some a0))]) dX12_longRef_46 rfl (by decide) rfl ?_
              refine ev_aload_n (j := 3) (x := (some a0)) dX12_longRef_47 rfl rfl ?_
              refine ev_iload_n (j := 1) (x := v_9) dX12_longRef_48 rfl rfl ?_
              rcases x_bind_e h with ⟨v_23, σ_24, h_25, h⟩ | ⟨E_42, σ_24, h_25, h⟩
              · have z9 := x_call (M := mX12_longRef) (M' := mX12_takeDigits) (pc := 49) (st := [.int v_9, va_rf (some a0)]) (rest := []) (av := [va_rf (some a0), .int v_9]) (x_linkV (M := mX12_longRef) (M' := mX12_takeDigits) (As := [.int v_9]) (index := 205) (C := RX12) (T := TX12) (xE_12 c_21) rfl wd_703 wd_704 (wG_in (List.mem_append_left _ (List.mem_of_getElem? (i := 60) rfl)) rfl) xw_X12_takeDigits rfl (by decide) rfl rfl dX12_longRef_49) (ev_X12_takeDigits hO hP h_25) xw_X12_takeDigits rfl wd_198 dX12_longRef_49 (by decide) (by decide) (by simp [x_cat, x_catI, x_catJ])
                refine x_callR z9 ?_
                refine ev_at (st' := [.int v_23]) rfl rfl ?_
                refine ev_pop dX12_longRef_52 rfl ?_
                refine ev_aload_n (j := 3) (x := (some a0)) dX12_longRef_53 rfl rfl ?_
                obtain ⟨c_29, h⟩ := x_chk_e h
                rcases x_bind_e h with ⟨v_26, σ_27, h_28, h⟩ | ⟨E_41, σ_27, h_28, h⟩
                · have z9 := x_call (M := mX12_longRef) (M' := mX12_next) (pc := 54) (st := [va_rf (some a0)]) (rest := []) (av := [va_rf (some a0)]) (x_linkV (M := mX12_longRef) (M' := mX12_next) (As := []) (index := 169) (C := RX12) (T := TX12) (xE_12 c_29) rfl wd_679 wd_680 (wG_in (List.mem_append_left _ (List.mem_of_getElem? (i := 36) rfl)) rfl) xw_X12_next rfl (by decide) rfl rfl dX12_longRef_54) (ev_X12_next hO hP h_28) xw_X12_next rfl wd_198 dX12_longRef_54 (by decide) (by decide) (by simp [x_cat, x_catI, x_catJ])
                  refine x_callR z9 ?_
                  refine ev_at (st' := []) rfl rfl ?_
                  refine ev_aload_n (j := 3) (x := (some a0)) dX12_longRef_57 rfl rfl ?_
                  obtain ⟨c_33, h⟩ := x_chk_e h
                  rcases x_bind_e h with ⟨v_30, σ_31, h_32, h⟩ | ⟨E_40, σ_31, h_32, h⟩
                  · have z9 := x_call (M := mX12_longRef) (M' := mX12_ok) (pc := 58) (st := [va_rf (some a0)]) (rest := []) (av := [va_rf (some a0)]) (x_linkV (M := mX12_longRef) (M' := mX12_ok) (As := []) (index := 121) (C := RX12) (T := TX12) (xE_12 c_33) rfl wd_640 wd_641 (wG_in (List.mem_append_left _ (List.mem_of_getElem? (i := 37) rfl)) rfl) xw_X12_ok rfl (by decide) rfl rfl dX12_longRef_58) (ev_X12_ok hO hP h_32) xw_X12_ok rfl wd_198 dX12_longRef_58 (by decide) (by decide) (by simp [x_cat, x_catI, x_catJ])
                    refine x_callR z9 ?_
                    refine ev_at (st' := [.int v_30]) rfl rfl ?_
                    by_cases c_34 : v_30 = 0
                    · rw [if_pos c_34] at h
                      refine ev_if_eq (x := v_30) (tgt := 76) dX12_longRef_61 (by decide) (fun _ => ?_) (fun q9 => absurd c_34 q9)
                      refine ev_iconst (v := -1) dX12_longRef_76 (by decide) ?_
                      exact ev_sub [] rfl (ev_X12_longRef_p77 hO hP h)
                    · rw [if_neg c_34] at h
                      refine ev_if_eq (x := v_30) (tgt := 76) dX12_longRef_61 (by decide) (fun q9 => absurd q9 c_34) (fun _ => ?_)
                      refine ev_aload_n (j := 3) (x := (some a0)) dX12_longRef_64 rfl rfl ?_
                      refine ev_iconst (v := 3) dX12_longRef_65 (by decide) ?_
                      refine ev_iload_n (j := 2) (x := v_2) dX12_longRef_66 rfl rfl ?_
                      refine ev_iconst (v := -1) dX12_longRef_67 (by decide) ?_
                      refine ev_iload_n (j := 0) (x := v_22) dX12_longRef_68 rfl rfl ?_
                      refine ev_iload_n (j := 1) (x := v_9) dX12_longRef_69 rfl rfl ?_
                      obtain ⟨c_38, h⟩ := x_chk_e h
                      rcases x_bind_e h with ⟨v_35, σ_36, h_37, h⟩ | ⟨E_39, σ_36, h_37, h⟩
                      · have z9 := x_call (M := mX12_longRef) (M' := mX12_addRef) (pc := 70) (st := [.int v_9, .int v_22, .int (-1), .int v_2, .int 3, va_rf (some a0)]) (rest := []) (av := [va_rf (some a0), .int 3, .int v_2, .int (-1), .int v_22, .int v_9]) (x_linkV (M := mX12_longRef) (M' := mX12_addRef) (As := [.int 3, .int v_2, .int (-1), .int v_22, .int v_9]) (index := 208) (C := RX12) (T := TX12) (xE_12 c_38) rfl wd_706 wd_707 (wG_in (List.mem_append_left _ (List.mem_of_getElem? (i := 61) rfl)) rfl) xw_X12_addRef rfl (by decide) rfl rfl dX12_longRef_70) (ev_X12_addRef hO hP h_37) xw_X12_addRef rfl wd_198 dX12_longRef_70 (by decide) (by decide) (by simp [x_cat, x_catI, x_catJ])
                        refine x_callR z9 ?_
                        refine ev_at (st' := [.int v_35]) rfl rfl ?_
                        refine ev_goto (tgt := 77) dX12_longRef_73 (by decide) ?_
                        exact ev_sub [] rfl (ev_X12_longRef_p77 hO hP h)
                      · have z9 := x_call (M := mX12_longRef) (M' := mX12_addRef) (pc := 70) (st := [.int v_9, .int v_22, .int (-1), .int v_2, .int 3, va_rf (some a0)]) (rest := []) (av := [va_rf (some a0), .int 3, .int v_2, .int (-1), .int v_22, .int v_9]) (x_linkV (M := mX12_longRef) (M' := mX12_addRef) (As := [.int 3, .int v_2, .int (-1), .int v_22, .int v_9]) (index := 208) (C := RX12) (T := TX12) (xE_12 c_38) rfl wd_706 wd_707 (wG_in (List.mem_append_left _ (List.mem_of_getElem? (i := 61) rfl)) rfl) xw_X12_addRef rfl (by decide) rfl rfl dX12_longRef_70) (ev_X12_addRef hO hP h_37) xw_X12_addRef rfl wd_198 dX12_longRef_70 (by decide) (by decide) (by simp [x_cat, x_catI, x_catJ])
                        cases h
                        exact x_callX z9 (evX_out rfl)
                  · have z9 := x_call (M := mX12_longRef) (M' := mX12_ok) (pc := 58) (st := [va_rf (some a0)]) (rest := []) (av := [va_rf (some a0)]) (x_linkV (M := mX12_longRef) (M' := mX12_ok) (As := []) (index := 121) (C := RX12) (T := TX12) (xE_12 c_33) rfl wd_640 wd_641 (wG_in (List.mem_append_left _ (List.mem_of_getElem? (i := 37) rfl)) rfl) xw_X12_ok rfl (by decide) rfl rfl dX12_longRef_58) (ev_X12_ok hO hP h_32) xw_X12_ok rfl wd_198 dX12_longRef_58 (by decide) (by decide) (by simp [x_cat, x_catI, x_catJ])
                    cases h
                    exact x_callX z9 (evX_out rfl)
                · have z9 := x_call (M := mX12_longRef) (M' := mX12_next) (pc := 54) (st := [va_rf (some a0)]) (rest := []) (av := [va_rf (some a0)]) (x_linkV (M := mX12_longRef) (M' := mX12_next) (As := []) (index := 169) (C := RX12) (T := TX12) (xE_12 c_29) rfl wd_679 wd_680 (wG_in (List.mem_append_left _ (List.mem_of_getElem? (i := 36) rfl)) rfl) xw_X12_next rfl (by decide) rfl rfl dX12_longRef_54) (ev_X12_next hO hP h_28) xw_X12_next rfl wd_198 dX12_longRef_54 (by decide) (by decide) (by simp [x_cat, x_catI, x_catJ])
                  cases h
                  exact x_callX z9 (evX_out rfl)
              · have z9 := x_call (M := mX12_longRef) (M' := mX12_takeDigits) (pc := 49) (st := [.int v_9, va_rf (some a0)]) (rest := []) (av := [va_rf (some a0), .int v_9]) (x_linkV (M := mX12_longRef) (M' := mX12_takeDigits) (As := [.int v_9]) (index := 205) (C := RX12) (T := TX12) (xE_12 c_21) rfl wd_703 wd_704 (wG_in (List.mem_append_left _ (List.mem_of_getElem? (i := 60) rfl)) rfl) xw_X12_takeDigits rfl (by decide) rfl rfl dX12_longRef_49) (ev_X12_takeDigits hO hP h_25) xw_X12_takeDigits rfl wd_198 dX12_longRef_49 (by decide) (by decide) (by simp [x_cat, x_catI, x_catJ])
                cases h
                exact x_callX z9 (evX_out rfl)
            · have z9 := x_call (M := mX12_longRef) (M' := mX12_needSign) (pc := 39) (st := [.int 39, va_rf (some a0)]) (rest := []) (av := [va_rf (some a0), .int 39]) (x_linkV (M := mX12_longRef) (M' := mX12_needSign) (As := [.int 39]) (index := 199) (C := RX12) (T := TX12) (xE_12 c_20) rfl wd_697 wd_698 (wG_in (List.mem_append_left _ (List.mem_of_getElem? (i := 49) rfl)) rfl) xw_X12_needSign rfl (by decide) rfl rfl dX12_longRef_39) (ev_X12_needSign hO hP h_19) xw_X12_needSign rfl wd_198 dX12_longRef_39 (by decide) (by decide) (by simp [x_cat, x_catI, x_catJ])
              cases h
              exact x_callX z9 (evX_out rfl)
          · have z9 := x_call (M := mX12_longRef) (M' := mX12_next) (pc := 33) (st := [va_rf (some a0)]) (rest := []) (av := [va_rf (some a0)]) (x_linkV (M := mX12_longRef) (M' := mX12_next) (As := []) (index := 169) (C := RX12) (T := TX12) (xE_12 c_16) rfl wd_679 wd_680 (wG_in (List.mem_append_left _ (List.mem_of_getElem? (i := 36) rfl)) rfl) xw_X12_next rfl (by decide) rfl rfl dX12_longRef_33) (ev_X12_next hO hP h_15) xw_X12_next rfl wd_198 dX12_longRef_33 (by decide) (by decide) (by simp [x_cat, x_catI, x_catJ])
            cases h
            exact x_callX z9 (evX_out rfl)
        · have z9 := x_call (M := mX12_longRef) (M' := mX12_needNumber) (pc := 29) (st := [.int 7, .int 1, va_rf (some a0)]) (rest := []) (av := [va_rf (some a0), .int 1, .int 7]) (x_linkV (M := mX12_longRef) (M' := mX12_needNumber) (As := [.int 1, .int 7]) (index := 195) (C := RX12) (T := TX12) (xE_12 c_7) rfl wd_694 wd_695 (wG_in (List.mem_append_left _ (List.mem_of_getElem? (i := 56) rfl)) rfl) xw_X12_needNumber rfl (by decide) rfl rfl dX12_longRef_29) (ev_X12_needNumber hO hP h_12) xw_X12_needNumber rfl wd_198 dX12_longRef_29 (by decide) (by decide) (by simp [x_cat, x_catI, x_catJ])
          cases h
          exact x_callX z9 (evX_out rfl)
      · rw [if_neg c_8] at h
        refine ev_icmp_ne (x := (σ_4.I 1135 a0)) (y := 2) (tgt := 78) dX12_longRef_17 (by decide) (fun _ => ?_) (fun q9 => absurd q9 c_8)
        exact ev_sub [1, 0] rfl (ev_X12_longRef_p78 hO hP h)
  · have z9 := x_call (M := mX12_longRef) (M' := mX12_ok) (pc := 6) (st := [va_rf (some a0)]) (rest := []) (av := [va_rf (some a0)]) (x_linkV (M := mX12_longRef) (M' := mX12_ok) (As := []) (index := 121) (C := RX12) (T := TX12) (xE_12 c_1) rfl wd_640 wd_641 (wG_in (List.mem_append_left _ (List.mem_of_getElem? (i := 37) rfl)) rfl) xw_X12_ok rfl (by decide) rfl rfl dX12_longRef_6) (ev_X12_ok hO hP h_5) xw_X12_ok rfl wd_198 dX12_longRef_6 (by decide) (by decide) (by simp [x_cat, x_catI, x_catJ])
    cases h
    exact x_callX z9 (evX_out rfl)
set_option maxHeartbeats 4000000 in
set_option maxRecDepth 100000 in
theorem ev_X12_shortRef_p53 {l : Launch} {G : xG} (hO : x_OK l G) {P : xP} (hP : x_PG P G) {a0 : Nat} {s0 : Int32} {σ σ' : xS} {rr : Int32 ⊕ String} (h : dm_X12_shortRef_p53 P a0 s0 σ = some (rr, σ')) : Ev l G mX12_shortRef 53 [] [.int s0] σ (xrI rr) σ' := by
  unfold dm_X12_shortRef_p53 at h
  cases h
  exact ev_iret rfl rfl dX12_shortRef_53
set_option maxHeartbeats 4000000 in
set_option maxRecDepth 100000 in
theorem ev_X12_shortRef_p92 {l : Launch} {G : xG} (hO : x_OK l G) {P : xP} (hP : x_PG P G) {a0 : Nat} {s0 : Int32} {σ σ' : xS} {rr : Int32 ⊕ String} (h : dm_X12_shortRef_p92 P a0 s0 σ = some (rr, σ')) : Ev l G mX12_shortRef 92 [] [.int s0] σ (xrI rr) σ' := by
  unfold dm_X12_shortRef_p92 at h
  cases h
  exact ev_iret rfl rfl dX12_shortRef_92
set_option maxHeartbeats 4000000 in
set_option maxRecDepth 100000 in
theorem ev_X12_shortRef_p186 {l : Launch} {G : xG} (hO : x_OK l G) {P : xP} (hP : x_PG P G) {a0 : Nat} {s0 : Int32} {σ σ' : xS} {rr : Int32 ⊕ String} (h : dm_X12_shortRef_p186 P a0 s0 σ = some (rr, σ')) : Ev l G mX12_shortRef 186 [] [.int s0] σ (xrI rr) σ' := by
  unfold dm_X12_shortRef_p186 at h
  cases h
  exact ev_iret rfl rfl dX12_shortRef_186
set_option maxHeartbeats 4000000 in
set_option maxRecDepth 100000 in
theorem ev_X12_shortRef_p164 {l : Launch} {G : xG} (hO : x_OK l G) {P : xP} (hP : x_PG P G) {a0 : Nat} {v1 : Int32} {v2 : Int32} {v3 : Int32} {v4 : Int32} {v5 : Int32} {σ σ' : xS} {rr : Int32 ⊕ String} (h : dm_X12_shortRef_p164 P a0 v1 v2 v3 v4 v5 σ = some (rr, σ')) : Ev l G mX12_shortRef 164 [(0, va_rf (some a0)), (1, .int v1), (2, .int v2), (3, .int v3), (4, .int v4), (5, .int v5)] [] σ (xrI rr) σ' := by
  unfold dm_X12_shortRef_p164 at h
  refine ev_aload_n (j := 0) (x := (some a0)) dX12_shortRef_164 rfl rfl ?_
  obtain ⟨c_4, h⟩ := x_chk_e h
  rcases x_bind_e h with ⟨v_1, σ_2, h_3, h⟩ | ⟨E_11, σ_2, h_3, h⟩
  · have z9 := x_call (M := mX12_shortRef) (M' := mX12_ok) (pc := 165) (st := [va_rf (some a0)]) (rest := []) (av := [va_rf (some a0)]) (x_linkV (M := mX12_shortRef) (M' := mX12_ok) (As := []) (index := 121) (C := RX12) (T := TX12) (xE_12 c_4) rfl wd_640 wd_641 (wG_in (List.mem_append_left _ (List.mem_of_getElem? (i := 37) rfl)) rfl) xw_X12_ok rfl (by decide) rfl rfl dX12_shortRef_165) (ev_X12_ok hO hP h_3) xw_X12_ok rfl wd_198 dX12_shortRef_165 (by decide) (by decide) (by simp [x_cat, x_catI, x_catJ])
    refine x_callR z9 ?_
    refine ev_at (st' := [.int v_1]) rfl rfl ?_
    by_cases c_5 : v_1 = 0
    · rw [if_pos c_5] at h
      refine ev_if_eq (x := v_1) (tgt := 185) dX12_shortRef_168 (by decide) (fun _ => ?_) (fun q9 => absurd c_5 q9)
      refine ev_iconst (v := -1) dX12_shortRef_185 (by decide) ?_
      exact ev_sub [] rfl (ev_X12_shortRef_p186 hO hP h)
    · rw [if_neg c_5] at h
      refine ev_if_eq (x := v_1) (tgt := 185) dX12_shortRef_168 (by decide) (fun q9 => absurd q9 c_5) (fun _ => ?_)
      refine ev_aload_n (j := 0) (x := (some a0)) dX12_shortRef_171 rfl rfl ?_
      refine ev_iload (j := 5) (x := v5) dX12_shortRef_172 rfl ?_
      refine ev_iload_n (j := 1) (x := v1) dX12_shortRef_174 rfl rfl ?_
      refine ev_iload_n (j := 2) (x := v2) dX12_shortRef_175 rfl rfl ?_
      refine ev_iload_n (j := 3) (x := v3) dX12_shortRef_176 rfl rfl ?_
      refine ev_iload (j := 4) (x := v4) dX12_shortRef_177 rfl ?_
      obtain ⟨c_9, h⟩ := x_chk_e h
      rcases x_bind_e h with ⟨v_6, σ_7, h_8, h⟩ | ⟨E_10, σ_7, h_8, h⟩
      · have z9 := x_call (M := mX12_shortRef) (M' := mX12_addRef) (pc := 179) (st := [.int v4, .int v3, .int v2, .int v1, .int v5, va_rf (some a0)]) (rest := []) (av := [va_rf (some a0), .int v5, .int v1, .int v2, .int v3, .int v4]) (x_linkV (M := mX12_shortRef) (M' := mX12_addRef) (As := [.int v5, .int v1, .int v2, .int v3, .int v4]) (index := 208) (C := RX12) (T := TX12) (xE_12 c_9) rfl wd_706 wd_707 (wG_in (List.mem_append_left _ (List.mem_of_getElem? (i := 61) rfl)) rfl) xw_X12_addRef rfl (by decide) rfl rfl dX12_shortRef_179) (ev_X12_addRef hO hP h_8) xw_X12_addRef rfl wd_198 dX12_shortRef_179 (by decide) (by decide) (by simp [x_cat, x_catI, x_catJ])
        refine x_callR z9 ?_
        refine ev_at (st' := [.int v_6]) rfl rfl ?_
        refine ev_goto (tgt := 186) dX12_shortRef_182 (by decide) ?_
        exact ev_sub [] rfl (ev_X12_shortRef_p186 hO hP h)
      · have z9 := x_call (M := mX12_shortRef) (M' := mX12_addRef) (pc := 179) (st := [.int v4, .int v3, .int v2, .int v1, .int v5, va_rf (some a0)]) (rest := []) (av := [va_rf (some a0), .int v5, .int v1, .int v2, .int v3, .int v4]) (x_linkV (M := mX12_shortRef) (M' := mX12_addRef) (As := [.int v5, .int v1, .int v2, .int v3, .int v4]) (index := 208) (C := RX12) (T := TX12) (xE_12 c_9) rfl wd_706 wd_707 (wG_in (List.mem_append_left _ (List.mem_of_getElem? (i := 61) rfl)) rfl) xw_X12_addRef rfl (by decide) rfl rfl dX12_shortRef_179) (ev_X12_addRef hO hP h_8) xw_X12_addRef rfl wd_198 dX12_shortRef_179 (by decide) (by decide) (by simp [x_cat, x_catI, x_catJ])
        cases h
        exact x_callX z9 (evX_out rfl)
  · have z9 := x_call (M := mX12_shortRef) (M' := mX12_ok) (pc := 165) (st := [va_rf (some a0)]) (rest := []) (av := [va_rf (some a0)]) (x_linkV (M := mX12_shortRef) (M' := mX12_ok) (As := []) (index := 121) (C := RX12) (T := TX12) (xE_12 c_4) rfl wd_640 wd_641 (wG_in (List.mem_append_left _ (List.mem_of_getElem? (i := 37) rfl)) rfl) xw_X12_ok rfl (by decide) rfl rfl dX12_shortRef_165) (ev_X12_ok hO hP h_3) xw_X12_ok rfl wd_198 dX12_shortRef_165 (by decide) (by decide) (by simp [x_cat, x_catI, x_catJ])
    cases h
    exact x_callX z9 (evX_out rfl)
set_option maxHeartbeats 4000000 in
set_option maxRecDepth 100000 in
theorem ev_X12_shortRef {l : Launch} {G : xG} (hO : x_OK l G) {P : xP} (hP : x_PG P G) {a0 : Nat} {σ σ' : xS} {rr : Int32 ⊕ String} (h : dm_X12_shortRef P a0 σ = some (rr, σ')) : EvM l G mX12_shortRef [va_rf (some a0)] σ (xrI rr) σ' := by
  unfold dm_X12_shortRef at h
  refine evM_of hO (by decide +kernel) (x_lenI (by simp [x_cat, x_catI, x_catJ, mX12_shortRef, xM.maxL])) ?_
  refine Eq.mp (congrArg (fun z => Ev l G mX12_shortRef 0 z [] σ (xrI rr) σ') (show [(0, va_rf (some a0))] = lv_args 0 [va_rf (some a0)] by simp [lv_args, x_cat, x_catI, x_catJ])) ?_
  refine ev_aload_n (j := 0) (x := (some a0)) dX12_shortRef_0 rfl rfl ?_
  obtain ⟨c_1, h⟩ := x_chk_e h
  refine ev_get (C := RX12) (T := TX12) (k := 36) inX12 (xE_12 c_1) rfl (by decide) wd_646 (Or.inl rfl) rfl dX12_shortRef_1 ?_
  obtain ⟨v_2, ev_2, h⟩ := x_let_e h
  rw [← ev_2]
  refine ev_istore_n (i := 1) (lv' := [(1, .int v_2), (0, va_rf (some a0))]) dX12_shortRef_4 rfl (by decide) (by simp [x_cat, x_catI, x_catJ]) ?_
  refine ev_aload_n (j := 1) (x := (some a0)) dX12_shortRef_5 rfl rfl ?_
  refine ev_bipush (v := 39) dX12_shortRef_6 (by decide) ?_
  rcases x_bind_e h with ⟨v_3, σ_4, h_5, h⟩ | ⟨E_107, σ_4, h_5, h⟩
  · have z9 := x_call (M := mX12_shortRef) (M' := mX12_isSign) (pc := 8) (st := [.int 39, va_rf (some a0)]) (rest := []) (av := [va_rf (some a0), .int 39]) (x_linkV (M := mX12_shortRef) (M' := mX12_isSign) (As := [.int 39]) (index := 166) (C := RX12) (T := TX12) (xE_12 c_1) rfl wd_682 wd_683 (wG_in (List.mem_append_left _ (List.mem_of_getElem? (i := 50) rfl)) rfl) xw_X12_isSign rfl (by decide) rfl rfl dX12_shortRef_8) (ev_X12_isSign hO hP h_5) xw_X12_isSign rfl wd_198 dX12_shortRef_8 (by decide) (by decide) (by simp [x_cat, x_catI, x_catJ])
    refine x_callR z9 ?_
    refine ev_at (st' := [.int v_3]) rfl rfl ?_
    by_cases c_6 : v_3 = 0
    · rw [if_pos c_6] at h
      refine ev_if_eq (x := v_3) (tgt := 54) dX12_shortRef_11 (by decide) (fun _ => ?_) (fun q9 => absurd c_6 q9)
      refine ev_aload_n (j := 1) (x := (some a0)) dX12_shortRef_54 rfl rfl ?_
      obtain ⟨c_10, h⟩ := x_chk_e h
      rcases x_bind_e h with ⟨v_7, σ_8, h_9, h⟩ | ⟨E_79, σ_8, h_9, h⟩
      · have z9 := x_call (M := mX12_shortRef) (M' := mX12_takeNet) (pc := 55) (st := [va_rf (some a0)]) (rest := []) (av := [va_rf (some a0)]) (x_linkV (M := mX12_shortRef) (M' := mX12_takeNet) (As := []) (index := 212) (C := RX12) (T := TX12) (xE_12 c_10) rfl wd_709 wd_710 (wG_in (List.mem_append_left _ (List.mem_of_getElem? (i := 62) rfl)) rfl) xw_X12_takeNet rfl (by decide) rfl rfl dX12_shortRef_55) (ev_X12_takeNet hO hP h_9) xw_X12_takeNet rfl wd_198 dX12_shortRef_55 (by decide) (by decide) (by simp [x_cat, x_catI, x_catJ])
        refine x_callR z9 ?_
        refine ev_at (st' := [.int v_7]) rfl rfl ?_
        refine ev_istore_n (i := 2) (lv' := [(2, .int v_7), (1, .int v_2), (0, va_rf (some a0))]) dX12_shortRef_58 rfl (by decide) rfl ?_
        refine ev_aload_n (j := 2) (x := (some a0)) dX12_shortRef_59 rfl rfl ?_
        obtain ⟨c_14, h⟩ := x_chk_e h
        rcases x_bind_e h with ⟨v_11, σ_12, h_13, h⟩ | ⟨E_78, σ_12, h_13, h⟩
        · have z9 := x_call (M := mX12_shortRef) (M' := mX12_next) (pc := 60) (st := [va_rf (some a0)]) (rest := []) (av := [va_rf (some a0)]) (x_linkV (M := mX12_shortRef) (M' := mX12_next) (As := []) (index := 169) (C := RX12) (T := TX12) (xE_12 c_14) rfl wd_679 wd_680 (wG_in (List.mem_append_left _ (List.mem_of_getElem? (i := 36) rfl)) rfl) xw_X12_next rfl (by decide) rfl rfl dX12_shortRef_60) (ev_X12_next hO hP h_13) xw_X12_next rfl wd_198 dX12_shortRef_60 (by decide) (by decide) (by simp [x_cat, x_catI, x_catJ])
          refine x_callR z9 ?_
          refine ev_at (st' := []) rfl rfl ?_
          refine ev_aload_n (j := 2) (x := (some a0)) dX12_shortRef_63 rfl rfl ?_
          refine ev_bipush (v := 46) dX12_shortRef_64 (by decide) ?_
          obtain ⟨c_18, h⟩ := x_chk_e h
          rcases x_bind_e h with ⟨v_15, σ_16, h_17, h⟩ | ⟨E_77, σ_16, h_17, h⟩
          · have z9 := x_call (M := mX12_shortRef) (M' := mX12_isSign) (pc := 66) (st := [.int 46, va_rf (some a0)]) (rest := []) (av := [va_rf (some a0), .int 46]) (x_linkV (M := mX12_shortRef) (M' := mX12_isSign) (As := [.int 46]) (index := 166) (C := RX12) (T := TX12) (xE_12 c_18) rfl wd_682 wd_683 (wG_in (List.mem_append_left _ (List.mem_of_getElem? (i := 50) rfl)) rfl) xw_X12_isSign rfl (by decide) rfl rfl dX12_shortRef_66) (ev_X12_isSign hO hP h_17) xw_X12_isSign rfl wd_198 dX12_shortRef_66 (by decide) (by decide) (by simp [x_cat, x_catI, x_catJ])
            refine x_callR z9 ?_
            refine ev_at (st' := [.int v_15]) rfl rfl ?_
            by_cases c_19 : v_15 = 0
            · rw [if_pos c_19] at h
              refine ev_if_ne (x := v_15) (tgt := 93) dX12_shortRef_69 (by decide) (fun q9 => absurd c_19 q9) (fun _ => ?_)
              refine ev_aload_n (j := 2) (x := (some a0)) dX12_shortRef_72 rfl rfl ?_
              obtain ⟨c_69, h⟩ := x_chk_e h
              rcases x_bind_e h with ⟨v_66, σ_67, h_68, h⟩ | ⟨E_76, σ_67, h_68, h⟩
              · have z9 := x_call (M := mX12_shortRef) (M' := mX12_ok) (pc := 73) (st := [va_rf (some a0)]) (rest := []) (av := [va_rf (some a0)]) (x_linkV (M := mX12_shortRef) (M' := mX12_ok) (As := []) (index := 121) (C := RX12) (T := TX12) (xE_12 c_69) rfl wd_640 wd_641 (wG_in (List.mem_append_left _ (List.mem_of_getElem? (i := 37) rfl)) rfl) xw_X12_ok rfl (by decide) rfl rfl dX12_shortRef_73) (ev_X12_ok hO hP h_68) xw_X12_ok rfl wd_198 dX12_shortRef_73 (by decide) (by decide) (by simp [x_cat, x_catI, x_catJ])
                refine x_callR z9 ?_
                refine ev_at (st' := [.int v_66]) rfl rfl ?_
                by_cases c_70 : v_66 = 0
                · rw [if_pos c_70] at h
                  refine ev_if_eq (x := v_66) (tgt := 91) dX12_shortRef_76 (by decide) (fun _ => ?_) (fun q9 => absurd c_70 q9)
                  refine ev_iconst (v := -1) dX12_shortRef_91 (by decide) ?_
                  exact ev_sub [] rfl (ev_X12_shortRef_p92 hO hP h)
                · rw [if_neg c_70] at h
                  refine ev_if_eq (x := v_66) (tgt := 91) dX12_shortRef_76 (by decide) (fun q9 => absurd q9 c_70) (fun _ => ?_)
                  refine ev_aload_n (j := 2) (x := (some a0)) dX12_shortRef_79 rfl rfl ?_
                  refine ev_iconst (v := 0) dX12_shortRef_80 (by decide) ?_
                  refine ev_iload_n (j := 1) (x := v_2) dX12_shortRef_81 rfl rfl ?_
                  refine ev_iload_n (j := 0) (x := v_7) dX12_shortRef_82 rfl rfl ?_
                  refine ev_iconst (v := 0) dX12_shortRef_83 (by decide) ?_
                  refine ev_iconst (v := 0) dX12_shortRef_84 (by decide) ?_
                  obtain ⟨c_74, h⟩ := x_chk_e h
                  rcases x_bind_e h with ⟨v_71, σ_72, h_73, h⟩ | ⟨E_75, σ_72, h_73, h⟩
                  · have z9 := x_call (M := mX12_shortRef) (M' := mX12_addRef) (pc := 85) (st := [.int 0, .int 0, .int v_7, .int v_2, .int 0, va_rf (some a0)]) (rest := []) (av := [va_rf (some a0), .int 0, .int v_2, .int v_7, .int 0, .int 0]) (x_linkV (M := mX12_shortRef) (M' := mX12_addRef) (As := [.int 0, .int v_2, .int v_7, .int 0, .int 0]) (index := 208) (C := RX12) (T := TX12) (xE_12 c_74) rfl wd_706 wd_707 (wG_in (List.mem_append_left _ (List.mem_of_getElem? (i := 61) rfl)) rfl) xw_X12_addRef rfl (by decide) rfl rfl dX12_shortRef_85) (ev_X12_addRef hO hP h_73) xw_X12_addRef rfl wd_198 dX12_shortRef_85 (by decide) (by decide) (by simp [x_cat, x_catI, x_catJ])
                    refine x_callR z9 ?_
                    refine ev_at (st' := [.int v_71]) rfl rfl ?_
                    refine ev_goto (tgt := 92) dX12_shortRef_88 (by decide) ?_
                    exact ev_sub [] rfl (ev_X12_shortRef_p92 hO hP h)
                  · have z9 := x_call (M := mX12_shortRef) (M' := mX12_addRef) (pc := 85) (st := [.int 0, .int 0, .int v_7, .int v_2, .int 0, va_rf (some a0)]) (rest := []) (av := [va_rf (some a0), .int 0, .int v_2, .int v_7, .int 0, .int 0]) (x_linkV (M := mX12_shortRef) (M' := mX12_addRef) (As := [.int 0, .int v_2, .int v_7, .int 0, .int 0]) (index := 208) (C := RX12) (T := TX12) (xE_12 c_74) rfl wd_706 wd_707 (wG_in (List.mem_append_left _ (List.mem_of_getElem? (i := 61) rfl)) rfl) xw_X12_addRef rfl (by decide) rfl rfl dX12_shortRef_85) (ev_X12_addRef hO hP h_73) xw_X12_addRef rfl wd_198 dX12_shortRef_85 (by decide) (by decide) (by simp [x_cat, x_catI, x_catJ])
                    cases h
                    exact x_callX z9 (evX_out rfl)
              · have z9 := x_call (M := mX12_shortRef) (M' := mX12_ok) (pc := 73) (st := [va_rf (some a0)]) (rest := []) (av := [va_rf (some a0)]) (x_linkV (M := mX12_shortRef) (M' := mX12_ok) (As := []) (index := 121) (C := RX12) (T := TX12) (xE_12 c_69) rfl wd_640 wd_641 (wG_in (List.mem_append_left _ (List.mem_of_getElem? (i := 37) rfl)) rfl) xw_X12_ok rfl (by decide) rfl rfl dX12_shortRef_73) (ev_X12_ok hO hP h_68) xw_X12_ok rfl wd_198 dX12_shortRef_73 (by decide) (by decide) (by simp [x_cat, x_catI, x_catJ])
                cases h
                exact x_callX z9 (evX_out rfl)
            · rw [if_neg c_19] at h
              refine ev_if_ne (x := v_15) (tgt := 93) dX12_shortRef_69 (by decide) (fun _ => ?_) (fun q9 => absurd q9 c_19)
              refine ev_aload_n (j := 2) (x := (some a0)) dX12_shortRef_93 rfl rfl ?_
              obtain ⟨c_23, h⟩ := x_chk_e h
              rcases x_bind_e h with ⟨v_20, σ_21, h_22, h⟩ | ⟨E_65, σ_21, h_22, h⟩
              · have z9 := x_call (M := mX12_shortRef) (M' := mX12_next) (pc := 94) (st := [va_rf (some a0)]) (rest := []) (av := [va_rf (some a0)]) (x_linkV (M := mX12_shortRef) (M' := mX12_next) (As := []) (index := 169) (C := RX12) (T := TX12) (xE_12 c_23) rfl wd_679 wd_680 (wG_in (List.mem_append_left _ (List.mem_of_getElem? (i := 36) rfl)) rfl) xw_X12_next rfl (by decide) rfl rfl dX12_shortRef_94) (ev_X12_next hO hP h_22) xw_X12_next rfl wd_198 dX12_shortRef_94 (by decide) (by decide) (by simp [x_cat, x_catI, x_catJ])
                refine x_callR z9 ?_
                refine ev_at (st' := []) rfl rfl ?_
                refine ev_aload_n (j := 2) (x := (some a0)) dX12_shortRef_97 rfl rfl ?_
                refine ev_iconst (v := 0) dX12_shortRef_98 (by decide) ?_
                refine ev_aload_n (j := 2) (x := (some a0)) dX12_shortRef_99 rfl rfl ?_
                obtain ⟨c_24, h⟩ := x_chk_e h
                refine ev_get (C := RX12) (T := TX12) (k := 12) inX12 (xE_12 c_24) rfl (by decide) wd_159 (Or.inl rfl) rfl dX12_shortRef_100 ?_
                refine ev_aload_n (j := 2) (x := (some a0)) dX12_shortRef_103 rfl rfl ?_
                refine ev_iload_n (j := 0) (x := v_7) dX12_shortRef_104 rfl rfl ?_
                rcases x_bind_e h with ⟨v_25, σ_26, h_27, h⟩ | ⟨E_64, σ_26, h_27, h⟩
                · have z9 := x_call (M := mX12_shortRef) (M' := mX12_netCell) (pc := 105) (st := [.int v_7, va_rf (some a0), va_rf (σ_21.R 1112 a0), .int 0, va_rf (some a0)]) (rest := [va_rf (σ_21.R 1112 a0), .int 0, va_rf (some a0)]) (av := [va_rf (some a0), .int v_7]) (x_linkV (M := mX12_shortRef) (M' := mX12_netCell) (As := [.int v_7]) (index := 178) (C := RX12) (T := TX12) (xE_12 c_24) rfl wd_685 wd_686 (wG_in (List.mem_append_left _ (List.mem_of_getElem? (i := 53) rfl)) rfl) xw_X12_netCell rfl (by decide) rfl rfl dX12_shortRef_105) (ev_X12_netCell hO hP h_27) xw_X12_netCell rfl wd_198 dX12_shortRef_105 (by decide) (by decide) (by simp [x_cat, x_catI, x_catJ])
                  refine x_callR z9 ?_
                  refine ev_at (st' := [.int v_25, va_rf (σ_21.R 1112 a0), .int 0, va_rf (some a0)]) rfl rfl ?_
                  obtain ⟨a_28, ea_28, h⟩ := x_some_e h
                  refine ev_at (st' := [.int v_25, va_rf (some a_28), .int 0, va_rf (some a0)]) rfl (by rw [ea_28]) ?_
                  obtain ⟨c_29, h⟩ := x_chk_e h
                  refine ev_iald_31 c_29.1 c_29.2 dX12_shortRef_108 ?_
                  refine ev_iconst (v := 1) dX12_shortRef_109 (by decide) ?_
                  refine ev_isub (x := (σ_26.AI a_28 (Int32.toNatClampNeg v_25))) (y := 1) dX12_shortRef_110 ?_
                  obtain ⟨c_33, h⟩ := x_chk_e h
                  rcases x_bind_e h with ⟨v_30, σ_31, h_32, h⟩ | ⟨E_63, σ_31, h_32, h⟩
                  · have z9 := x_call (M := mX12_shortRef) (M' := mX12_needNumber) (pc := 111) (st := [.int ((σ_26.AI a_28 (Int32.toNatClampNeg v_25)) - 1), .int 0, va_rf (some a0)]) (rest := []) (av := [va_rf (some a0), .int 0, .int ((σ_26.AI a_28 (Int32.toNatClampNeg v_25)) - 1)]) (x_linkV (M := mX12_shortRef) (M' := mX12_needNumber) (As := [.int 0, .int ((σ_26.AI a_28 (Int32.toNatClampNeg v_25)) - 1)]) (index := 195) (C := RX12) (T := TX12) (xE_12 c_33) rfl wd_694 wd_695 (wG_in (List.mem_append_left _ (List.mem_of_getElem? (i := 56) rfl)) rfl) xw_X12_needNumber rfl (by decide) rfl rfl dX12_shortRef_111) (ev_X12_needNumber hO hP h_32) xw_X12_needNumber rfl wd_198 dX12_shortRef_111 (by decide) (by decide) (by simp [x_cat, x_catI, x_catJ])
                    refine x_callR z9 ?_
                    refine ev_at (st' := []) rfl rfl ?_
                    refine ev_aload_n (j := 2) (x := (some a0)) dX12_shortRef_114 rfl rfl ?_
                    obtain ⟨c_34, h⟩ := x_chk_e h
                    refine ev_get (C := RX12) (T := TX12) (k := 38) inX12 (xE_12 c_34) rfl (by decide) wd_654 (Or.inl rfl) rfl dX12_shortRef_115 ?_
                    obtain ⟨v_35, ev_35, h⟩ := x_let_e h
                    rw [← ev_35]
                    refine ev_istore_n (i := 3) (lv' := [(3, .int v_35), (2, .int v_7), (1, .int v_2), (0, va_rf (some a0))]) dX12_shortRef_118 rfl (by decide) rfl ?_
                    refine ev_aload_n (j := 3) (x := (some a0)) dX12_shortRef_119 rfl rfl ?_
                    refine ev_get (C := RX12) (T := TX12) (k := 38) inX12 (xE_12 c_34) rfl (by decide) wd_654 (Or.inl rfl) rfl dX12_shortRef_120 ?_
                    obtain ⟨v_36, ev_36, h⟩ := x_let_e h
                    rw [← ev_36]
                    refine ev_istore (i := 4) (lv' := [(4, .int v_36), (3, .int v_35), (2, .int v_7), (1, .int v_2), (0, va_rf (some a0))]) dX12_shortRef_123 (by decide) rfl ?_
                    refine ev_iconst (v := 1) dX12_shortRef_125 (by decide) ?_
                    refine ev_istore (i := 5) (lv' := [(5, .int 1), (4, .int v_36), (3, .int v_35), (2, .int v_7), (1, .int v_2), (0, va_rf (some a0))]) dX12_shortRef_126 (by decide) rfl ?_
                    refine ev_aload_n (j := 5) (x := (some a0)) dX12_shortRef_128 rfl rfl ?_
                    rcases x_bind_e h with ⟨v_37, σ_38, h_39, h⟩ | ⟨E_62, σ_38, h_39, h⟩
                    · have z9 := x_call (M := mX12_shortRef) (M' := mX12_next) (pc := 129) (st := [va_rf (some a0)]) (rest := []) (av := [va_rf (some a0)]) (x_linkV (M := mX12_shortRef) (M' := mX12_next) (As := []) (index := 169) (C := RX12) (T := TX12) (xE_12 c_34) rfl wd_679 wd_680 (wG_in (List.mem_append_left _ (List.mem_of_getElem? (i := 36) rfl)) rfl) xw_X12_next rfl (by decide) rfl rfl dX12_shortRef_129) (ev_X12_next hO hP h_39) xw_X12_next rfl wd_198 dX12_shortRef_129 (by decide) (by decide) (by simp [x_cat, x_catI, x_catJ])
                      refine x_callR z9 ?_
                      refine ev_at (st' := []) rfl rfl ?_
                      refine ev_aload_n (j := 5) (x := (some a0)) dX12_shortRef_132 rfl rfl ?_
                      refine ev_bipush (v := 46) dX12_shortRef_133 (by decide) ?_
                      obtain ⟨c_43, h⟩ := x_chk_e h
                      rcases x_bind_e h with ⟨v_40, σ_41, h_42, h⟩ | ⟨E_61, σ_41, h_42, h⟩
                      · have z9 := x_call (M := mX12_shortRef) (M' := mX12_isSign) (pc := 135) (st := [.int 46, va_rf (some a0)]) (rest := []) (av := [va_rf (some a0), .int 46]) (x_linkV (M := mX12_shortRef) (M' := mX12_isSign) (As := [.int 46]) (index := 166) (C := RX12) (T := TX12) (xE_12 c_43) rfl wd_682 wd_683 (wG_in (List.mem_append_left _ (List.mem_of_getElem? (i := 50) rfl)) rfl) xw_X12_isSign rfl (by decide) rfl rfl dX12_shortRef_135) (ev_X12_isSign hO hP h_42) xw_X12_isSign rfl wd_198 dX12_shortRef_135 (by decide) (by decide) (by simp [x_cat, x_catI, x_catJ])
                        refine x_callR z9 ?_
                        refine ev_at (st' := [.int v_40]) rfl rfl ?_
                        by_cases c_44 : v_40 = 0
                        · rw [if_pos c_44] at h
                          refine ev_if_eq (x := v_40) (tgt := 164) dX12_shortRef_138 (by decide) (fun _ => ?_) (fun q9 => absurd c_44 q9)
                          exact ev_sub [5, 4, 3, 2, 1, 0] rfl (ev_X12_shortRef_p164 hO hP h)
                        · rw [if_neg c_44] at h
                          refine ev_if_eq (x := v_40) (tgt := 164) dX12_shortRef_138 (by decide) (fun q9 => absurd q9 c_44) (fun _ => ?_)
                          refine ev_aload_n (j := 5) (x := (some a0)) dX12_shortRef_141 rfl rfl ?_
                          obtain ⟨c_48, h⟩ := x_chk_e h
                          rcases x_bind_e h with ⟨v_45, σ_46, h_47, h⟩ | ⟨E_60, σ_46, h_47, h⟩
                          · have z9 := x_call (M := mX12_shortRef) (M' := mX12_next) (pc := 142) (st := [va_rf (some a0)]) (rest := []) (av := [va_rf (some a0)]) (x_linkV (M := mX12_shortRef) (M' := mX12_next) (As := []) (index := 169) (C := RX12) (T := TX12) (xE_12 c_48) rfl wd_679 wd_680 (wG_in (List.mem_append_left _ (List.mem_of_getElem? (i := 36) rfl)) rfl) xw_X12_next rfl (by decide) rfl rfl dX12_shortRef_142) (ev_X12_next hO hP h_47) xw_X12_next rfl wd_198 dX12_shortRef_142 (by decide) (by decide) (by simp [x_cat, x_catI, x_catJ])
                            refine x_callR z9 ?_
                            refine ev_at (st' := []) rfl rfl ?_
                            refine ev_aload_n (j := 5) (x := (some a0)) dX12_shortRef_145 rfl rfl ?_
                            refine ev_iconst (v := 0) dX12_shortRef_146 (by decide) ?_
                            refine ev_iload_n (j := 2) (x := v_35) dX12_shortRef_147 rfl rfl ?_
                            obtain ⟨c_52, h⟩ := x_chk_e h
                            rcases x_bind_e h with ⟨v_49, σ_50, h_51, h⟩ | ⟨E_59, σ_50, h_51, h⟩
                            · have z9 := x_call (M := mX12_shortRef) (M' := mX12_needNumber) (pc := 148) (st := [.int v_35, .int 0, va_rf (some a0)]) (rest := []) (av := [va_rf (some a0), .int 0, .int v_35]) (x_linkV (M := mX12_shortRef) (M' := mX12_needNumber) (As := [.int 0, .int v_35]) (index := 195) (C := RX12) (T := TX12) (xE_12 c_52) rfl wd_694 wd_695 (wG_in (List.mem_append_left _ (List.mem_of_getElem? (i := 56) rfl)) rfl) xw_X12_needNumber rfl (by decide) rfl rfl dX12_shortRef_148) (ev_X12_needNumber hO hP h_51) xw_X12_needNumber rfl wd_198 dX12_shortRef_148 (by decide) (by decide) (by simp [x_cat, x_catI, x_catJ])
                              refine x_callR z9 ?_
                              refine ev_at (st' := []) rfl rfl ?_
                              refine ev_aload_n (j := 5) (x := (some a0)) dX12_shortRef_151 rfl rfl ?_
                              obtain ⟨c_53, h⟩ := x_chk_e h
                              refine ev_get (C := RX12) (T := TX12) (k := 38) inX12 (xE_12 c_53) rfl (by decide) wd_654 (Or.inl rfl) rfl dX12_shortRef_152 ?_
                              obtain ⟨v_54, ev_54, h⟩ := x_let_e h
                              rw [← ev_54]
                              refine ev_istore (i := 4) (lv' := [(4, .int v_54), (5, .int 1), (3, .int v_35), (2, .int v_7), (1, .int v_2), (0, va_rf (some a0))]) dX12_shortRef_155 (by decide) rfl ?_
                              refine ev_iconst (v := 2) dX12_shortRef_157 (by decide) ?_
                              refine ev_istore (i := 5) (lv' := [(5, .int 2), (4, .int v_54), (3, .int v_35), (2, .int v_7), (1, .int v_2), (0, va_rf (some a0))]) dX12_shortRef_158 (by decide) rfl ?_
                              refine ev_aload_n (j := 5) (x := (some a0)) dX12_shortRef_160 rfl rfl ?_
                              rcases x_bind_e h with ⟨v_55, σ_56, h_57, h⟩ | ⟨E_58, σ_56, h_57, h⟩
                              · have z9 := x_call (M := mX12_shortRef) (M' := mX12_next) (pc := 161) (st := [va_rf (some a0)]) (rest := []) (av := [va_rf (some a0)]) (x_linkV (M := mX12_shortRef) (M' := mX12_next) (As := []) (index := 169) (C := RX12) (T := TX12) (xE_12 c_53) rfl wd_679 wd_680 (wG_in (List.mem_append_left _ (List.mem_of_getElem? (i := 36) rfl)) rfl) xw_X12_next rfl (by decide) rfl rfl dX12_shortRef_161) (ev_X12_next hO hP h_57) xw_X12_next rfl wd_198 dX12_shortRef_161 (by decide) (by decide) (by simp [x_cat, x_catI, x_catJ])
                                refine x_callR z9 ?_
                                refine ev_at (st' := []) rfl rfl ?_
                                exact ev_sub [5, 4, 3, 2, 1, 0] rfl (ev_X12_shortRef_p164 hO hP h)
                              · have z9 := x_call (M := mX12_shortRef) (M' := mX12_next) (pc := 161) (st := [va_rf (some a0)]) (rest := []) (av := [va_rf (some a0)]) (x_linkV (M := mX12_shortRef) (M' := mX12_next) (As := []) (index := 169) (C := RX12) (T := TX12) (xE_12 c_53) rfl wd_679 wd_680 (wG_in (List.mem_append_left _ (List.mem_of_getElem? (i := 36) rfl)) rfl) xw_X12_next rfl (by decide) rfl rfl dX12_shortRef_161) (ev_X12_next hO hP h_57) xw_X12_next rfl wd_198 dX12_shortRef_161 (by decide) (by decide) (by simp [x_cat, x_catI, x_catJ])
                                cases h
                                exact x_callX z9 (evX_out rfl)
                            · have z9 := x_call (M := mX12_shortRef) (M' := mX12_needNumber) (pc := 148) (st := [.int v_35, .int 0, va_rf (some a0)]) (rest := []) (av := [va_rf (some a0), .int 0, .int v_35]) (x_linkV (M := mX12_shortRef) (M' := mX12_needNumber) (As := [.int 0, .int v_35]) (index := 195) (C := RX12) (T := TX12) (xE_12 c_52) rfl wd_694 wd_695 (wG_in (List.mem_append_left _ (List.mem_of_getElem? (i := 56) rfl)) rfl) xw_X12_needNumber rfl (by decide) rfl rfl dX12_shortRef_148) (ev_X12_needNumber hO hP h_51) xw_X12_needNumber rfl wd_198 dX12_shortRef_148 (by decide) (by decide) (by simp [x_cat, x_catI, x_catJ])
                              cases h
                              exact x_callX z9 (evX_out rfl)
                          · have z9 := x_call (M := mX12_shortRef) (M' := mX12_next) (pc := 142) (st := [va_rf (some a0)]) (rest := []) (av := [va_rf (some a0)]) (x_linkV (M := mX12_shortRef) (M' := mX12_next) (As := []) (index := 169) (C := RX12) (T := TX12) (xE_12 c_48) rfl wd_679 wd_680 (wG_in (List.mem_append_left _ (List.mem_of_getElem? (i := 36) rfl)) rfl) xw_X12_next rfl (by decide) rfl rfl dX12_shortRef_142) (ev_X12_next hO hP h_47) xw_X12_next rfl wd_198 dX12_shortRef_142 (by decide) (by decide) (by simp [x_cat, x_catI, x_catJ])
                            cases h
                            exact x_callX z9 (evX_out rfl)
                      · have z9 := x_call (M := mX12_shortRef) (M' := mX12_isSign) (pc := 135) (st := [.int 46, va_rf (some a0)]) (rest := []) (av := [va_rf (some a0), .int 46]) (x_linkV (M := mX12_shortRef) (M' := mX12_isSign) (As := [.int 46]) (index := 166) (C := RX12) (T := TX12) (xE_12 c_43) rfl wd_682 wd_683 (wG_in (List.mem_append_left _ (List.mem_of_getElem? (i := 50) rfl)) rfl) xw_X12_isSign rfl (by decide) rfl rfl dX12_shortRef_135) (ev_X12_isSign hO hP h_42) xw_X12_isSign rfl wd_198 dX12_shortRef_135 (by decide) (by decide) (by simp [x_cat, x_catI, x_catJ])
                        cases h
                        exact x_callX z9 (evX_out rfl)
                    · have z9 := x_call (M := mX12_shortRef) (M' := mX12_next) (pc := 129) (st := [va_rf (some a0)]) (rest := []) (av := [va_rf (some a0)]) (x_linkV (M := mX12_shortRef) (M' := mX12_next) (As := []) (index := 169) (C := RX12) (T := TX12) (xE_12 c_34) rfl wd_679 wd_680 (wG_in (List.mem_append_left _ (List.mem_of_getElem? (i := 36) rfl)) rfl) xw_X12_next rfl (by decide) rfl rfl dX12_shortRef_129) (ev_X12_next hO hP h_39) xw_X12_next rfl wd_198 dX12_shortRef_129 (by decide) (by decide) (by simp [x_cat, x_catI, x_catJ])
                      cases h
                      exact x_callX z9 (evX_out rfl)
                  · have z9 := x_call (M := mX12_shortRef) (M' := mX12_needNumber) (pc := 111) (st := [.int ((σ_26.AI a_28 (Int32.toNatClampNeg v_25)) - 1), .int 0, va_rf (some a0)]) (rest := []) (av := [va_rf (some a0), .int 0, .int ((σ_26.AI a_28 (Int32.toNatClampNeg v_25)) - 1)]) (x_linkV (M := mX12_shortRef) (M' := mX12_needNumber) (As := [.int 0, .int ((σ_26.AI a_28 (Int32.toNatClampNeg v_25)) - 1)]) (index := 195) (C := RX12) (T := TX12) (xE_12 c_33) rfl wd_694 wd_695 (wG_in (List.mem_append_left _ (List.mem_of_getElem? (i := 56) rfl)) rfl) xw_X12_needNumber rfl (by decide) rfl rfl dX12_shortRef_111) (ev_X12_needNumber hO hP h_32) xw_X12_needNumber rfl wd_198 dX12_shortRef_111 (by decide) (by decide) (by simp [x_cat, x_catI, x_catJ])
                    cases h
                    exact x_callX z9 (evX_out rfl)
                · have z9 := x_call (M := mX12_shortRef) (M' := mX12_netCell) (pc := 105) (st := [.int v_7, va_rf (some a0), va_rf (σ_21.R 1112 a0), .int 0, va_rf (some a0)]) (rest := [va_rf (σ_21.R 1112 a0), .int 0, va_rf (some a0)]) (av := [va_rf (some a0), .int v_7]) (x_linkV (M := mX12_shortRef) (M' := mX12_netCell) (As := [.int v_7]) (index := 178) (C := RX12) (T := TX12) (xE_12 c_24) rfl wd_685 wd_686 (wG_in (List.mem_append_left _ (List.mem_of_getElem? (i := 53) rfl)) rfl) xw_X12_netCell rfl (by decide) rfl rfl dX12_shortRef_105) (ev_X12_netCell hO hP h_27) xw_X12_netCell rfl wd_198 dX12_shortRef_105 (by decide) (by decide) (by simp [x_cat, x_catI, x_catJ])
                  cases h
                  exact x_callX z9 (evX_out rfl)
              · have z9 := x_call (M := mX12_shortRef) (M' := mX12_next) (pc := 94) (st := [va_rf (some a0)]) (rest := []) (av := [va_rf (some a0)]) (x_linkV (M := mX12_shortRef) (M' := mX12_next) (As := []) (index := 169) (C := RX12) (T := TX12) (xE_12 c_23) rfl wd_679 wd_680 (wG_in (List.mem_append_left _ (List.mem_of_getElem? (i := 36) rfl)) rfl) xw_X12_next rfl (by decide) rfl rfl dX12_shortRef_94) (ev_X12_next hO hP h_22) xw_X12_next rfl wd_198 dX12_shortRef_94 (by decide) (by decide) (by simp [x_cat, x_catI, x_catJ])
                cases h
                exact x_callX z9 (evX_out rfl)
          · have z9 := x_call (M := mX12_shortRef) (M' := mX12_isSign) (pc := 66) (st := [.int 46, va_rf (some a0)]) (rest := []) (av := [va_rf (some a0), .int 46]) (x_linkV (M := mX12_shortRef) (M' := mX12_isSign) (As := [.int 46]) (index := 166) (C := RX12) (T := TX12) (xE_12 c_18) rfl wd_682 wd_683 (wG_in (List.mem_append_left _ (List.mem_of_getElem? (i := 50) rfl)) rfl) xw_X12_isSign rfl (by decide) rfl rfl dX12_shortRef_66) (ev_X12_isSign hO hP h_17) xw_X12_isSign rfl wd_198 dX12_shortRef_66 (by decide) (by decide) (by simp [x_cat, x_catI, x_catJ])
            cases h
            exact x_callX z9 (evX_out rfl)
        · have z9 := x_call (M := mX12_shortRef) (M' := mX12_next) (pc := 60) (st := [va_rf (some a0)]) (rest := []) (av := [va_rf (some a0)]) (x_linkV (M := mX12_shortRef) (M' := mX12_next) (As := []) (index := 169) (C := RX12) (T := TX12) (xE_12 c_14) rfl wd_679 wd_680 (wG_in (List.mem_append_left _ (List.mem_of_getElem? (i := 36) rfl)) rfl) xw_X12_next rfl (by decide) rfl rfl dX12_shortRef_60) (ev_X12_next hO hP h_13) xw_X12_next rfl wd_198 dX12_shortRef_60 (by decide) (by decide) (by simp [x_cat, x_catI, x_catJ])
          cases h
          exact x_callX z9 (evX_out rfl)
      · have z9 := x_call (M := mX12_shortRef) (M' := mX12_takeNet) (pc := 55) (st := [va_rf (some a0)]) (rest := []) (av := [va_rf (some a0)]) (x_linkV (M := mX12_shortRef) (M' := mX12_takeNet) (As := []) (index := 212) (C := RX12) (T := TX12) (xE_12 c_10) rfl wd_709 wd_710 (wG_in (List.mem_append_left _ (List.mem_of_getElem? (i := 62) rfl)) rfl) xw_X12_takeNet rfl (by decide) rfl rfl dX12_shortRef_55) (ev_X12_takeNet hO hP h_9) xw_X12_takeNet rfl wd_198 dX12_shortRef_55 (by decide) (by decide) (by simp [x_cat, x_catI, x_catJ])
        cases h
        exact x_callX z9 (evX_out rfl)
    · rw [if_neg c_6] at h
      refine ev_if_eq (x := v_3) (tgt := 54) dX12_shortRef_11 (by decide) (fun q9 => absurd q9 c_6) (fun _ => ?_)
      refine ev_aload_n (j := 1) (x := (some a0)) dX12_shortRef_14 rfl rfl ?_
      obtain ⟨c_83, h⟩ := x_chk_e h
      rcases x_bind_e h with ⟨v_80, σ_81, h_82, h⟩ | ⟨E_106, σ_81, h_82, h⟩
      · have z9 := x_call (M := mX12_shortRef) (M' := mX12_next) (pc := 15) (st := [va_rf (some a0)]) (rest := []) (av := [va_rf (some a0)]) (x_linkV (M := mX12_shortRef) (M' := mX12_next) (As := []) (index := 169) (C := RX12) (T := TX12) (xE_12 c_83) rfl wd_679 wd_680 (wG_in (List.mem_append_left _ (List.mem_of_getElem? (i := 36) rfl)) rfl) xw_X12_next rfl (by decide) rfl rfl dX12_shortRef_15) (ev_X12_next hO hP h_82) xw_X12_next rfl wd_198 dX12_shortRef_15 (by decide) (by decide) (by simp [x_cat, x_catI, x_catJ])
        refine x_callR z9 ?_
        refine ev_at (st' := []) rfl rfl ?_
        refine ev_aload_n (j := 1) (x := (some a0)) dX12_shortRef_18 rfl rfl ?_
        obtain ⟨c_84, h⟩ := x_chk_e h
        refine ev_get (C := RX12) (T := TX12) (k := 36) inX12 (xE_12 c_84) rfl (by decide) wd_646 (Or.inl rfl) rfl dX12_shortRef_19 ?_
        obtain ⟨v_85, ev_85, h⟩ := x_let_e h
        rw [← ev_85]
        refine ev_istore_n (i := 2) (lv' := [(2, .int v_85), (1, .int v_2), (0, va_rf (some a0))]) dX12_shortRef_22 rfl (by decide) rfl ?_
        refine ev_aload_n (j := 2) (x := (some a0)) dX12_shortRef_23 rfl rfl ?_
        refine ev_iconst (v := 0) dX12_shortRef_24 (by decide) ?_
        rcases x_bind_e h with ⟨v_86, σ_87, h_88, h⟩ | ⟨E_105, σ_87, h_88, h⟩
        · have z9 := x_call (M := mX12_shortRef) (M' := mX12_takeDigits) (pc := 25) (st := [.int 0, va_rf (some a0)]) (rest := []) (av := [va_rf (some a0), .int 0]) (x_linkV (M := mX12_shortRef) (M' := mX12_takeDigits) (As := [.int 0]) (index := 205) (C := RX12) (T := TX12) (xE_12 c_84) rfl wd_703 wd_704 (wG_in (List.mem_append_left _ (List.mem_of_getElem? (i := 60) rfl)) rfl) xw_X12_takeDigits rfl (by decide) rfl rfl dX12_shortRef_25) (ev_X12_takeDigits hO hP h_88) xw_X12_takeDigits rfl wd_198 dX12_shortRef_25 (by decide) (by decide) (by simp [x_cat, x_catI, x_catJ])
          refine x_callR z9 ?_
          refine ev_at (st' := [.int v_86]) rfl rfl ?_
          refine ev_istore_n (i := 3) (lv' := [(3, .int v_86), (2, .int v_85), (1, .int v_2), (0, va_rf (some a0))]) dX12_shortRef_28 rfl (by decide) rfl ?_
          refine ev_aload_n (j := 3) (x := (some a0)) dX12_shortRef_29 rfl rfl ?_
          obtain ⟨c_92, h⟩ := x_chk_e h
          rcases x_bind_e h with ⟨v_89, σ_90, h_91, h⟩ | ⟨E_104, σ_90, h_91, h⟩
          · have z9 := x_call (M := mX12_shortRef) (M' := mX12_next) (pc := 30) (st := [va_rf (some a0)]) (rest := []) (av := [va_rf (some a0)]) (x_linkV (M := mX12_shortRef) (M' := mX12_next) (As := []) (index := 169) (C := RX12) (T := TX12) (xE_12 c_92) rfl wd_679 wd_680 (wG_in (List.mem_append_left _ (List.mem_of_getElem? (i := 36) rfl)) rfl) xw_X12_next rfl (by decide) rfl rfl dX12_shortRef_30) (ev_X12_next hO hP h_91) xw_X12_next rfl wd_198 dX12_shortRef_30 (by decide) (by decide) (by simp [x_cat, x_catI, x_catJ])
            refine x_callR z9 ?_
            refine ev_at (st' := []) rfl rfl ?_
            refine ev_aload_n (j := 3) (x := (some a0)) dX12_shortRef_33 rfl rfl ?_
            obtain ⟨c_96, h⟩ := x_chk_e h
            rcases x_bind_e h with ⟨v_93, σ_94, h_95, h⟩ | ⟨E_103, σ_94, h_95, h⟩
            · have z9 := x_call (M := mX12_shortRef) (M' := mX12_ok) (pc := 34) (st := [va_rf (some a0)]) (rest := []) (av := [va_rf (some a0)]) (x_linkV (M := mX12_shortRef) (M' := mX12_ok) (As := []) (index := 121) (C := RX12) (T := TX12) (xE_12 c_96) rfl wd_640 wd_641 (wG_in (List.mem_append_left _ (List.mem_of_getElem? (i := 37) rfl)) rfl) xw_X12_ok rfl (by decide) rfl rfl dX12_shortRef_34) (ev_X12_ok hO hP h_95) xw_X12_ok rfl wd_198 dX12_shortRef_34 (by decide) (by decide) (by simp [x_cat, x_catI, x_catJ])
              refine x_callR z9 ?_
              refine ev_at (st' := [.int v_93]) rfl rfl ?_
              by_cases c_97 : v_93 = 0
              · rw [if_pos c_97] at h
                refine ev_if_eq (x := v_93) (tgt := 52) dX12_shortRef_37 (by decide) (fun _ => ?_) (fun q9 => absurd c_97 q9)
                refine ev_iconst (v := -1) dX12_shortRef_52 (by decide) ?_
                exact ev_sub [] rfl (ev_X12_shortRef_p53 hO hP h)
              · rw [if_neg c_97] at h
                refine ev_if_eq (x := v_93) (tgt := 52) dX12_shortRef_37 (by decide) (fun q9 => absurd q9 c_97) (fun _ => ?_)
                refine ev_aload_n (j := 3) (x := (some a0)) dX12_shortRef_40 rfl rfl ?_
                refine ev_iconst (v := 3) dX12_shortRef_41 (by decide) ?_
                refine ev_iload_n (j := 2) (x := v_2) dX12_shortRef_42 rfl rfl ?_
                refine ev_iconst (v := -1) dX12_shortRef_43 (by decide) ?_
                refine ev_iload_n (j := 1) (x := v_85) dX12_shortRef_44 rfl rfl ?_
                refine ev_iload_n (j := 0) (x := v_86) dX12_shortRef_45 rfl rfl ?_
                obtain ⟨c_101, h⟩ := x_chk_e h
                rcases x_bind_e h with ⟨v_98, σ_99, h_100, h⟩ | ⟨E_102, σ_99, h_100, h⟩
                · have z9 := x_call (M := mX12_shortRef) (M' := mX12_addRef) (pc := 46) (st := [.int v_86, .int v_85, .int (-1), .int v_2, .int 3, va_rf (some a0)]) (rest := []) (av := [va_rf (some a0), .int 3, .int v_2, .int (-1), .int v_85, .int v_86]) (x_linkV (M := mX12_shortRef) (M' := mX12_addRef) (As := [.int 3, .int v_2, .int (-1), .int v_85, .int v_86]) (index := 208) (C := RX12) (T := TX12) (xE_12 c_101) rfl wd_706 wd_707 (wG_in (List.mem_append_left _ (List.mem_of_getElem? (i := 61) rfl)) rfl) xw_X12_addRef rfl (by decide) rfl rfl dX12_shortRef_46) (ev_X12_addRef hO hP h_100) xw_X12_addRef rfl wd_198 dX12_shortRef_46 (by decide) (by decide) (by simp [x_cat, x_catI, x_catJ])
                  refine x_callR z9 ?_
                  refine ev_at (st' := [.int v_98]) rfl rfl ?_
                  refine ev_goto (tgt := 53) dX12_shortRef_49 (by decide) ?_
                  exact ev_sub [] rfl (ev_X12_shortRef_p53 hO hP h)
                · have z9 := x_call (M := mX12_shortRef) (M' := mX12_addRef) (pc := 46) (st := [.int v_86, .int v_85, .int (-1), .int v_2, .int 3, va_rf (some a0)]) (rest := []) (av := [va_rf (some a0), .int 3, .int v_2, .int (-1), .int v_85, .int v_86]) (x_linkV (M := mX12_shortRef) (M' := mX12_addRef) (As := [.int 3, .int v_2, .int (-1), .int v_85, .int v_86]) (index := 208) (C := RX12) (T := TX12) (xE_12 c_101) rfl wd_706 wd_707 (wG_in (List.mem_append_left _ (List.mem_of_getElem? (i := 61) rfl)) rfl) xw_X12_addRef rfl (by decide) rfl rfl dX12_shortRef_46) (ev_X12_addRef hO hP h_100) xw_X12_addRef rfl wd_198 dX12_shortRef_46 (by decide) (by decide) (by simp [x_cat, x_catI, x_catJ])
                  cases h
                  exact x_callX z9 (evX_out rfl)
            · have z9 := x_call (M := mX12_shortRef) (M' := mX12_ok) (pc := 34) (st := [va_rf (some a0)]) (rest := []) (av := [va_rf (some a0)]) (x_linkV (M := mX12_shortRef) (M' := mX12_ok) (As := []) (index := 121) (C := RX12) (T := TX12) (xE_12 c_96) rfl wd_640 wd_641 (wG_in (List.mem_append_left _ (List.mem_of_getElem? (i := 37) rfl)) rfl) xw_X12_ok rfl (by decide) rfl rfl dX12_shortRef_34) (ev_X12_ok hO hP h_95) xw_X12_ok rfl wd_198 dX12_shortRef_34 (by decide) (by decide) (by simp [x_cat, x_catI, x_catJ])
              cases h
              exact x_callX z9 (evX_out rfl)
          · have z9 := x_call (M := mX12_shortRef) (M' := mX12_next) (pc := 30) (st := [va_rf (some a0)]) (rest := []) (av := [va_rf (some a0)]) (x_linkV (M := mX12_shortRef) (M' := mX12_next) (As := []) (index := 169) (C := RX12) (T := TX12) (xE_12 c_92) rfl wd_679 wd_680 (wG_in (List.mem_append_left _ (List.mem_of_getElem? (i := 36) rfl)) rfl) xw_X12_next rfl (by decide) rfl rfl dX12_shortRef_30) (ev_X12_next hO hP h_91) xw_X12_next rfl wd_198 dX12_shortRef_30 (by decide) (by decide) (by simp [x_cat, x_catI, x_catJ])
            cases h
            exact x_callX z9 (evX_out rfl)
        · have z9 := x_call (M := mX12_shortRef) (M' := mX12_takeDigits) (pc := 25) (st := [.int 0, va_rf (some a0)]) (rest := []) (av := [va_rf (some a0), .int 0]) (x_linkV (M := mX12_shortRef) (M' := mX12_takeDigits) (As := [.int 0]) (index := 205) (C := RX12) (T := TX12) (xE_12 c_84) rfl wd_703 wd_704 (wG_in (List.mem_append_left _ (List.mem_of_getElem? (i := 60) rfl)) rfl) xw_X12_takeDigits rfl (by decide) rfl rfl dX12_shortRef_25) (ev_X12_takeDigits hO hP h_88) xw_X12_takeDigits rfl wd_198 dX12_shortRef_25 (by decide) (by decide) (by simp [x_cat, x_catI, x_catJ])
          cases h
          exact x_callX z9 (evX_out rfl)
      · have z9 := x_call (M := mX12_shortRef) (M' := mX12_next) (pc := 15) (st := [va_rf (some a0)]) (rest := []) (av := [va_rf (some a0)]) (x_linkV (M := mX12_shortRef) (M' := mX12_next) (As := []) (index := 169) (C := RX12) (T := TX12) (xE_12 c_83) rfl wd_679 wd_680 (wG_in (List.mem_append_left _ (List.mem_of_getElem? (i := 36) rfl)) rfl) xw_X12_next rfl (by decide) rfl rfl dX12_shortRef_15) (ev_X12_next hO hP h_82) xw_X12_next rfl wd_198 dX12_shortRef_15 (by decide) (by decide) (by simp [x_cat, x_catI, x_catJ])
        cases h
        exact x_callX z9 (evX_out rfl)
  · have z9 := x_call (M := mX12_shortRef) (M' := mX12_isSign) (pc := 8) (st := [.int 39, va_rf (some a0)]) (rest := []) (av := [va_rf (some a0), .int 39]) (x_linkV (M := mX12_shortRef) (M' := mX12_isSign) (As := [.int 39]) (index := 166) (C := RX12) (T := TX12) (xE_12 c_1) rfl wd_682 wd_683 (wG_in (List.mem_append_left _ (List.mem_of_getElem? (i := 50) rfl)) rfl) xw_X12_isSign rfl (by decide) rfl rfl dX12_shortRef_8) (ev_X12_isSign hO hP h_5) xw_X12_isSign rfl wd_198 dX12_shortRef_8 (by decide) (by decide) (by simp [x_cat, x_catI, x_catJ])
    cases h
    exact x_callX z9 (evX_out rfl)
set_option maxHeartbeats 4000000 in
set_option maxRecDepth 100000 in
theorem ev_X12_readAssign_p140 {l : Launch} {G : xG} (hO : x_OK l G) {P : xP} (hP : x_PG P G) {a0 : Nat} {σ σ' : xS} {rr : Unit ⊕ String} (h : dm_X12_readAssign_p140 P a0 σ = some (rr, σ')) : Ev l G mX12_readAssign 140 [] [] σ (xrV rr) σ' := by
  unfold dm_X12_readAssign_p140 at h
  cases h
  exact ev_vret rfl dX12_readAssign_140
set_option maxHeartbeats 4000000 in
set_option maxRecDepth 100000 in
theorem ev_X12_readAssign_p67 {l : Launch} {G : xG} (hO : x_OK l G) {P : xP} (hP : x_PG P G) {a0 : Nat} {v2 : Int32} {s0 : Int32} {σ σ' : xS} {rr : Unit ⊕ String} (h : dm_X12_readAssign_p67 P a0 v2 s0 σ = some (rr, σ')) : Ev l G mX12_readAssign 67 [(0, va_rf (some a0)), (2, .int v2)] [.int s0] σ (xrV rr) σ' := by
  unfold dm_X12_readAssign_p67 at h
  refine ev_istore_n (i := 3) (lv' := [(3, .int s0), (0, va_rf (some a0)), (2, .int v2)]) dX12_readAssign_67 rfl (by decide) rfl ?_
  refine ev_aload_n (j := 1) (x := (some a0)) dX12_readAssign_68 rfl rfl ?_
  refine ev_bipush (v := 59) dX12_readAssign_69 (by decide) ?_
  obtain ⟨c_4, h⟩ := x_chk_e h
  rcases x_bind_e h with ⟨v_1, σ_2, h_3, h⟩ | ⟨E_50, σ_2, h_3, h⟩
  · have z9 := x_call (M := mX12_readAssign) (M' := mX12_needSign) (pc := 71) (st := [.int 59, va_rf (some a0)]) (rest := []) (av := [va_rf (some a0), .int 59]) (x_linkV (M := mX12_readAssign) (M' := mX12_needSign) (As := [.int 59]) (index := 199) (C := RX12) (T := TX12) (xE_12 c_4) rfl wd_697 wd_698 (wG_in (List.mem_append_left _ (List.mem_of_getElem? (i := 49) rfl)) rfl) xw_X12_needSign rfl (by decide) rfl rfl dX12_readAssign_71) (ev_X12_needSign hO hP h_3) xw_X12_needSign rfl wd_198 dX12_readAssign_71 (by decide) (by decide) (by simp [x_cat, x_catI, x_catJ])
    refine x_callR z9 ?_
    refine ev_at (st' := []) rfl rfl ?_
    refine ev_aload_n (j := 1) (x := (some a0)) dX12_readAssign_74 rfl rfl ?_
    obtain ⟨c_8, h⟩ := x_chk_e h
    rcases x_bind_e h with ⟨v_5, σ_6, h_7, h⟩ | ⟨E_49, σ_6, h_7, h⟩
    · have z9 := x_call (M := mX12_readAssign) (M' := mX12_ok) (pc := 75) (st := [va_rf (some a0)]) (rest := []) (av := [va_rf (some a0)]) (x_linkV (M := mX12_readAssign) (M' := mX12_ok) (As := []) (index := 121) (C := RX12) (T := TX12) (xE_12 c_8) rfl wd_640 wd_641 (wG_in (List.mem_append_left _ (List.mem_of_getElem? (i := 37) rfl)) rfl) xw_X12_ok rfl (by decide) rfl rfl dX12_readAssign_75) (ev_X12_ok hO hP h_7) xw_X12_ok rfl wd_198 dX12_readAssign_75 (by decide) (by decide) (by simp [x_cat, x_catI, x_catJ])
      refine x_callR z9 ?_
      refine ev_at (st' := [.int v_5]) rfl rfl ?_
      by_cases c_9 : v_5 = 0
      · rw [if_pos c_9] at h
        refine ev_if_eq (x := v_5) (tgt := 140) dX12_readAssign_78 (by decide) (fun _ => ?_) (fun q9 => absurd c_9 q9)
        exact ev_sub [] rfl (ev_X12_readAssign_p140 hO hP h)
      · rw [if_neg c_9] at h
        refine ev_if_eq (x := v_5) (tgt := 140) dX12_readAssign_78 (by decide) (fun q9 => absurd q9 c_9) (fun _ => ?_)
        refine ev_aload_n (j := 1) (x := (some a0)) dX12_readAssign_81 rfl rfl ?_
        obtain ⟨c_10, h⟩ := x_chk_e h
        refine ev_get (C := RX12) (T := TX12) (k := 22) inX12 (xE_12 c_10) rfl (by decide) wd_170 (Or.inl rfl) rfl dX12_readAssign_82 ?_
        refine ev_bipush (v := 8) dX12_readAssign_85 (by decide) ?_
        refine ev_aload_n (j := 1) (x := (some a0)) dX12_readAssign_87 rfl rfl ?_
        rcases x_bind_e h with ⟨v_11, σ_12, h_13, h⟩ | ⟨E_48, σ_12, h_13, h⟩
        · have z9 := x_call (M := mX12_readAssign) (M' := mX12_mod) (pc := 88) (st := [va_rf (some a0), .int 8, va_rf (σ_6.R 1122 a0)]) (rest := [.int 8, va_rf (σ_6.R 1122 a0)]) (av := [va_rf (some a0)]) (x_linkV (M := mX12_readAssign) (M' := mX12_mod) (As := []) (index := 175) (C := RX12) (T := TX12) (xE_12 c_10) rfl wd_676 wd_677 (wG_in (List.mem_append_left _ (List.mem_of_getElem? (i := 48) rfl)) rfl) xw_X12_mod rfl (by decide) rfl rfl dX12_readAssign_88) (ev_X12_mod hO hP h_13) xw_X12_mod rfl wd_198 dX12_readAssign_88 (by decide) (by decide) (by simp [x_cat, x_catI, x_catJ])
          refine x_callR z9 ?_
          refine ev_at (st' := [.int v_11, .int 8, va_rf (σ_6.R 1122 a0)]) rfl rfl ?_
          refine ev_imul (x := 8) (y := v_11) dX12_readAssign_91 ?_
          refine ev_aload_n (j := 1) (x := (some a0)) dX12_readAssign_92 rfl rfl ?_
          obtain ⟨c_14, h⟩ := x_chk_e h
          refine ev_get (C := RX12) (T := TX12) (k := 21) inX12 (xE_12 c_14) rfl (by decide) wd_169 (Or.inl rfl) rfl dX12_readAssign_93 ?_
          refine ev_aload_n (j := 1) (x := (some a0)) dX12_readAssign_96 rfl rfl ?_
          rcases x_bind_e h with ⟨v_15, σ_16, h_17, h⟩ | ⟨E_47, σ_16, h_17, h⟩
          · have z9 := x_call (M := mX12_readAssign) (M' := mX12_mod) (pc := 97) (st := [va_rf (some a0), va_rf (σ_12.R 1121 a0), .int (8 * v_11), va_rf (σ_6.R 1122 a0)]) (rest := [va_rf (σ_12.R 1121 a0), .int (8 * v_11), va_rf (σ_6.R 1122 a0)]) (av := [va_rf (some a0)]) (x_linkV (M := mX12_readAssign) (M' := mX12_mod) (As := []) (index := 175) (C := RX12) (T := TX12) (xE_12 c_14) rfl wd_676 wd_677 (wG_in (List.mem_append_left _ (List.mem_of_getElem? (i := 48) rfl)) rfl) xw_X12_mod rfl (by decide) rfl rfl dX12_readAssign_97) (ev_X12_mod hO hP h_17) xw_X12_mod rfl wd_198 dX12_readAssign_97 (by decide) (by decide) (by simp [x_cat, x_catI, x_catJ])
            refine x_callR z9 ?_
            refine ev_at (st' := [.int v_15, va_rf (σ_12.R 1121 a0), .int (8 * v_11), va_rf (σ_6.R 1122 a0)]) rfl rfl ?_
            obtain ⟨a_18, ea_18, h⟩ := x_some_e h
            refine ev_at (st' := [.int v_15, va_rf (some a_18), .int (8 * v_11), va_rf (σ_6.R 1122 a0)]) rfl (by rw [ea_18]) ?_
            obtain ⟨c_19, h⟩ := x_chk_e h
            refine ev_iald_31 c_19.1 c_19.2 dX12_readAssign_100 ?_
            refine ev_iadd (x := (8 * v_11)) (y := (σ_16.AI a_18 (Int32.toNatClampNeg v_15))) dX12_readAssign_101 ?_
            refine ev_iload_n (j := 2) (x := v2) dX12_readAssign_102 rfl rfl ?_
            obtain ⟨a_20, ea_20, h⟩ := x_some_e h
            refine ev_at (st' := [.int v2, .int ((8 * v_11) + (σ_16.AI a_18 (Int32.toNatClampNeg v_15))), va_rf (some a_20)]) rfl (by rw [ea_20]) ?_
            obtain ⟨c_21, h⟩ := x_chk_e h
            obtain ⟨σ_22, eσ_22, h⟩ := x_let_e h
            refine ev_iast_31 c_21.1 c_21.2.1 (hP.2.2.2.1 ▸ c_21.2.2) dX12_readAssign_103 (eσ_22 ▸ ?_)
            refine ev_aload_n (j := 1) (x := (some a0)) dX12_readAssign_104 rfl rfl ?_
            obtain ⟨c_23, h⟩ := x_chk_e h
            refine ev_get (C := RX12) (T := TX12) (k := 23) inX12 (xE_12 c_23) rfl (by decide) wd_171 (Or.inl rfl) rfl dX12_readAssign_105 ?_
            refine ev_bipush (v := 8) dX12_readAssign_108 (by decide) ?_
            refine ev_aload_n (j := 1) (x := (some a0)) dX12_readAssign_110 rfl rfl ?_
            rcases x_bind_e h with ⟨v_24, σ_25, h_26, h⟩ | ⟨E_46, σ_25, h_26, h⟩
            · have z9 := x_call (M := mX12_readAssign) (M' := mX12_mod) (pc := 111) (st := [va_rf (some a0), .int 8, va_rf (σ_22.R 1123 a0)]) (rest := [.int 8, va_rf (σ_22.R 1123 a0)]) (av := [va_rf (some a0)]) (x_linkV (M := mX12_readAssign) (M' := mX12_mod) (As := []) (index := 175) (C := RX12) (T := TX12) (xE_12 c_23) rfl wd_676 wd_677 (wG_in (List.mem_append_left _ (List.mem_of_getElem? (i := 48) rfl)) rfl) xw_X12_mod rfl (by decide) rfl rfl dX12_readAssign_111) (ev_X12_mod hO hP h_26) xw_X12_mod rfl wd_198 dX12_readAssign_111 (by decide) (by decide) (by simp [x_cat, x_catI, x_catJ])
              refine x_callR z9 ?_
              refine ev_at (st' := [.int v_24, .int 8, va_rf (σ_22.R 1123 a0)]) rfl rfl ?_
              refine ev_imul (x := 8) (y := v_24) dX12_readAssign_114 ?_
              refine ev_aload_n (j := 1) (x := (some a0)) dX12_readAssign_115 rfl rfl ?_
              obtain ⟨c_27, h⟩ := x_chk_e h
              refine ev_get (C := RX12) (T := TX12) (k := 21) inX12 (xE_12 c_27) rfl (by decide) wd_169 (Or.inl rfl) rfl dX12_readAssign_116 ?_
              refine ev_aload_n (j := 1) (x := (some a0)) dX12_readAssign_119 rfl rfl ?_
              rcases x_bind_e h with ⟨v_28, σ_29, h_30, h⟩ | ⟨E_45, σ_29, h_30, h⟩
              · have z9 := x_call (M := mX12_readAssign) (M' := mX12_mod) (pc := 120) (st := [va_rf (some a0), va_rf (σ_25.R 1121 a0), .int (8 * v_24), va_rf (σ_22.R 1123 a0)]) (rest := [va_rf (σ_25.R 1121 a0), .int (8 * v_24), va_rf (σ_22.R 1123 a0)]) (av := [va_rf (some a0)]) (x_linkV (M := mX12_readAssign) (M' := mX12_mod) (As := []) (index := 175) (C := RX12) (T := TX12) (xE_12 c_27) rfl wd_676 wd_677 (wG_in (List.mem_append_left _ (List.mem_of_getElem? (i := 48) rfl)) rfl) xw_X12_mod rfl (by decide) rfl rfl dX12_readAssign_120) (ev_X12_mod hO hP h_30) xw_X12_mod rfl wd_198 dX12_readAssign_120 (by decide) (by decide) (by simp [x_cat, x_catI, x_catJ])
                refine x_callR z9 ?_
                refine ev_at (st' := [.int v_28, va_rf (σ_25.R 1121 a0), .int (8 * v_24), va_rf (σ_22.R 1123 a0)]) rfl rfl ?_
                obtain ⟨a_31, ea_31, h⟩ := x_some_e h
                refine ev_at (st' := [.int v_28, va_rf (some a_31), .int (8 * v_24), va_rf (σ_22.R 1123 a0)]) rfl (by rw [ea_31]) ?_
                obtain ⟨c_32, h⟩ := x_chk_e h
                refine ev_iald_31 c_32.1 c_32.2 dX12_readAssign_123 ?_
                refine ev_iadd (x := (8 * v_24)) (y := (σ_29.AI a_31 (Int32.toNatClampNeg v_28))) dX12_readAssign_124 ?_
                refine ev_iload_n (j := 0) (x := s0) dX12_readAssign_125 rfl rfl ?_
                obtain ⟨a_33, ea_33, h⟩ := x_some_e h
                refine ev_at (st' := [.int s0, .int ((8 * v_24) + (σ_29.AI a_31 (Int32.toNatClampNeg v_28))), va_rf (some a_33)]) rfl (by rw [ea_33]) ?_
                obtain ⟨c_34, h⟩ := x_chk_e h
                obtain ⟨σ_35, eσ_35, h⟩ := x_let_e h
                refine ev_iast_31 c_34.1 c_34.2.1 (hP.2.2.2.1 ▸ c_34.2.2) dX12_readAssign_126 (eσ_35 ▸ ?_)
                refine ev_aload_n (j := 1) (x := (some a0)) dX12_readAssign_127 rfl rfl ?_
                obtain ⟨c_36, h⟩ := x_chk_e h
                refine ev_get (C := RX12) (T := TX12) (k := 21) inX12 (xE_12 c_36) rfl (by decide) wd_169 (Or.inl rfl) rfl dX12_readAssign_128 ?_
                refine ev_aload_n (j := 1) (x := (some a0)) dX12_readAssign_131 rfl rfl ?_
                rcases x_bind_e h with ⟨v_37, σ_38, h_39, h⟩ | ⟨E_44, σ_38, h_39, h⟩
                · have z9 := x_call (M := mX12_readAssign) (M' := mX12_mod) (pc := 132) (st := [va_rf (some a0), va_rf (σ_35.R 1121 a0)]) (rest := [va_rf (σ_35.R 1121 a0)]) (av := [va_rf (some a0)]) (x_linkV (M := mX12_readAssign) (M' := mX12_mod) (As := []) (index := 175) (C := RX12) (T := TX12) (xE_12 c_36) rfl wd_676 wd_677 (wG_in (List.mem_append_left _ (List.mem_of_getElem? (i := 48) rfl)) rfl) xw_X12_mod rfl (by decide) rfl rfl dX12_readAssign_132) (ev_X12_mod hO hP h_39) xw_X12_mod rfl wd_198 dX12_readAssign_132 (by decide) (by decide) (by simp [x_cat, x_catI, x_catJ])
                  refine x_callR z9 ?_
                  refine ev_at (st' := [.int v_37, va_rf (σ_35.R 1121 a0)]) rfl rfl ?_
                  refine ev_dup2_11 dX12_readAssign_135 rfl (x_cat _) ?_
                  obtain ⟨a_40, ea_40, h⟩ := x_some_e h
                  refine ev_at (st' := [.int v_37, va_rf (some a_40), .int v_37, va_rf (σ_35.R 1121 a0)]) rfl (by rw [ea_40]) ?_
                  obtain ⟨c_41, h⟩ := x_chk_e h
                  refine ev_iald_31 c_41.1 c_41.2 dX12_readAssign_136 ?_
                  refine ev_iconst (v := 1) dX12_readAssign_137 (by decide) ?_
                  refine ev_iadd (x := (σ_38.AI a_40 (Int32.toNatClampNeg v_37))) (y := 1) dX12_readAssign_138 ?_
                  refine ev_at (st' := [.int ((σ_38.AI a_40 (Int32.toNatClampNeg v_37)) + 1), .int v_37, va_rf (some a_40)]) rfl (by rw [ea_40]) ?_
                  obtain ⟨c_42, h⟩ := x_chk_e h
                  obtain ⟨σ_43, eσ_43, h⟩ := x_let_e h
                  refine ev_iast_31 c_42.1 c_42.2.1 (hP.2.2.2.1 ▸ c_42.2.2) dX12_readAssign_139 (eσ_43 ▸ ?_)
                  exact ev_sub [] rfl (ev_X12_readAssign_p140 hO hP h)
                · have z9 := x_call (M := mX12_readAssign) (M' := mX12_mod) (pc := 132) (st := [va_rf (some a0), va_rf (σ_35.R 1121 a0)]) (rest := [va_rf (σ_35.R 1121 a0)]) (av := [va_rf (some a0)]) (x_linkV (M := mX12_readAssign) (M' := mX12_mod) (As := []) (index := 175) (C := RX12) (T := TX12) (xE_12 c_36) rfl wd_676 wd_677 (wG_in (List.mem_append_left _ (List.mem_of_getElem? (i := 48) rfl)) rfl) xw_X12_mod rfl (by decide) rfl rfl dX12_readAssign_132) (ev_X12_mod hO hP h_39) xw_X12_mod rfl wd_198 dX12_readAssign_132 (by decide) (by decide) (by simp [x_cat, x_catI, x_catJ])
                  cases h
                  exact x_callX z9 (evX_out rfl)
              · have z9 := x_call (M := mX12_readAssign) (M' := mX12_mod) (pc := 120) (st := [va_rf (some a0), va_rf (σ_25.R 1121 a0), .int (8 * v_24), va_rf (σ_22.R 1123 a0)]) (rest := [va_rf (σ_25.R 1121 a0), .int (8 * v_24), va_rf (σ_22.R 1123 a0)]) (av := [va_rf (some a0)]) (x_linkV (M := mX12_readAssign) (M' := mX12_mod) (As := []) (index := 175) (C := RX12) (T := TX12) (xE_12 c_27) rfl wd_676 wd_677 (wG_in (List.mem_append_left _ (List.mem_of_getElem? (i := 48) rfl)) rfl) xw_X12_mod rfl (by decide) rfl rfl dX12_readAssign_120) (ev_X12_mod hO hP h_30) xw_X12_mod rfl wd_198 dX12_readAssign_120 (by decide) (by decide) (by simp [x_cat, x_catI, x_catJ])
                cases h
                exact x_callX z9 (evX_out rfl)
            · have z9 := x_call (M := mX12_readAssign) (M' := mX12_mod) (pc := 111) (st := [va_rf (some a0), .int 8, va_rf (σ_22.R 1123 a0)]) (rest := [.int 8, va_rf (σ_22.R 1123 a0)]) (av := [va_rf (some a0)]) (x_linkV (M := mX12_readAssign) (M' := mX12_mod) (As := []) (index := 175) (C := RX12) (T := TX12) (xE_12 c_23) rfl wd_676 wd_677 (wG_in (List.mem_append_left _ (List.mem_of_getElem? (i := 48) rfl)) rfl) xw_X12_mod rfl (by decide) rfl rfl dX12_readAssign_111) (ev_X12_mod hO hP h_26) xw_X12_mod rfl wd_198 dX12_readAssign_111 (by decide) (by decide) (by simp [x_cat, x_catI, x_catJ])
              cases h
              exact x_callX z9 (evX_out rfl)
          · have z9 := x_call (M := mX12_readAssign) (M' := mX12_mod) (pc := 97) (st := [va_rf (some a0), va_rf (σ_12.R 1121 a0), .int (8 * v_11), va_rf (σ_6.R 1122 a0)]) (rest := [va_rf (σ_12.R 1121 a0), .int (8 * v_11), va_rf (σ_6.R 1122 a0)]) (av := [va_rf (some a0)]) (x_linkV (M := mX12_readAssign) (M' := mX12_mod) (As := []) (index := 175) (C := RX12) (T := TX12) (xE_12 c_14) rfl wd_676 wd_677 (wG_in (List.mem_append_left _ (List.mem_of_getElem? (i := 48) rfl)) rfl) xw_X12_mod rfl (by decide) rfl rfl dX12_readAssign_97) (ev_X12_mod hO hP h_17) xw_X12_mod rfl wd_198 dX12_readAssign_97 (by decide) (by decide) (by simp [x_cat, x_catI, x_catJ])
            cases h
            exact x_callX z9 (evX_out rfl)
        · have z9 := x_call (M := mX12_readAssign) (M' := mX12_mod) (pc := 88) (st := [va_rf (some a0), .int 8, va_rf (σ_6.R 1122 a0)]) (rest := [.int 8, va_rf (σ_6.R 1122 a0)]) (av := [va_rf (some a0)]) (x_linkV (M := mX12_readAssign) (M' := mX12_mod) (As := []) (index := 175) (C := RX12) (T := TX12) (xE_12 c_10) rfl wd_676 wd_677 (wG_in (List.mem_append_left _ (List.mem_of_getElem? (i := 48) rfl)) rfl) xw_X12_mod rfl (by decide) rfl rfl dX12_readAssign_88) (ev_X12_mod hO hP h_13) xw_X12_mod rfl wd_198 dX12_readAssign_88 (by decide) (by decide) (by simp [x_cat, x_catI, x_catJ])
          cases h
          exact x_callX z9 (evX_out rfl)
    · have z9 := x_call (M := mX12_readAssign) (M' := mX12_ok) (pc := 75) (st := [va_rf (some a0)]) (rest := []) (av := [va_rf (some a0)]) (x_linkV (M := mX12_readAssign) (M' := mX12_ok) (As := []) (index := 121) (C := RX12) (T := TX12) (xE_12 c_8) rfl wd_640 wd_641 (wG_in (List.mem_append_left _ (List.mem_of_getElem? (i := 37) rfl)) rfl) xw_X12_ok rfl (by decide) rfl rfl dX12_readAssign_75) (ev_X12_ok hO hP h_7) xw_X12_ok rfl wd_198 dX12_readAssign_75 (by decide) (by decide) (by simp [x_cat, x_catI, x_catJ])
      cases h
      exact x_callX z9 (evX_out rfl)
  · have z9 := x_call (M := mX12_readAssign) (M' := mX12_needSign) (pc := 71) (st := [.int 59, va_rf (some a0)]) (rest := []) (av := [va_rf (some a0), .int 59]) (x_linkV (M := mX12_readAssign) (M' := mX12_needSign) (As := [.int 59]) (index := 199) (C := RX12) (T := TX12) (xE_12 c_4) rfl wd_697 wd_698 (wG_in (List.mem_append_left _ (List.mem_of_getElem? (i := 49) rfl)) rfl) xw_X12_needSign rfl (by decide) rfl rfl dX12_readAssign_71) (ev_X12_needSign hO hP h_3) xw_X12_needSign rfl wd_198 dX12_readAssign_71 (by decide) (by decide) (by simp [x_cat, x_catI, x_catJ])
    cases h
    exact x_callX z9 (evX_out rfl)
set_option maxHeartbeats 4000000 in
set_option maxRecDepth 100000 in
theorem ev_X12_readAssign_p52 {l : Launch} {G : xG} (hO : x_OK l G) {P : xP} (hP : x_PG P G) {a0 : Nat} {v1 : Int32} {v2 : Int32} {σ σ' : xS} {rr : Unit ⊕ String} (h : dm_X12_readAssign_p52 P a0 v1 v2 σ = some (rr, σ')) : Ev l G mX12_readAssign 52 [(0, va_rf (some a0)), (1, .int v1), (2, .int v2)] [] σ (xrV rr) σ' := by
  unfold dm_X12_readAssign_p52 at h
  refine ev_iload_n (j := 1) (x := v1) dX12_readAssign_52 rfl rfl ?_
  by_cases c_1 : v1 = 0
  · rw [if_pos c_1] at h
    refine ev_if_eq (x := v1) (tgt := 63) dX12_readAssign_53 (by decide) (fun _ => ?_) (fun q9 => absurd c_1 q9)
    refine ev_aload_n (j := 0) (x := (some a0)) dX12_readAssign_63 rfl rfl ?_
    obtain ⟨c_5, h⟩ := x_chk_e h
    rcases x_bind_e h with ⟨v_2, σ_3, h_4, h⟩ | ⟨E_6, σ_3, h_4, h⟩
    · have z9 := x_call (M := mX12_readAssign) (M' := mX12_shortRef) (pc := 64) (st := [va_rf (some a0)]) (rest := []) (av := [va_rf (some a0)]) (x_linkV (M := mX12_readAssign) (M' := mX12_shortRef) (As := []) (index := 218) (C := RX12) (T := TX12) (xE_12 c_5) rfl wd_712 wd_713 (wG_in (List.mem_append_left _ (List.mem_of_getElem? (i := 63) rfl)) rfl) xw_X12_shortRef rfl (by decide) rfl rfl dX12_readAssign_64) (ev_X12_shortRef hO hP h_4) xw_X12_shortRef rfl wd_198 dX12_readAssign_64 (by decide) (by decide) (by simp [x_cat, x_catI, x_catJ])
      refine x_callR z9 ?_
      refine ev_at (st' := [.int v_2]) rfl rfl ?_
      exact ev_sub [0, 2] rfl (ev_X12_readAssign_p67 hO hP h)
    · have z9 := x_call (M := mX12_readAssign) (M' := mX12_shortRef) (pc := 64) (st := [va_rf (some a0)]) (rest := []) (av := [va_rf (some a0)]) (x_linkV (M := mX12_readAssign) (M' := mX12_shortRef) (As := []) (index := 218) (C := RX12) (T := TX12) (xE_12 c_5) rfl wd_712 wd_713 (wG_in (List.mem_append_left _ (List.mem_of_getElem? (i := 63) rfl)) rfl) xw_X12_shortRef rfl (by decide) rfl rfl dX12_readAssign_64) (ev_X12_shortRef hO hP h_4) xw_X12_shortRef rfl wd_198 dX12_readAssign_64 (by decide) (by decide) (by simp [x_cat, x_catI, x_catJ])
      cases h
      exact x_callX z9 (evX_out rfl)
  · rw [if_neg c_1] at h
    refine ev_if_eq (x := v1) (tgt := 63) dX12_readAssign_53 (by decide) (fun q9 => absurd q9 c_1) (fun _ => ?_)
    refine ev_aload_n (j := 0) (x := (some a0)) dX12_readAssign_56 rfl rfl ?_
    obtain ⟨c_10, h⟩ := x_chk_e h
    rcases x_bind_e h with ⟨v_7, σ_8, h_9, h⟩ | ⟨E_11, σ_8, h_9, h⟩
    · have z9 := x_call (M := mX12_readAssign) (M' := mX12_longRef) (pc := 57) (st := [va_rf (some a0)]) (rest := []) (av := [va_rf (some a0)]) (x_linkV (M := mX12_readAssign) (M' := mX12_longRef) (As := []) (index := 215) (C := RX12) (T := TX12) (xE_12 c_10) rfl wd_715 wd_716 (wG_in (List.mem_append_left _ (List.mem_of_getElem? (i := 59) rfl)) rfl) xw_X12_longRef rfl (by decide) rfl rfl dX12_readAssign_57) (ev_X12_longRef hO hP h_9) xw_X12_longRef rfl wd_198 dX12_readAssign_57 (by decide) (by decide) (by simp [x_cat, x_catI, x_catJ])
      refine x_callR z9 ?_
      refine ev_at (st' := [.int v_7]) rfl rfl ?_
      refine ev_goto (tgt := 67) dX12_readAssign_60 (by decide) ?_
      exact ev_sub [0, 2] rfl (ev_X12_readAssign_p67 hO hP h)
    · have z9 := x_call (M := mX12_readAssign) (M' := mX12_longRef) (pc := 57) (st := [va_rf (some a0)]) (rest := []) (av := [va_rf (some a0)]) (x_linkV (M := mX12_readAssign) (M' := mX12_longRef) (As := []) (index := 215) (C := RX12) (T := TX12) (xE_12 c_10) rfl wd_715 wd_716 (wG_in (List.mem_append_left _ (List.mem_of_getElem? (i := 59) rfl)) rfl) xw_X12_longRef rfl (by decide) rfl rfl dX12_readAssign_57) (ev_X12_longRef hO hP h_9) xw_X12_longRef rfl wd_198 dX12_readAssign_57 (by decide) (by decide) (by simp [x_cat, x_catI, x_catJ])
      cases h
      exact x_callX z9 (evX_out rfl)
set_option maxHeartbeats 4000000 in
set_option maxRecDepth 100000 in
theorem ev_X12_readAssign_p41 {l : Launch} {G : xG} (hO : x_OK l G) {P : xP} (hP : x_PG P G) {a0 : Nat} {v1 : Int32} {s0 : Int32} {σ σ' : xS} {rr : Unit ⊕ String} (h : dm_X12_readAssign_p41 P a0 v1 s0 σ = some (rr, σ')) : Ev l G mX12_readAssign 41 [(0, va_rf (some a0)), (1, .int v1)] [.int s0] σ (xrV rr) σ' := by
  unfold dm_X12_readAssign_p41 at h
  refine ev_istore_n (i := 2) (lv' := [(2, .int s0), (0, va_rf (some a0)), (1, .int v1)]) dX12_readAssign_41 rfl (by decide) rfl ?_
  refine ev_iload_n (j := 2) (x := v1) dX12_readAssign_42 rfl rfl ?_
  by_cases c_1 : v1 = 0
  · rw [if_pos c_1] at h
    refine ev_if_eq (x := v1) (tgt := 52) dX12_readAssign_43 (by decide) (fun _ => ?_) (fun q9 => absurd c_1 q9)
    exact ev_sub [1, 2, 0] rfl (ev_X12_readAssign_p52 hO hP h)
  · rw [if_neg c_1] at h
    refine ev_if_eq (x := v1) (tgt := 52) dX12_readAssign_43 (by decide) (fun q9 => absurd q9 c_1) (fun _ => ?_)
    refine ev_aload_n (j := 1) (x := (some a0)) dX12_readAssign_46 rfl rfl ?_
    refine ev_bipush (v := 61) dX12_readAssign_47 (by decide) ?_
    obtain ⟨c_5, h⟩ := x_chk_e h
    rcases x_bind_e h with ⟨v_2, σ_3, h_4, h⟩ | ⟨E_6, σ_3, h_4, h⟩
    · have z9 := x_call (M := mX12_readAssign) (M' := mX12_needSign) (pc := 49) (st := [.int 61, va_rf (some a0)]) (rest := []) (av := [va_rf (some a0), .int 61]) (x_linkV (M := mX12_readAssign) (M' := mX12_needSign) (As := [.int 61]) (index := 199) (C := RX12) (T := TX12) (xE_12 c_5) rfl wd_697 wd_698 (wG_in (List.mem_append_left _ (List.mem_of_getElem? (i := 49) rfl)) rfl) xw_X12_needSign rfl (by decide) rfl rfl dX12_readAssign_49) (ev_X12_needSign hO hP h_4) xw_X12_needSign rfl wd_198 dX12_readAssign_49 (by decide) (by decide) (by simp [x_cat, x_catI, x_catJ])
      refine x_callR z9 ?_
      refine ev_at (st' := []) rfl rfl ?_
      exact ev_sub [1, 2, 0] rfl (ev_X12_readAssign_p52 hO hP h)
    · have z9 := x_call (M := mX12_readAssign) (M' := mX12_needSign) (pc := 49) (st := [.int 61, va_rf (some a0)]) (rest := []) (av := [va_rf (some a0), .int 61]) (x_linkV (M := mX12_readAssign) (M' := mX12_needSign) (As := [.int 61]) (index := 199) (C := RX12) (T := TX12) (xE_12 c_5) rfl wd_697 wd_698 (wG_in (List.mem_append_left _ (List.mem_of_getElem? (i := 49) rfl)) rfl) xw_X12_needSign rfl (by decide) rfl rfl dX12_readAssign_49) (ev_X12_needSign hO hP h_4) xw_X12_needSign rfl wd_198 dX12_readAssign_49 (by decide) (by decide) (by simp [x_cat, x_catI, x_catJ])
      cases h
      exact x_callX z9 (evX_out rfl)
set_option maxHeartbeats 4000000 in
set_option maxRecDepth 100000 in
theorem ev_X12_readAssign_p22 {l : Launch} {G : xG} (hO : x_OK l G) {P : xP} (hP : x_PG P G) {a0 : Nat} {v1 : Int32} {σ σ' : xS} {rr : Unit ⊕ String} (h : dm_X12_readAssign_p22 P a0 v1 σ = some (rr, σ')) : Ev l G mX12_readAssign 22 [(0, va_rf (some a0)), (1, .int v1)] [] σ (xrV rr) σ' := by
  unfold dm_X12_readAssign_p22 at h
  refine ev_aload_n (j := 0) (x := (some a0)) dX12_readAssign_22 rfl rfl ?_
  obtain ⟨c_4, h⟩ := x_chk_e h
  rcases x_bind_e h with ⟨v_1, σ_2, h_3, h⟩ | ⟨E_16, σ_2, h_3, h⟩
  · have z9 := x_call (M := mX12_readAssign) (M' := mX12_next) (pc := 23) (st := [va_rf (some a0)]) (rest := []) (av := [va_rf (some a0)]) (x_linkV (M := mX12_readAssign) (M' := mX12_next) (As := []) (index := 169) (C := RX12) (T := TX12) (xE_12 c_4) rfl wd_679 wd_680 (wG_in (List.mem_append_left _ (List.mem_of_getElem? (i := 36) rfl)) rfl) xw_X12_next rfl (by decide) rfl rfl dX12_readAssign_23) (ev_X12_next hO hP h_3) xw_X12_next rfl wd_198 dX12_readAssign_23 (by decide) (by decide) (by simp [x_cat, x_catI, x_catJ])
    refine x_callR z9 ?_
    refine ev_at (st' := []) rfl rfl ?_
    refine ev_iload_n (j := 1) (x := v1) dX12_readAssign_26 rfl rfl ?_
    by_cases c_5 : v1 = 0
    · rw [if_pos c_5] at h
      refine ev_if_eq (x := v1) (tgt := 37) dX12_readAssign_27 (by decide) (fun _ => ?_) (fun q9 => absurd c_5 q9)
      refine ev_aload_n (j := 0) (x := (some a0)) dX12_readAssign_37 rfl rfl ?_
      obtain ⟨c_9, h⟩ := x_chk_e h
      rcases x_bind_e h with ⟨v_6, σ_7, h_8, h⟩ | ⟨E_10, σ_7, h_8, h⟩
      · have z9 := x_call (M := mX12_readAssign) (M' := mX12_shortRef) (pc := 38) (st := [va_rf (some a0)]) (rest := []) (av := [va_rf (some a0)]) (x_linkV (M := mX12_readAssign) (M' := mX12_shortRef) (As := []) (index := 218) (C := RX12) (T := TX12) (xE_12 c_9) rfl wd_712 wd_713 (wG_in (List.mem_append_left _ (List.mem_of_getElem? (i := 63) rfl)) rfl) xw_X12_shortRef rfl (by decide) rfl rfl dX12_readAssign_38) (ev_X12_shortRef hO hP h_8) xw_X12_shortRef rfl wd_198 dX12_readAssign_38 (by decide) (by decide) (by simp [x_cat, x_catI, x_catJ])
        refine x_callR z9 ?_
        refine ev_at (st' := [.int v_6]) rfl rfl ?_
        exact ev_sub [0, 1] rfl (ev_X12_readAssign_p41 hO hP h)
      · have z9 := x_call (M := mX12_readAssign) (M' := mX12_shortRef) (pc := 38) (st := [va_rf (some a0)]) (rest := []) (av := [va_rf (some a0)]) (x_linkV (M := mX12_readAssign) (M' := mX12_shortRef) (As := []) (index := 218) (C := RX12) (T := TX12) (xE_12 c_9) rfl wd_712 wd_713 (wG_in (List.mem_append_left _ (List.mem_of_getElem? (i := 63) rfl)) rfl) xw_X12_shortRef rfl (by decide) rfl rfl dX12_readAssign_38) (ev_X12_shortRef hO hP h_8) xw_X12_shortRef rfl wd_198 dX12_readAssign_38 (by decide) (by decide) (by simp [x_cat, x_catI, x_catJ])
        cases h
        exact x_callX z9 (evX_out rfl)
    · rw [if_neg c_5] at h
      refine ev_if_eq (x := v1) (tgt := 37) dX12_readAssign_27 (by decide) (fun q9 => absurd q9 c_5) (fun _ => ?_)
      refine ev_aload_n (j := 0) (x := (some a0)) dX12_readAssign_30 rfl rfl ?_
      obtain ⟨c_14, h⟩ := x_chk_e h
      rcases x_bind_e h with ⟨v_11, σ_12, h_13, h⟩ | ⟨E_15, σ_12, h_13, h⟩
      · have z9 := x_call (M := mX12_readAssign) (M' := mX12_longRef) (pc := 31) (st := [va_rf (some a0)]) (rest := []) (av := [va_rf (some a0)]) (x_linkV (M := mX12_readAssign) (M' := mX12_longRef) (As := []) (index := 215) (C := RX12) (T := TX12) (xE_12 c_14) rfl wd_715 wd_716 (wG_in (List.mem_append_left _ (List.mem_of_getElem? (i := 59) rfl)) rfl) xw_X12_longRef rfl (by decide) rfl rfl dX12_readAssign_31) (ev_X12_longRef hO hP h_13) xw_X12_longRef rfl wd_198 dX12_readAssign_31 (by decide) (by decide) (by simp [x_cat, x_catI, x_catJ])
        refine x_callR z9 ?_
        refine ev_at (st' := [.int v_11]) rfl rfl ?_
        refine ev_goto (tgt := 41) dX12_readAssign_34 (by decide) ?_
        exact ev_sub [0, 1] rfl (ev_X12_readAssign_p41 hO hP h)
      · have z9 := x_call (M := mX12_readAssign) (M' := mX12_longRef) (pc := 31) (st := [va_rf (some a0)]) (rest := []) (av := [va_rf (some a0)]) (x_linkV (M := mX12_readAssign) (M' := mX12_longRef) (As := []) (index := 215) (C := RX12) (T := TX12) (xE_12 c_14) rfl wd_715 wd_716 (wG_in (List.mem_append_left _ (List.mem_of_getElem? (i := 59) rfl)) rfl) xw_X12_longRef rfl (by decide) rfl rfl dX12_readAssign_31) (ev_X12_longRef hO hP h_13) xw_X12_longRef rfl wd_198 dX12_readAssign_31 (by decide) (by decide) (by simp [x_cat, x_catI, x_catJ])
        cases h
        exact x_callX z9 (evX_out rfl)
  · have z9 := x_call (M := mX12_readAssign) (M' := mX12_next) (pc := 23) (st := [va_rf (some a0)]) (rest := []) (av := [va_rf (some a0)]) (x_linkV (M := mX12_readAssign) (M' := mX12_next) (As := []) (index := 169) (C := RX12) (T := TX12) (xE_12 c_4) rfl wd_679 wd_680 (wG_in (List.mem_append_left _ (List.mem_of_getElem? (i := 36) rfl)) rfl) xw_X12_next rfl (by decide) rfl rfl dX12_readAssign_23) (ev_X12_next hO hP h_3) xw_X12_next rfl wd_198 dX12_readAssign_23 (by decide) (by decide) (by simp [x_cat, x_catI, x_catJ])
    cases h
    exact x_callX z9 (evX_out rfl)
set_option maxHeartbeats 4000000 in
set_option maxRecDepth 100000 in
theorem ev_X12_readAssign {l : Launch} {G : xG} (hO : x_OK l G) {P : xP} (hP : x_PG P G) {a0 : Nat} {v1 : Int32} {σ σ' : xS} {rr : Unit ⊕ String} (h : dm_X12_readAssign P a0 v1 σ = some (rr, σ')) : EvM l G mX12_readAssign [va_rf (some a0), .int v1] σ (xrV rr) σ' := by
  unfold dm_X12_readAssign at h
  refine evM_of hO (by decide +kernel) (x_lenI (by simp [x_cat, x_catI, x_catJ, mX12_readAssign, xM.maxL])) ?_
  refine Eq.mp (congrArg (fun z => Ev l G mX12_readAssign 0 z [] σ (xrV rr) σ') (show [(0, va_rf (some a0)), (1, .int v1)] = lv_args 0 [va_rf (some a0), .int v1] by simp [lv_args, x_cat, x_catI, x_catJ])) ?_
  refine ev_aload_n (j := 0) (x := (some a0)) dX12_readAssign_0 rfl rfl ?_
  obtain ⟨c_1, h⟩ := x_chk_e h
  refine ev_get (C := RX12) (T := TX12) (k := 21) inX12 (xE_12 c_1) rfl (by decide) wd_169 (Or.inl rfl) rfl dX12_readAssign_1 ?_
  refine ev_aload_n (j := 0) (x := (some a0)) dX12_readAssign_4 rfl rfl ?_
  rcases x_bind_e h with ⟨v_2, σ_3, h_4, h⟩ | ⟨E_13, σ_3, h_4, h⟩
  · have z9 := x_call (M := mX12_readAssign) (M' := mX12_mod) (pc := 5) (st := [va_rf (some a0), va_rf (σ.R 1121 a0)]) (rest := [va_rf (σ.R 1121 a0)]) (av := [va_rf (some a0)]) (x_linkV (M := mX12_readAssign) (M' := mX12_mod) (As := []) (index := 175) (C := RX12) (T := TX12) (xE_12 c_1) rfl wd_676 wd_677 (wG_in (List.mem_append_left _ (List.mem_of_getElem? (i := 48) rfl)) rfl) xw_X12_mod rfl (by decide) rfl rfl dX12_readAssign_5) (ev_X12_mod hO hP h_4) xw_X12_mod rfl wd_198 dX12_readAssign_5 (by decide) (by decide) (by simp [x_cat, x_catI, x_catJ])
    refine x_callR z9 ?_
    refine ev_at (st' := [.int v_2, va_rf (σ.R 1121 a0)]) rfl rfl ?_
    obtain ⟨a_5, ea_5, h⟩ := x_some_e h
    refine ev_at (st' := [.int v_2, va_rf (some a_5)]) rfl (by rw [ea_5]) ?_
    obtain ⟨c_6, h⟩ := x_chk_e h
    refine ev_iald_31 c_6.1 c_6.2 dX12_readAssign_8 ?_
    refine ev_bipush (v := 8) dX12_readAssign_9 (by decide) ?_
    by_cases c_7 : (σ_3.AI a_5 (Int32.toNatClampNeg v_2)) = 8
    · rw [if_pos c_7] at h
      refine ev_icmp_ne (x := (σ_3.AI a_5 (Int32.toNatClampNeg v_2))) (y := 8) (tgt := 22) dX12_readAssign_11 (by decide) (fun q9 => absurd c_7 q9) (fun _ => ?_)
      refine ev_aload_n (j := 0) (x := (some a0)) dX12_readAssign_14 rfl rfl ?_
      refine ev_aload_n (j := 0) (x := (some a0)) dX12_readAssign_15 rfl rfl ?_
      obtain ⟨c_8, h⟩ := x_chk_e h
      refine ev_get (C := RX12) (T := TX12) (k := 36) inX12 (xE_12 c_8) rfl (by decide) wd_646 (Or.inl rfl) rfl dX12_readAssign_16 ?_
      rcases x_bind_e h with ⟨v_9, σ_10, h_11, h⟩ | ⟨E_12, σ_10, h_11, h⟩
      · have z9 := x_call (M := mX12_readAssign) (M' := mX12_fail) (pc := 19) (st := [.int (σ_3.I 1136 a0), va_rf (some a0)]) (rest := []) (av := [va_rf (some a0), .int (σ_3.I 1136 a0)]) (x_linkV (M := mX12_readAssign) (M' := mX12_fail) (As := [.int (σ_3.I 1136 a0)]) (index := 150) (C := RX12) (T := TX12) (xE_12 c_8) rfl wd_657 wd_658 (wG_in (List.mem_append_left _ (List.mem_of_getElem? (i := 39) rfl)) rfl) xw_X12_fail rfl (by decide) rfl rfl dX12_readAssign_19) (ev_X12_fail hO hP h_11) xw_X12_fail rfl wd_198 dX12_readAssign_19 (by decide) (by decide) (by simp [x_cat, x_catI, x_catJ])
        refine x_callR z9 ?_
        refine ev_at (st' := []) rfl rfl ?_
        exact ev_sub [0, 1] rfl (ev_X12_readAssign_p22 hO hP h)
      · have z9 := x_call (M := mX12_readAssign) (M' := mX12_fail) (pc := 19) (st := [.int (σ_3.I 1136 a0), va_rf (some a0)]) (rest := []) (av := [va_rf (some a0), .int (σ_3.I 1136 a0)]) (x_linkV (M := mX12_readAssign) (M' := mX12_fail) (As := [.int (σ_3.I 1136 a0)]) (index := 150) (C := RX12) (T := TX12) (xE_12 c_8) rfl wd_657 wd_658 (wG_in (List.mem_append_left _ (List.mem_of_getElem? (i := 39) rfl)) rfl) xw_X12_fail rfl (by decide) rfl rfl dX12_readAssign_19) (ev_X12_fail hO hP h_11) xw_X12_fail rfl wd_198 dX12_readAssign_19 (by decide) (by decide) (by simp [x_cat, x_catI, x_catJ])
        cases h
        exact x_callX z9 (evX_out rfl)
    · rw [if_neg c_7] at h
      refine ev_icmp_ne (x := (σ_3.AI a_5 (Int32.toNatClampNeg v_2))) (y := 8) (tgt := 22) dX12_readAssign_11 (by decide) (fun _ => ?_) (fun q9 => absurd q9 c_7)
      exact ev_sub [0, 1] rfl (ev_X12_readAssign_p22 hO hP h)
  · have z9 := x_call (M := mX12_readAssign) (M' := mX12_mod) (pc := 5) (st := [va_rf (some a0), va_rf (σ.R 1121 a0)]) (rest := [va_rf (σ.R 1121 a0)]) (av := [va_rf (some a0)]) (x_linkV (M := mX12_readAssign) (M' := mX12_mod) (As := []) (index := 175) (C := RX12) (T := TX12) (xE_12 c_1) rfl wd_676 wd_677 (wG_in (List.mem_append_left _ (List.mem_of_getElem? (i := 48) rfl)) rfl) xw_X12_mod rfl (by decide) rfl rfl dX12_readAssign_5) (ev_X12_mod hO hP h_4) xw_X12_mod rfl wd_198 dX12_readAssign_5 (by decide) (by decide) (by simp [x_cat, x_catI, x_catJ])
    cases h
    exact x_callX z9 (evX_out rfl)
set_option maxHeartbeats 4000000 in
set_option maxRecDepth 100000 in
theorem ev_X12_insCell {l : Launch} {G : xG} (hO : x_OK l G) {P : xP} (hP : x_PG P G) {a0 : Nat} {v1 : Int32} {σ σ' : xS} {rr : Int32 ⊕ String} (h : dm_X12_insCell P a0 v1 σ = some (rr, σ')) : EvM l G mX12_insCell [va_rf (some a0), .int v1] σ (xrI rr) σ' := by
  unfold dm_X12_insCell at h
  refine evM_of hO (by decide +kernel) (x_lenI (by simp [x_cat, x_catI, x_catJ, mX12_insCell, xM.maxL])) ?_
  refine Eq.mp (congrArg (fun z => Ev l G mX12_insCell 0 z [] σ (xrI rr) σ') (show [(0, va_rf (some a0)), (1, .int v1)] = lv_args 0 [va_rf (some a0), .int v1] by simp [lv_args, x_cat, x_catI, x_catJ])) ?_
  refine ev_bipush (v := 12) dX12_insCell_0 (by decide) ?_
  refine ev_aload_n (j := 0) (x := (some a0)) dX12_insCell_2 rfl rfl ?_
  obtain ⟨c_4, h⟩ := x_chk_e h
  rcases x_bind_e h with ⟨v_1, σ_2, h_3, h⟩ | ⟨E_5, σ_2, h_3, h⟩
  · have z9 := x_call (M := mX12_insCell) (M' := mX12_mod) (pc := 3) (st := [va_rf (some a0), .int 12]) (rest := [.int 12]) (av := [va_rf (some a0)]) (x_linkV (M := mX12_insCell) (M' := mX12_mod) (As := []) (index := 175) (C := RX12) (T := TX12) (xE_12 c_4) rfl wd_676 wd_677 (wG_in (List.mem_append_left _ (List.mem_of_getElem? (i := 48) rfl)) rfl) xw_X12_mod rfl (by decide) rfl rfl dX12_insCell_3) (ev_X12_mod hO hP h_3) xw_X12_mod rfl wd_198 dX12_insCell_3 (by decide) (by decide) (by simp [x_cat, x_catI, x_catJ])
    refine x_callR z9 ?_
    refine ev_at (st' := [.int v_1, .int 12]) rfl rfl ?_
    refine ev_imul (x := 12) (y := v_1) dX12_insCell_6 ?_
    refine ev_iload_n (j := 1) (x := v1) dX12_insCell_7 rfl rfl ?_
    refine ev_iadd (x := (12 * v_1)) (y := v1) dX12_insCell_8 ?_
    cases h
    exact ev_iret rfl rfl dX12_insCell_9
  · have z9 := x_call (M := mX12_insCell) (M' := mX12_mod) (pc := 3) (st := [va_rf (some a0), .int 12]) (rest := [.int 12]) (av := [va_rf (some a0)]) (x_linkV (M := mX12_insCell) (M' := mX12_mod) (As := []) (index := 175) (C := RX12) (T := TX12) (xE_12 c_4) rfl wd_676 wd_677 (wG_in (List.mem_append_left _ (List.mem_of_getElem? (i := 48) rfl)) rfl) xw_X12_mod rfl (by decide) rfl rfl dX12_insCell_3) (ev_X12_mod hO hP h_3) xw_X12_mod rfl wd_198 dX12_insCell_3 (by decide) (by decide) (by simp [x_cat, x_catI, x_catJ])
    cases h
    exact x_callX z9 (evX_out rfl)
set_option maxHeartbeats 4000000 in
set_option maxRecDepth 100000 in
theorem ev_X12_takeInstance_p57 {l : Launch} {G : xG} (hO : x_OK l G) {P : xP} (hP : x_PG P G) {a0 : Nat} {k16 : Int32 → Int32 → Int32 → xS → xO Int32} (hk16 : ∀ {v1 : Int32} {v2 : Int32} {v3 : Int32} {σ σ' : xS} {rr : Int32 ⊕ String}, k16 v1 v2 v3 σ = some (rr, σ') → Ev l G mX12_takeInstance 16 [(0, va_rf (some a0)), (1, .int v1), (2, .int v2), (3, .int v3)] [] σ (xrI rr) σ') {v1 : Int32} {v2 : Int32} {v3 : Int32} {σ σ' : xS} {rr : Int32 ⊕ String} (h : dm_X12_takeInstance_p57 P k16 a0 v1 v2 v3 σ = some (rr, σ')) : Ev l G mX12_takeInstance 57 [(0, va_rf (some a0)), (1, .int v1), (2, .int v2), (3, .int v3)] [] σ (xrI rr) σ' := by
  unfold dm_X12_takeInstance_p57 at h
  obtain ⟨v_1, ev_1, h⟩ := x_let_e h
  refine ev_iinc (j := 3) (x := v3) (v := v_1) (lv' := [(3, .int v_1), (0, va_rf (some a0)), (1, .int v1), (2, .int v2)]) dX12_takeInstance_57 rfl (by rw [ev_1]; rfl) (by decide) rfl ?_
  refine ev_goto (tgt := 16) dX12_takeInstance_60 (by decide) ?_
  exact ev_sub [1, 2, 3, 0] rfl (hk16 h)
set_option maxHeartbeats 4000000 in
set_option maxRecDepth 100000 in
theorem ev_X12_takeInstance_p84 {l : Launch} {G : xG} (hO : x_OK l G) {P : xP} (hP : x_PG P G) {a0 : Nat} {v1 : Int32} {v2 : Int32} {σ σ' : xS} {rr : Int32 ⊕ String} (h : dm_X12_takeInstance_p84 P a0 v1 v2 σ = some (rr, σ')) : Ev l G mX12_takeInstance 84 [(0, va_rf (some a0)), (1, .int v1), (2, .int v2)] [] σ (xrI rr) σ' := by
  unfold dm_X12_takeInstance_p84 at h
  refine ev_aload_n (j := 0) (x := (some a0)) dX12_takeInstance_84 rfl rfl ?_
  obtain ⟨c_4, h⟩ := x_chk_e h
  rcases x_bind_e h with ⟨v_1, σ_2, h_3, h⟩ | ⟨E_53, σ_2, h_3, h⟩
  · have z9 := x_call (M := mX12_takeInstance) (M' := mX12_ok) (pc := 85) (st := [va_rf (some a0)]) (rest := []) (av := [va_rf (some a0)]) (x_linkV (M := mX12_takeInstance) (M' := mX12_ok) (As := []) (index := 121) (C := RX12) (T := TX12) (xE_12 c_4) rfl wd_640 wd_641 (wG_in (List.mem_append_left _ (List.mem_of_getElem? (i := 37) rfl)) rfl) xw_X12_ok rfl (by decide) rfl rfl dX12_takeInstance_85) (ev_X12_ok hO hP h_3) xw_X12_ok rfl wd_198 dX12_takeInstance_85 (by decide) (by decide) (by simp [x_cat, x_catI, x_catJ])
    refine x_callR z9 ?_
    refine ev_at (st' := [.int v_1]) rfl rfl ?_
    by_cases c_5 : v_1 = 0
    · rw [if_pos c_5] at h
      refine ev_if_ne (x := v_1) (tgt := 93) dX12_takeInstance_88 (by decide) (fun q9 => absurd c_5 q9) (fun _ => ?_)
      refine ev_iconst (v := -1) dX12_takeInstance_91 (by decide) ?_
      cases h
      exact ev_iret rfl rfl dX12_takeInstance_92
    · rw [if_neg c_5] at h
      refine ev_if_ne (x := v_1) (tgt := 93) dX12_takeInstance_88 (by decide) (fun _ => ?_) (fun q9 => absurd q9 c_5)
      refine ev_aload_n (j := 0) (x := (some a0)) dX12_takeInstance_93 rfl rfl ?_
      obtain ⟨c_6, h⟩ := x_chk_e h
      refine ev_get (C := RX12) (T := TX12) (k := 25) inX12 (xE_12 c_6) rfl (by decide) wd_173 (Or.inl rfl) rfl dX12_takeInstance_94 ?_
      refine ev_aload_n (j := 0) (x := (some a0)) dX12_takeInstance_97 rfl rfl ?_
      refine ev_iload_n (j := 2) (x := v2) dX12_takeInstance_98 rfl rfl ?_
      rcases x_bind_e h with ⟨v_7, σ_8, h_9, h⟩ | ⟨E_52, σ_8, h_9, h⟩
      · have z9 := x_call (M := mX12_takeInstance) (M' := mX12_insCell) (pc := 99) (st := [.int v2, va_rf (some a0), va_rf (σ_2.R 1125 a0)]) (rest := [va_rf (σ_2.R 1125 a0)]) (av := [va_rf (some a0), .int v2]) (x_linkV (M := mX12_takeInstance) (M' := mX12_insCell) (As := [.int v2]) (index := 221) (C := RX12) (T := TX12) (xE_12 c_6) rfl wd_718 wd_719 (wG_in (List.mem_append_left _ (List.mem_of_getElem? (i := 66) rfl)) rfl) xw_X12_insCell rfl (by decide) rfl rfl dX12_takeInstance_99) (ev_X12_insCell hO hP h_9) xw_X12_insCell rfl wd_198 dX12_takeInstance_99 (by decide) (by decide) (by simp [x_cat, x_catI, x_catJ])
        refine x_callR z9 ?_
        refine ev_at (st' := [.int v_7, va_rf (σ_2.R 1125 a0)]) rfl rfl ?_
        refine ev_iload_n (j := 1) (x := v1) dX12_takeInstance_102 rfl rfl ?_
        obtain ⟨a_10, ea_10, h⟩ := x_some_e h
        refine ev_at (st' := [.int v1, .int v_7, va_rf (some a_10)]) rfl (by rw [ea_10]) ?_
        obtain ⟨c_11, h⟩ := x_chk_e h
        obtain ⟨σ_12, eσ_12, h⟩ := x_let_e h
        refine ev_iast_31 c_11.1 c_11.2.1 (hP.2.2.2.1 ▸ c_11.2.2) dX12_takeInstance_103 (eσ_12 ▸ ?_)
        refine ev_aload_n (j := 0) (x := (some a0)) dX12_takeInstance_104 rfl rfl ?_
        obtain ⟨c_13, h⟩ := x_chk_e h
        refine ev_get (C := RX12) (T := TX12) (k := 26) inX12 (xE_12 c_13) rfl (by decide) wd_174 (Or.inl rfl) rfl dX12_takeInstance_105 ?_
        refine ev_aload_n (j := 0) (x := (some a0)) dX12_takeInstance_108 rfl rfl ?_
        refine ev_iload_n (j := 2) (x := v2) dX12_takeInstance_109 rfl rfl ?_
        rcases x_bind_e h with ⟨v_14, σ_15, h_16, h⟩ | ⟨E_51, σ_15, h_16, h⟩
        · have z9 := x_call (M := mX12_takeInstance) (M' := mX12_insCell) (pc := 110) (st := [.int v2, va_rf (some a0), va_rf (σ_12.R 1126 a0)]) (rest := [va_rf (σ_12.R 1126 a0)]) (av := [va_rf (some a0), .int v2]) (x_linkV (M := mX12_takeInstance) (M' := mX12_insCell) (As := [.int v2]) (index := 221) (C := RX12) (T := TX12) (xE_12 c_13) rfl wd_718 wd_719 (wG_in (List.mem_append_left _ (List.mem_of_getElem? (i := 66) rfl)) rfl) xw_X12_insCell rfl (by decide) rfl rfl dX12_takeInstance_110) (ev_X12_insCell hO hP h_16) xw_X12_insCell rfl wd_198 dX12_takeInstance_110 (by decide) (by decide) (by simp [x_cat, x_catI, x_catJ])
          refine x_callR z9 ?_
          refine ev_at (st' := [.int v_14, va_rf (σ_12.R 1126 a0)]) rfl rfl ?_
          refine ev_aload_n (j := 0) (x := (some a0)) dX12_takeInstance_113 rfl rfl ?_
          obtain ⟨c_17, h⟩ := x_chk_e h
          refine ev_get (C := RX12) (T := TX12) (k := 36) inX12 (xE_12 c_17) rfl (by decide) wd_646 (Or.inl rfl) rfl dX12_takeInstance_114 ?_
          obtain ⟨a_18, ea_18, h⟩ := x_some_e h
          refine ev_at (st' := [.int (σ_15.I 1136 a0), .int v_14, va_rf (some a_18)]) rfl (by rw [ea_18]) ?_
          obtain ⟨c_19, h⟩ := x_chk_e h
          obtain ⟨σ_20, eσ_20, h⟩ := x_let_e h
          refine ev_iast_31 c_19.1 c_19.2.1 (hP.2.2.2.1 ▸ c_19.2.2) dX12_takeInstance_117 (eσ_20 ▸ ?_)
          refine ev_aload_n (j := 0) (x := (some a0)) dX12_takeInstance_118 rfl rfl ?_
          obtain ⟨c_21, h⟩ := x_chk_e h
          refine ev_get (C := RX12) (T := TX12) (k := 27) inX12 (xE_12 c_21) rfl (by decide) wd_175 (Or.inl rfl) rfl dX12_takeInstance_119 ?_
          refine ev_aload_n (j := 0) (x := (some a0)) dX12_takeInstance_122 rfl rfl ?_
          refine ev_iload_n (j := 2) (x := v2) dX12_takeInstance_123 rfl rfl ?_
          rcases x_bind_e h with ⟨v_22, σ_23, h_24, h⟩ | ⟨E_50, σ_23, h_24, h⟩
          · have z9 := x_call (M := mX12_takeInstance) (M' := mX12_insCell) (pc := 124) (st := [.int v2, va_rf (some a0), va_rf (σ_20.R 1127 a0)]) (rest := [va_rf (σ_20.R 1127 a0)]) (av := [va_rf (some a0), .int v2]) (x_linkV (M := mX12_takeInstance) (M' := mX12_insCell) (As := [.int v2]) (index := 221) (C := RX12) (T := TX12) (xE_12 c_21) rfl wd_718 wd_719 (wG_in (List.mem_append_left _ (List.mem_of_getElem? (i := 66) rfl)) rfl) xw_X12_insCell rfl (by decide) rfl rfl dX12_takeInstance_124) (ev_X12_insCell hO hP h_24) xw_X12_insCell rfl wd_198 dX12_takeInstance_124 (by decide) (by decide) (by simp [x_cat, x_catI, x_catJ])
            refine x_callR z9 ?_
            refine ev_at (st' := [.int v_22, va_rf (σ_20.R 1127 a0)]) rfl rfl ?_
            refine ev_iconst (v := 0) dX12_takeInstance_127 (by decide) ?_
            obtain ⟨a_25, ea_25, h⟩ := x_some_e h
            refine ev_at (st' := [.int 0, .int v_22, va_rf (some a_25)]) rfl (by rw [ea_25]) ?_
            obtain ⟨c_26, h⟩ := x_chk_e h
            obtain ⟨σ_27, eσ_27, h⟩ := x_let_e h
            refine ev_zast_33 c_26.1 c_26.2.1 (hP.2.2.2.1 ▸ c_26.2.2.1) (x_boolN c_26.2.2.2) dX12_takeInstance_128 (eσ_27 ▸ ?_)
            refine ev_aload_n (j := 0) (x := (some a0)) dX12_takeInstance_129 rfl rfl ?_
            obtain ⟨c_28, h⟩ := x_chk_e h
            refine ev_get (C := RX12) (T := TX12) (k := 29) inX12 (xE_12 c_28) rfl (by decide) wd_177 (Or.inl rfl) rfl dX12_takeInstance_130 ?_
            refine ev_aload_n (j := 0) (x := (some a0)) dX12_takeInstance_133 rfl rfl ?_
            refine ev_iload_n (j := 2) (x := v2) dX12_takeInstance_134 rfl rfl ?_
            rcases x_bind_e h with ⟨v_29, σ_30, h_31, h⟩ | ⟨E_49, σ_30, h_31, h⟩
            · have z9 := x_call (M := mX12_takeInstance) (M' := mX12_insCell) (pc := 135) (st := [.int v2, va_rf (some a0), va_rf (σ_27.R 1129 a0)]) (rest := [va_rf (σ_27.R 1129 a0)]) (av := [va_rf (some a0), .int v2]) (x_linkV (M := mX12_takeInstance) (M' := mX12_insCell) (As := [.int v2]) (index := 221) (C := RX12) (T := TX12) (xE_12 c_28) rfl wd_718 wd_719 (wG_in (List.mem_append_left _ (List.mem_of_getElem? (i := 66) rfl)) rfl) xw_X12_insCell rfl (by decide) rfl rfl dX12_takeInstance_135) (ev_X12_insCell hO hP h_31) xw_X12_insCell rfl wd_198 dX12_takeInstance_135 (by decide) (by decide) (by simp [x_cat, x_catI, x_catJ])
              refine x_callR z9 ?_
              refine ev_at (st' := [.int v_29, va_rf (σ_27.R 1129 a0)]) rfl rfl ?_
              refine ev_iconst (v := 0) dX12_takeInstance_138 (by decide) ?_
              obtain ⟨a_32, ea_32, h⟩ := x_some_e h
              refine ev_at (st' := [.int 0, .int v_29, va_rf (some a_32)]) rfl (by rw [ea_32]) ?_
              obtain ⟨c_33, h⟩ := x_chk_e h
              obtain ⟨σ_34, eσ_34, h⟩ := x_let_e h
              refine ev_iast_31 c_33.1 c_33.2.1 (hP.2.2.2.1 ▸ c_33.2.2) dX12_takeInstance_139 (eσ_34 ▸ ?_)
              refine ev_aload_n (j := 0) (x := (some a0)) dX12_takeInstance_140 rfl rfl ?_
              obtain ⟨c_35, h⟩ := x_chk_e h
              refine ev_get (C := RX12) (T := TX12) (k := 24) inX12 (xE_12 c_35) rfl (by decide) wd_172 (Or.inl rfl) rfl dX12_takeInstance_141 ?_
              refine ev_aload_n (j := 0) (x := (some a0)) dX12_takeInstance_144 rfl rfl ?_
              rcases x_bind_e h with ⟨v_36, σ_37, h_38, h⟩ | ⟨E_48, σ_37, h_38, h⟩
              · have z9 := x_call (M := mX12_takeInstance) (M' := mX12_mod) (pc := 145) (st := [va_rf (some a0), va_rf (σ_34.R 1124 a0)]) (rest := [va_rf (σ_34.R 1124 a0)]) (av := [va_rf (some a0)]) (x_linkV (M := mX12_takeInstance) (M' := mX12_mod) (As := []) (index := 175) (C := RX12) (T := TX12) (xE_12 c_35) rfl wd_676 wd_677 (wG_in (List.mem_append_left _ (List.mem_of_getElem? (i := 48) rfl)) rfl) xw_X12_mod rfl (by decide) rfl rfl dX12_takeInstance_145) (ev_X12_mod hO hP h_38) xw_X12_mod rfl wd_198 dX12_takeInstance_145 (by decide) (by decide) (by simp [x_cat, x_catI, x_catJ])
                refine x_callR z9 ?_
                refine ev_at (st' := [.int v_36, va_rf (σ_34.R 1124 a0)]) rfl rfl ?_
                refine ev_dup2_11 dX12_takeInstance_148 rfl (x_cat _) ?_
                obtain ⟨a_39, ea_39, h⟩ := x_some_e h
                refine ev_at (st' := [.int v_36, va_rf (some a_39), .int v_36, va_rf (σ_34.R 1124 a0)]) rfl (by rw [ea_39]) ?_
                obtain ⟨c_40, h⟩ := x_chk_e h
                refine ev_iald_31 c_40.1 c_40.2 dX12_takeInstance_149 ?_
                refine ev_iconst (v := 1) dX12_takeInstance_150 (by decide) ?_
                refine ev_iadd (x := (σ_37.AI a_39 (Int32.toNatClampNeg v_36))) (y := 1) dX12_takeInstance_151 ?_
                refine ev_at (st' := [.int ((σ_37.AI a_39 (Int32.toNatClampNeg v_36)) + 1), .int v_36, va_rf (some a_39)]) rfl (by rw [ea_39]) ?_
                obtain ⟨c_41, h⟩ := x_chk_e h
                obtain ⟨σ_42, eσ_42, h⟩ := x_let_e h
                refine ev_iast_31 c_41.1 c_41.2.1 (hP.2.2.2.1 ▸ c_41.2.2) dX12_takeInstance_152 (eσ_42 ▸ ?_)
                refine ev_aload_n (j := 0) (x := (some a0)) dX12_takeInstance_153 rfl rfl ?_
                obtain ⟨c_46, h⟩ := x_chk_e h
                rcases x_bind_e h with ⟨v_43, σ_44, h_45, h⟩ | ⟨E_47, σ_44, h_45, h⟩
                · have z9 := x_call (M := mX12_takeInstance) (M' := mX12_next) (pc := 154) (st := [va_rf (some a0)]) (rest := []) (av := [va_rf (some a0)]) (x_linkV (M := mX12_takeInstance) (M' := mX12_next) (As := []) (index := 169) (C := RX12) (T := TX12) (xE_12 c_46) rfl wd_679 wd_680 (wG_in (List.mem_append_left _ (List.mem_of_getElem? (i := 36) rfl)) rfl) xw_X12_next rfl (by decide) rfl rfl dX12_takeInstance_154) (ev_X12_next hO hP h_45) xw_X12_next rfl wd_198 dX12_takeInstance_154 (by decide) (by decide) (by simp [x_cat, x_catI, x_catJ])
                  refine x_callR z9 ?_
                  refine ev_at (st' := []) rfl rfl ?_
                  refine ev_iload_n (j := 2) (x := v2) dX12_takeInstance_157 rfl rfl ?_
                  cases h
                  exact ev_iret rfl rfl dX12_takeInstance_158
                · have z9 := x_call (M := mX12_takeInstance) (M' := mX12_next) (pc := 154) (st := [va_rf (some a0)]) (rest := []) (av := [va_rf (some a0)]) (x_linkV (M := mX12_takeInstance) (M' := mX12_next) (As := []) (index := 169) (C := RX12) (T := TX12) (xE_12 c_46) rfl wd_679 wd_680 (wG_in (List.mem_append_left _ (List.mem_of_getElem? (i := 36) rfl)) rfl) xw_X12_next rfl (by decide) rfl rfl dX12_takeInstance_154) (ev_X12_next hO hP h_45) xw_X12_next rfl wd_198 dX12_takeInstance_154 (by decide) (by decide) (by simp [x_cat, x_catI, x_catJ])
                  cases h
                  exact x_callX z9 (evX_out rfl)
              · have z9 := x_call (M := mX12_takeInstance) (M' := mX12_mod) (pc := 145) (st := [va_rf (some a0), va_rf (σ_34.R 1124 a0)]) (rest := [va_rf (σ_34.R 1124 a0)]) (av := [va_rf (some a0)]) (x_linkV (M := mX12_takeInstance) (M' := mX12_mod) (As := []) (index := 175) (C := RX12) (T := TX12) (xE_12 c_35) rfl wd_676 wd_677 (wG_in (List.mem_append_left _ (List.mem_of_getElem? (i := 48) rfl)) rfl) xw_X12_mod rfl (by decide) rfl rfl dX12_takeInstance_145) (ev_X12_mod hO hP h_38) xw_X12_mod rfl wd_198 dX12_takeInstance_145 (by decide) (by decide) (by simp [x_cat, x_catI, x_catJ])
                cases h
                exact x_callX z9 (evX_out rfl)
            · have z9 := x_call (M := mX12_takeInstance) (M' := mX12_insCell) (pc := 135) (st := [.int v2, va_rf (some a0), va_rf (σ_27.R 1129 a0)]) (rest := [va_rf (σ_27.R 1129 a0)]) (av := [va_rf (some a0), .int v2]) (x_linkV (M := mX12_takeInstance) (M' := mX12_insCell) (As := [.int v2]) (index := 221) (C := RX12) (T := TX12) (xE_12 c_28) rfl wd_718 wd_719 (wG_in (List.mem_append_left _ (List.mem_of_getElem? (i := 66) rfl)) rfl) xw_X12_insCell rfl (by decide) rfl rfl dX12_takeInstance_135) (ev_X12_insCell hO hP h_31) xw_X12_insCell rfl wd_198 dX12_takeInstance_135 (by decide) (by decide) (by simp [x_cat, x_catI, x_catJ])
              cases h
              exact x_callX z9 (evX_out rfl)
          · have z9 := x_call (M := mX12_takeInstance) (M' := mX12_insCell) (pc := 124) (st := [.int v2, va_rf (some a0), va_rf (σ_20.R 1127 a0)]) (rest := [va_rf (σ_20.R 1127 a0)]) (av := [va_rf (some a0), .int v2]) (x_linkV (M := mX12_takeInstance) (M' := mX12_insCell) (As := [.int v2]) (index := 221) (C := RX12) (T := TX12) (xE_12 c_21) rfl wd_718 wd_719 (wG_in (List.mem_append_left _ (List.mem_of_getElem? (i := 66) rfl)) rfl) xw_X12_insCell rfl (by decide) rfl rfl dX12_takeInstance_124) (ev_X12_insCell hO hP h_24) xw_X12_insCell rfl wd_198 dX12_takeInstance_124 (by decide) (by decide) (by simp [x_cat, x_catI, x_catJ])
            cases h
            exact x_callX z9 (evX_out rfl)
        · have z9 := x_call (M := mX12_takeInstance) (M' := mX12_insCell) (pc := 110) (st := [.int v2, va_rf (some a0), va_rf (σ_12.R 1126 a0)]) (rest := [va_rf (σ_12.R 1126 a0)]) (av := [va_rf (some a0), .int v2]) (x_linkV (M := mX12_takeInstance) (M' := mX12_insCell) (As := [.int v2]) (index := 221) (C := RX12) (T := TX12) (xE_12 c_13) rfl wd_718 wd_719 (wG_in (List.mem_append_left _ (List.mem_of_getElem? (i := 66) rfl)) rfl) xw_X12_insCell rfl (by decide) rfl rfl dX12_takeInstance_110) (ev_X12_insCell hO hP h_16) xw_X12_insCell rfl wd_198 dX12_takeInstance_110 (by decide) (by decide) (by simp [x_cat, x_catI, x_catJ])
          cases h
          exact x_callX z9 (evX_out rfl)
      · have z9 := x_call (M := mX12_takeInstance) (M' := mX12_insCell) (pc := 99) (st := [.int v2, va_rf (some a0), va_rf (σ_2.R 1125 a0)]) (rest := [va_rf (σ_2.R 1125 a0)]) (av := [va_rf (some a0), .int v2]) (x_linkV (M := mX12_takeInstance) (M' := mX12_insCell) (As := [.int v2]) (index := 221) (C := RX12) (T := TX12) (xE_12 c_6) rfl wd_718 wd_719 (wG_in (List.mem_append_left _ (List.mem_of_getElem? (i := 66) rfl)) rfl) xw_X12_insCell rfl (by decide) rfl rfl dX12_takeInstance_99) (ev_X12_insCell hO hP h_9) xw_X12_insCell rfl wd_198 dX12_takeInstance_99 (by decide) (by decide) (by simp [x_cat, x_catI, x_catJ])
        cases h
        exact x_callX z9 (evX_out rfl)
  · have z9 := x_call (M := mX12_takeInstance) (M' := mX12_ok) (pc := 85) (st := [va_rf (some a0)]) (rest := []) (av := [va_rf (some a0)]) (x_linkV (M := mX12_takeInstance) (M' := mX12_ok) (As := []) (index := 121) (C := RX12) (T := TX12) (xE_12 c_4) rfl wd_640 wd_641 (wG_in (List.mem_append_left _ (List.mem_of_getElem? (i := 37) rfl)) rfl) xw_X12_ok rfl (by decide) rfl rfl dX12_takeInstance_85) (ev_X12_ok hO hP h_3) xw_X12_ok rfl wd_198 dX12_takeInstance_85 (by decide) (by decide) (by simp [x_cat, x_catI, x_catJ])
    cases h
    exact x_callX z9 (evX_out rfl)
set_option maxHeartbeats 4000000 in
set_option maxRecDepth 100000 in
theorem ev_X12_takeInstance_p63 {l : Launch} {G : xG} (hO : x_OK l G) {P : xP} (hP : x_PG P G) {a0 : Nat} {v1 : Int32} {v2 : Int32} {σ σ' : xS} {rr : Int32 ⊕ String} (h : dm_X12_takeInstance_p63 P a0 v1 v2 σ = some (rr, σ')) : Ev l G mX12_takeInstance 63 [(0, va_rf (some a0)), (1, .int v1), (2, .int v2)] [] σ (xrI rr) σ' := by
  unfold dm_X12_takeInstance_p63 at h
  refine ev_aload_n (j := 0) (x := (some a0)) dX12_takeInstance_63 rfl rfl ?_
  obtain ⟨c_4, h⟩ := x_chk_e h
  rcases x_bind_e h with ⟨v_1, σ_2, h_3, h⟩ | ⟨E_12, σ_2, h_3, h⟩
  · have z9 := x_call (M := mX12_takeInstance) (M' := mX12_ok) (pc := 64) (st := [va_rf (some a0)]) (rest := []) (av := [va_rf (some a0)]) (x_linkV (M := mX12_takeInstance) (M' := mX12_ok) (As := []) (index := 121) (C := RX12) (T := TX12) (xE_12 c_4) rfl wd_640 wd_641 (wG_in (List.mem_append_left _ (List.mem_of_getElem? (i := 37) rfl)) rfl) xw_X12_ok rfl (by decide) rfl rfl dX12_takeInstance_64) (ev_X12_ok hO hP h_3) xw_X12_ok rfl wd_198 dX12_takeInstance_64 (by decide) (by decide) (by simp [x_cat, x_catI, x_catJ])
    refine x_callR z9 ?_
    refine ev_at (st' := [.int v_1]) rfl rfl ?_
    by_cases c_5 : v_1 = 0
    · rw [if_pos c_5] at h
      refine ev_if_eq (x := v_1) (tgt := 84) dX12_takeInstance_67 (by decide) (fun _ => ?_) (fun q9 => absurd c_5 q9)
      exact ev_sub [0, 1, 2] rfl (ev_X12_takeInstance_p84 hO hP h)
    · rw [if_neg c_5] at h
      refine ev_if_eq (x := v_1) (tgt := 84) dX12_takeInstance_67 (by decide) (fun q9 => absurd q9 c_5) (fun _ => ?_)
      refine ev_iload_n (j := 2) (x := v2) dX12_takeInstance_70 rfl rfl ?_
      refine ev_bipush (v := 12) dX12_takeInstance_71 (by decide) ?_
      by_cases c_6 : v2 = 12
      · rw [if_pos c_6] at h
        refine ev_icmp_ne (x := v2) (y := 12) (tgt := 84) dX12_takeInstance_73 (by decide) (fun q9 => absurd c_6 q9) (fun _ => ?_)
        refine ev_aload_n (j := 0) (x := (some a0)) dX12_takeInstance_76 rfl rfl ?_
        refine ev_aload_n (j := 0) (x := (some a0)) dX12_takeInstance_77 rfl rfl ?_
        obtain ⟨c_7, h⟩ := x_chk_e h
        refine ev_get (C := RX12) (T := TX12) (k := 36) inX12 (xE_12 c_7) rfl (by decide) wd_646 (Or.inl rfl) rfl dX12_takeInstance_78 ?_
        rcases x_bind_e h with ⟨v_8, σ_9, h_10, h⟩ | ⟨E_11, σ_9, h_10, h⟩
        · have z9 := x_call (M := mX12_takeInstance) (M' := mX12_fail) (pc := 81) (st := [.int (σ_2.I 1136 a0), va_rf (some a0)]) (rest := []) (av := [va_rf (some a0), .int (σ_2.I 1136 a0)]) (x_linkV (M := mX12_takeInstance) (M' := mX12_fail) (As := [.int (σ_2.I 1136 a0)]) (index := 150) (C := RX12) (T := TX12) (xE_12 c_7) rfl wd_657 wd_658 (wG_in (List.mem_append_left _ (List.mem_of_getElem? (i := 39) rfl)) rfl) xw_X12_fail rfl (by decide) rfl rfl dX12_takeInstance_81) (ev_X12_fail hO hP h_10) xw_X12_fail rfl wd_198 dX12_takeInstance_81 (by decide) (by decide) (by simp [x_cat, x_catI, x_catJ])
          refine x_callR z9 ?_
          refine ev_at (st' := []) rfl rfl ?_
          exact ev_sub [0, 1, 2] rfl (ev_X12_takeInstance_p84 hO hP h)
        · have z9 := x_call (M := mX12_takeInstance) (M' := mX12_fail) (pc := 81) (st := [.int (σ_2.I 1136 a0), va_rf (some a0)]) (rest := []) (av := [va_rf (some a0), .int (σ_2.I 1136 a0)]) (x_linkV (M := mX12_takeInstance) (M' := mX12_fail) (As := [.int (σ_2.I 1136 a0)]) (index := 150) (C := RX12) (T := TX12) (xE_12 c_7) rfl wd_657 wd_658 (wG_in (List.mem_append_left _ (List.mem_of_getElem? (i := 39) rfl)) rfl) xw_X12_fail rfl (by decide) rfl rfl dX12_takeInstance_81) (ev_X12_fail hO hP h_10) xw_X12_fail rfl wd_198 dX12_takeInstance_81 (by decide) (by decide) (by simp [x_cat, x_catI, x_catJ])
          cases h
          exact x_callX z9 (evX_out rfl)
      · rw [if_neg c_6] at h
        refine ev_icmp_ne (x := v2) (y := 12) (tgt := 84) dX12_takeInstance_73 (by decide) (fun _ => ?_) (fun q9 => absurd q9 c_6)
        exact ev_sub [0, 1, 2] rfl (ev_X12_takeInstance_p84 hO hP h)
  · have z9 := x_call (M := mX12_takeInstance) (M' := mX12_ok) (pc := 64) (st := [va_rf (some a0)]) (rest := []) (av := [va_rf (some a0)]) (x_linkV (M := mX12_takeInstance) (M' := mX12_ok) (As := []) (index := 121) (C := RX12) (T := TX12) (xE_12 c_4) rfl wd_640 wd_641 (wG_in (List.mem_append_left _ (List.mem_of_getElem? (i := 37) rfl)) rfl) xw_X12_ok rfl (by decide) rfl rfl dX12_takeInstance_64) (ev_X12_ok hO hP h_3) xw_X12_ok rfl wd_198 dX12_takeInstance_64 (by decide) (by decide) (by simp [x_cat, x_catI, x_catJ])
    cases h
    exact x_callX z9 (evX_out rfl)
set_option maxHeartbeats 4000000 in
set_option maxRecDepth 100000 in
theorem ev_X12_takeInstance_L16 {l : Launch} {G : xG} (hO : x_OK l G) {P : xP} (hP : x_PG P G) {a0 : Nat} : ∀ (n : Nat) {v1 : Int32} {v2 : Int32} {v3 : Int32} {σ σ' : xS} {rr : Int32 ⊕ String}, dm_X12_takeInstance_L16 P a0 n v1 v2 v3 σ = some (rr, σ') → Ev l G mX12_takeInstance 16 [(0, va_rf (some a0)), (1, .int v1), (2, .int v2), (3, .int v3)] [] σ (xrI rr) σ' := by
  intro n
  induction n with
  | zero => intro v1 v2 v3 σ σ' rr h; cases h
  | succ n ih =>
    intro v1 v2 v3 σ σ' rr h
    rw [dm_X12_takeInstance_L16] at h
    refine ev_iload_n (j := 3) (x := v3) dX12_takeInstance_16 rfl rfl ?_
    refine ev_iload_n (j := 2) (x := v2) dX12_takeInstance_17 rfl rfl ?_
    by_cases c_1 : v2 ≤ v3
    · rw [if_pos c_1] at h
      refine ev_icmp_ge (x := v3) (y := v2) (tgt := 63) dX12_takeInstance_18 (by decide) (fun _ => ?_) (fun q9 => absurd c_1 q9)
      exact ev_sub [0, 1, 2] rfl (ev_X12_takeInstance_p63 hO hP h)
    · rw [if_neg c_1] at h
      refine ev_icmp_ge (x := v3) (y := v2) (tgt := 63) dX12_takeInstance_18 (by decide) (fun q9 => absurd q9 c_1) (fun _ => ?_)
      refine ev_aload_n (j := 0) (x := (some a0)) dX12_takeInstance_21 rfl rfl ?_
      obtain ⟨c_5, h⟩ := x_chk_e h
      rcases x_bind_e h with ⟨v_2, σ_3, h_4, h⟩ | ⟨E_25, σ_3, h_4, h⟩
      · have z9 := x_call (M := mX12_takeInstance) (M' := mX12_ok) (pc := 22) (st := [va_rf (some a0)]) (rest := []) (av := [va_rf (some a0)]) (x_linkV (M := mX12_takeInstance) (M' := mX12_ok) (As := []) (index := 121) (C := RX12) (T := TX12) (xE_12 c_5) rfl wd_640 wd_641 (wG_in (List.mem_append_left _ (List.mem_of_getElem? (i := 37) rfl)) rfl) xw_X12_ok rfl (by decide) rfl rfl dX12_takeInstance_22) (ev_X12_ok hO hP h_4) xw_X12_ok rfl wd_198 dX12_takeInstance_22 (by decide) (by decide) (by simp [x_cat, x_catI, x_catJ])
        refine x_callR z9 ?_
        refine ev_at (st' := [.int v_2]) rfl rfl ?_
        by_cases c_6 : v_2 = 0
        · rw [if_pos c_6] at h
          refine ev_if_eq (x := v_2) (tgt := 63) dX12_takeInstance_25 (by decide) (fun _ => ?_) (fun q9 => absurd c_6 q9)
          exact ev_sub [0, 1, 2] rfl (ev_X12_takeInstance_p63 hO hP h)
        · rw [if_neg c_6] at h
          refine ev_if_eq (x := v_2) (tgt := 63) dX12_takeInstance_25 (by decide) (fun q9 => absurd q9 c_6) (fun _ => ?_)
          refine ev_aload_n (j := 0) (x := (some a0)) dX12_takeInstance_28 rfl rfl ?_
          refine ev_aload_n (j := 0) (x := (some a0)) dX12_takeInstance_29 rfl rfl ?_
          obtain ⟨c_7, h⟩ := x_chk_e h
          refine ev_get (C := RX12) (T := TX12) (k := 26) inX12 (xE_12 c_7) rfl (by decide) wd_174 (Or.inl rfl) rfl dX12_takeInstance_30 ?_
          refine ev_aload_n (j := 0) (x := (some a0)) dX12_takeInstance_33 rfl rfl ?_
          refine ev_iload_n (j := 3) (x := v3) dX12_takeInstance_34 rfl rfl ?_
          rcases x_bind_e h with ⟨v_8, σ_9, h_10, h⟩ | ⟨E_24, σ_9, h_10, h⟩
          · have z9 := x_call (M := mX12_takeInstance) (M' := mX12_insCell) (pc := 35) (st := [.int v3, va_rf (some a0), va_rf (σ_3.R 1126 a0), va_rf (some a0)]) (rest := [va_rf (σ_3.R 1126 a0), va_rf (some a0)]) (av := [va_rf (some a0), .int v3]) (x_linkV (M := mX12_takeInstance) (M' := mX12_insCell) (As := [.int v3]) (index := 221) (C := RX12) (T := TX12) (xE_12 c_7) rfl wd_718 wd_719 (wG_in (List.mem_append_left _ (List.mem_of_getElem? (i := 66) rfl)) rfl) xw_X12_insCell rfl (by decide) rfl rfl dX12_takeInstance_35) (ev_X12_insCell hO hP h_10) xw_X12_insCell rfl wd_198 dX12_takeInstance_35 (by decide) (by decide) (by simp [x_cat, x_catI, x_catJ])
            refine x_callR z9 ?_
            refine ev_at (st' := [.int v_8, va_rf (σ_3.R 1126 a0), va_rf (some a0)]) rfl rfl ?_
            obtain ⟨a_11, ea_11, h⟩ := x_some_e h
            refine ev_at (st' := [.int v_8, va_rf (some a_11), va_rf (some a0)]) rfl (by rw [ea_11]) ?_
            obtain ⟨c_12, h⟩ := x_chk_e h
            refine ev_iald_31 c_12.1 c_12.2 dX12_takeInstance_38 ?_
            refine ev_aload_n (j := 0) (x := (some a0)) dX12_takeInstance_39 rfl rfl ?_
            obtain ⟨c_13, h⟩ := x_chk_e h
            refine ev_get (C := RX12) (T := TX12) (k := 36) inX12 (xE_12 c_13) rfl (by decide) wd_646 (Or.inl rfl) rfl dX12_takeInstance_40 ?_
            rcases x_bind_e h with ⟨v_14, σ_15, h_16, h⟩ | ⟨E_23, σ_15, h_16, h⟩
            · have z9 := x_call (M := mX12_takeInstance) (M' := mX12_areSame) (pc := 43) (st := [.int (σ_9.I 1136 a0), .int (σ_9.AI a_11 (Int32.toNatClampNeg v_8)), va_rf (some a0)]) (rest := []) (av := [va_rf (some a0), .int (σ_9.AI a_11 (Int32.toNatClampNeg v_8)), .int (σ_9.I 1136 a0)]) (x_linkV (M := mX12_takeInstance) (M' := mX12_areSame) (As := [.int (σ_9.AI a_11 (Int32.toNatClampNeg v_8)), .int (σ_9.I 1136 a0)]) (index := 181) (C := RX12) (T := TX12) (xE_12 c_13) rfl wd_673 wd_674 (wG_in (List.mem_append_left _ (List.mem_of_getElem? (i := 46) rfl)) rfl) xw_X12_areSame rfl (by decide) rfl rfl dX12_takeInstance_43) (ev_X12_areSame hO hP h_16) xw_X12_areSame rfl wd_198 dX12_takeInstance_43 (by decide) (by decide) (by simp [x_cat, x_catI, x_catJ])
              refine x_callR z9 ?_
              refine ev_at (st' := [.int v_14]) rfl rfl ?_
              by_cases c_17 : v_14 = 0
              · rw [if_pos c_17] at h
                refine ev_if_eq (x := v_14) (tgt := 57) dX12_takeInstance_46 (by decide) (fun _ => ?_) (fun q9 => absurd c_17 q9)
                exact ev_sub [0, 1, 2, 3] rfl (ev_X12_takeInstance_p57 hO hP ih h)
              · rw [if_neg c_17] at h
                refine ev_if_eq (x := v_14) (tgt := 57) dX12_takeInstance_46 (by decide) (fun q9 => absurd q9 c_17) (fun _ => ?_)
                refine ev_aload_n (j := 0) (x := (some a0)) dX12_takeInstance_49 rfl rfl ?_
                refine ev_aload_n (j := 0) (x := (some a0)) dX12_takeInstance_50 rfl rfl ?_
                obtain ⟨c_18, h⟩ := x_chk_e h
                refine ev_get (C := RX12) (T := TX12) (k := 36) inX12 (xE_12 c_18) rfl (by decide) wd_646 (Or.inl rfl) rfl dX12_takeInstance_51 ?_
                rcases x_bind_e h with ⟨v_19, σ_20, h_21, h⟩ | ⟨E_22, σ_20, h_21, h⟩
                · have z9 := x_call (M := mX12_takeInstance) (M' := mX12_fail) (pc := 54) (st := [.int (σ_15.I 1136 a0), va_rf (some a0)]) (rest := []) (av := [va_rf (some a0), .int (σ_15.I 1136 a0)]) (x_linkV (M := mX12_takeInstance) (M' := mX12_fail) (As := [.int (σ_15.I 1136 a0)]) (index := 150) (C := RX12) (T := TX12) (xE_12 c_18) rfl wd_657 wd_658 (wG_in (List.mem_append_left _ (List.mem_of_getElem? (i := 39) rfl)) rfl) xw_X12_fail rfl (by decide) rfl rfl dX12_takeInstance_54) (ev_X12_fail hO hP h_21) xw_X12_fail rfl wd_198 dX12_takeInstance_54 (by decide) (by decide) (by simp [x_cat, x_catI, x_catJ])
                  refine x_callR z9 ?_
                  refine ev_at (st' := []) rfl rfl ?_
                  exact ev_sub [0, 1, 2, 3] rfl (ev_X12_takeInstance_p57 hO hP ih h)
                · have z9 := x_call (M := mX12_takeInstance) (M' := mX12_fail) (pc := 54) (st := [.int (σ_15.I 1136 a0), va_rf (some a0)]) (rest := []) (av := [va_rf (some a0), .int (σ_15.I 1136 a0)]) (x_linkV (M := mX12_takeInstance) (M' := mX12_fail) (As := [.int (σ_15.I 1136 a0)]) (index := 150) (C := RX12) (T := TX12) (xE_12 c_18) rfl wd_657 wd_658 (wG_in (List.mem_append_left _ (List.mem_of_getElem? (i := 39) rfl)) rfl) xw_X12_fail rfl (by decide) rfl rfl dX12_takeInstance_54) (ev_X12_fail hO hP h_21) xw_X12_fail rfl wd_198 dX12_takeInstance_54 (by decide) (by decide) (by simp [x_cat, x_catI, x_catJ])
                  cases h
                  exact x_callX z9 (evX_out rfl)
            · have z9 := x_call (M := mX12_takeInstance) (M' := mX12_areSame) (pc := 43) (st := [.int (σ_9.I 1136 a0), .int (σ_9.AI a_11 (Int32.toNatClampNeg v_8)), va_rf (some a0)]) (rest := []) (av := [va_rf (some a0), .int (σ_9.AI a_11 (Int32.toNatClampNeg v_8)), .int (σ_9.I 1136 a0)]) (x_linkV (M := mX12_takeInstance) (M' := mX12_areSame) (As := [.int (σ_9.AI a_11 (Int32.toNatClampNeg v_8)), .int (σ_9.I 1136 a0)]) (index := 181) (C := RX12) (T := TX12) (xE_12 c_13) rfl wd_673 wd_674 (wG_in (List.mem_append_left _ (List.mem_of_getElem? (i := 46) rfl)) rfl) xw_X12_areSame rfl (by decide) rfl rfl dX12_takeInstance_43) (ev_X12_areSame hO hP h_16) xw_X12_areSame rfl wd_198 dX12_takeInstance_43 (by decide) (by decide) (by simp [x_cat, x_catI, x_catJ])
              cases h
              exact x_callX z9 (evX_out rfl)
          · have z9 := x_call (M := mX12_takeInstance) (M' := mX12_insCell) (pc := 35) (st := [.int v3, va_rf (some a0), va_rf (σ_3.R 1126 a0), va_rf (some a0)]) (rest := [va_rf (σ_3.R 1126 a0), va_rf (some a0)]) (av := [va_rf (some a0), .int v3]) (x_linkV (M := mX12_takeInstance) (M' := mX12_insCell) (As := [.int v3]) (index := 221) (C := RX12) (T := TX12) (xE_12 c_7) rfl wd_718 wd_719 (wG_in (List.mem_append_left _ (List.mem_of_getElem? (i := 66) rfl)) rfl) xw_X12_insCell rfl (by decide) rfl rfl dX12_takeInstance_35) (ev_X12_insCell hO hP h_10) xw_X12_insCell rfl wd_198 dX12_takeInstance_35 (by decide) (by decide) (by simp [x_cat, x_catI, x_catJ])
            cases h
            exact x_callX z9 (evX_out rfl)
      · have z9 := x_call (M := mX12_takeInstance) (M' := mX12_ok) (pc := 22) (st := [va_rf (some a0)]) (rest := []) (av := [va_rf (some a0)]) (x_linkV (M := mX12_takeInstance) (M' := mX12_ok) (As := []) (index := 121) (C := RX12) (T := TX12) (xE_12 c_5) rfl wd_640 wd_641 (wG_in (List.mem_append_left _ (List.mem_of_getElem? (i := 37) rfl)) rfl) xw_X12_ok rfl (by decide) rfl rfl dX12_takeInstance_22) (ev_X12_ok hO hP h_4) xw_X12_ok rfl wd_198 dX12_takeInstance_22 (by decide) (by decide) (by simp [x_cat, x_catI, x_catJ])
        cases h
        exact x_callX z9 (evX_out rfl)
set_option maxHeartbeats 4000000 in
set_option maxRecDepth 100000 in
theorem ev_X12_takeInstance {l : Launch} {G : xG} (hO : x_OK l G) {P : xP} (hP : x_PG P G) {a0 : Nat} {v1 : Int32} {σ σ' : xS} {rr : Int32 ⊕ String} (h : dm_X12_takeInstance P a0 v1 σ = some (rr, σ')) : EvM l G mX12_takeInstance [va_rf (some a0), .int v1] σ (xrI rr) σ' := by
  unfold dm_X12_takeInstance at h
  refine evM_of hO (by decide +kernel) (x_lenI (by simp [x_cat, x_catI, x_catJ, mX12_takeInstance, xM.maxL])) ?_
  refine Eq.mp (congrArg (fun z => Ev l G mX12_takeInstance 0 z [] σ (xrI rr) σ') (show [(0, va_rf (some a0)), (1, .int v1)] = lv_args 0 [va_rf (some a0), .int v1] by simp [lv_args, x_cat, x_catI, x_catJ])) ?_
  refine ev_aload_n (j := 0) (x := (some a0)) dX12_takeInstance_0 rfl rfl ?_
  obtain ⟨c_4, h⟩ := x_chk_e h
  rcases x_bind_e h with ⟨v_1, σ_2, h_3, h⟩ | ⟨E_13, σ_2, h_3, h⟩
  · have z9 := x_call (M := mX12_takeInstance) (M' := mX12_needName) (pc := 1) (st := [va_rf (some a0)]) (rest := []) (av := [va_rf (some a0)]) (x_linkV (M := mX12_takeInstance) (M' := mX12_needName) (As := []) (index := 185) (C := RX12) (T := TX12) (xE_12 c_4) rfl wd_670 wd_671 (wG_in (List.mem_append_left _ (List.mem_of_getElem? (i := 45) rfl)) rfl) xw_X12_needName rfl (by decide) rfl rfl dX12_takeInstance_1) (ev_X12_needName hO hP h_3) xw_X12_needName rfl wd_198 dX12_takeInstance_1 (by decide) (by decide) (by simp [x_cat, x_catI, x_catJ])
    refine x_callR z9 ?_
    refine ev_at (st' := []) rfl rfl ?_
    refine ev_aload_n (j := 0) (x := (some a0)) dX12_takeInstance_4 rfl rfl ?_
    obtain ⟨c_5, h⟩ := x_chk_e h
    refine ev_get (C := RX12) (T := TX12) (k := 24) inX12 (xE_12 c_5) rfl (by decide) wd_172 (Or.inl rfl) rfl dX12_takeInstance_5 ?_
    refine ev_aload_n (j := 0) (x := (some a0)) dX12_takeInstance_8 rfl rfl ?_
    rcases x_bind_e h with ⟨v_6, σ_7, h_8, h⟩ | ⟨E_12, σ_7, h_8, h⟩
    · have z9 := x_call (M := mX12_takeInstance) (M' := mX12_mod) (pc := 9) (st := [va_rf (some a0), va_rf (σ_2.R 1124 a0)]) (rest := [va_rf (σ_2.R 1124 a0)]) (av := [va_rf (some a0)]) (x_linkV (M := mX12_takeInstance) (M' := mX12_mod) (As := []) (index := 175) (C := RX12) (T := TX12) (xE_12 c_5) rfl wd_676 wd_677 (wG_in (List.mem_append_left _ (List.mem_of_getElem? (i := 48) rfl)) rfl) xw_X12_mod rfl (by decide) rfl rfl dX12_takeInstance_9) (ev_X12_mod hO hP h_8) xw_X12_mod rfl wd_198 dX12_takeInstance_9 (by decide) (by decide) (by simp [x_cat, x_catI, x_catJ])
      refine x_callR z9 ?_
      refine ev_at (st' := [.int v_6, va_rf (σ_2.R 1124 a0)]) rfl rfl ?_
      obtain ⟨a_9, ea_9, h⟩ := x_some_e h
      refine ev_at (st' := [.int v_6, va_rf (some a_9)]) rfl (by rw [ea_9]) ?_
      obtain ⟨c_10, h⟩ := x_chk_e h
      refine ev_iald_31 c_10.1 c_10.2 dX12_takeInstance_12 ?_
      obtain ⟨v_11, ev_11, h⟩ := x_let_e h
      rw [← ev_11]
      refine ev_istore_n (i := 2) (lv' := [(2, .int v_11), (0, va_rf (some a0)), (1, .int v1)]) dX12_takeInstance_13 rfl (by decide) rfl ?_
      refine ev_iconst (v := 0) dX12_takeInstance_14 (by decide) ?_
      refine ev_istore_n (i := 3) (lv' := [(3, .int 0), (2, .int v_11), (0, va_rf (some a0)), (1, .int v1)]) dX12_takeInstance_15 rfl (by decide) rfl ?_
      exact ev_sub [2, 3, 1, 0] rfl (ev_X12_takeInstance_L16 hO hP P.N h)
    · have z9 := x_call (M := mX12_takeInstance) (M' := mX12_mod) (pc := 9) (st := [va_rf (some a0), va_rf (σ_2.R 1124 a0)]) (rest := [va_rf (σ_2.R 1124 a0)]) (av := [va_rf (some a0)]) (x_linkV (M := mX12_takeInstance) (M' := mX12_mod) (As := []) (index := 175) (C := RX12) (T := TX12) (xE_12 c_5) rfl wd_676 wd_677 (wG_in (List.mem_append_left _ (List.mem_of_getElem? (i := 48) rfl)) rfl) xw_X12_mod rfl (by decide) rfl rfl dX12_takeInstance_9) (ev_X12_mod hO hP h_8) xw_X12_mod rfl wd_198 dX12_takeInstance_9 (by decide) (by decide) (by simp [x_cat, x_catI, x_catJ])
      cases h
      exact x_callX z9 (evX_out rfl)
  · have z9 := x_call (M := mX12_takeInstance) (M' := mX12_needName) (pc := 1) (st := [va_rf (some a0)]) (rest := []) (av := [va_rf (some a0)]) (x_linkV (M := mX12_takeInstance) (M' := mX12_needName) (As := []) (index := 185) (C := RX12) (T := TX12) (xE_12 c_4) rfl wd_670 wd_671 (wG_in (List.mem_append_left _ (List.mem_of_getElem? (i := 45) rfl)) rfl) xw_X12_needName rfl (by decide) rfl rfl dX12_takeInstance_1) (ev_X12_needName hO hP h_3) xw_X12_needName rfl wd_198 dX12_takeInstance_1 (by decide) (by decide) (by simp [x_cat, x_catI, x_catJ])
    cases h
    exact x_callX z9 (evX_out rfl)
set_option maxHeartbeats 4000000 in
set_option maxRecDepth 100000 in
theorem ev_X12_addLink_p32 {l : Launch} {G : xG} (hO : x_OK l G) {P : xP} (hP : x_PG P G) {a0 : Nat} {v2 : Int32} {σ σ' : xS} {rr : Int32 ⊕ String} (h : dm_X12_addLink_p32 P a0 v2 σ = some (rr, σ')) : Ev l G mX12_addLink 32 [(0, va_rf (some a0)), (2, .int v2)] [] σ (xrI rr) σ' := by
  unfold dm_X12_addLink_p32 at h
  refine ev_aload_n (j := 0) (x := (some a0)) dX12_addLink_32 rfl rfl ?_
  obtain ⟨c_4, h⟩ := x_chk_e h
  rcases x_bind_e h with ⟨v_1, σ_2, h_3, h⟩ | ⟨E_26, σ_2, h_3, h⟩
  · have z9 := x_call (M := mX12_addLink) (M' := mX12_ok) (pc := 33) (st := [va_rf (some a0)]) (rest := []) (av := [va_rf (some a0)]) (x_linkV (M := mX12_addLink) (M' := mX12_ok) (As := []) (index := 121) (C := RX12) (T := TX12) (xE_12 c_4) rfl wd_640 wd_641 (wG_in (List.mem_append_left _ (List.mem_of_getElem? (i := 37) rfl)) rfl) xw_X12_ok rfl (by decide) rfl rfl dX12_addLink_33) (ev_X12_ok hO hP h_3) xw_X12_ok rfl wd_198 dX12_addLink_33 (by decide) (by decide) (by simp [x_cat, x_catI, x_catJ])
    refine x_callR z9 ?_
    refine ev_at (st' := [.int v_1]) rfl rfl ?_
    by_cases c_5 : v_1 = 0
    · rw [if_pos c_5] at h
      refine ev_if_ne (x := v_1) (tgt := 41) dX12_addLink_36 (by decide) (fun q9 => absurd c_5 q9) (fun _ => ?_)
      refine ev_iconst (v := -1) dX12_addLink_39 (by decide) ?_
      cases h
      exact ev_iret rfl rfl dX12_addLink_40
    · rw [if_neg c_5] at h
      refine ev_if_ne (x := v_1) (tgt := 41) dX12_addLink_36 (by decide) (fun _ => ?_) (fun q9 => absurd q9 c_5)
      refine ev_bipush (v := 16) dX12_addLink_41 (by decide) ?_
      refine ev_iload_n (j := 1) (x := v2) dX12_addLink_43 rfl rfl ?_
      refine ev_imul (x := 16) (y := v2) dX12_addLink_44 ?_
      refine ev_aload_n (j := 0) (x := (some a0)) dX12_addLink_45 rfl rfl ?_
      obtain ⟨c_6, h⟩ := x_chk_e h
      refine ev_get (C := RX12) (T := TX12) (k := 29) inX12 (xE_12 c_6) rfl (by decide) wd_177 (Or.inl rfl) rfl dX12_addLink_46 ?_
      refine ev_iload_n (j := 1) (x := v2) dX12_addLink_49 rfl rfl ?_
      obtain ⟨a_7, ea_7, h⟩ := x_some_e h
      refine ev_at (st' := [.int v2, va_rf (some a_7), .int (16 * v2)]) rfl (by rw [ea_7]) ?_
      obtain ⟨c_8, h⟩ := x_chk_e h
      refine ev_iald_31 c_8.1 c_8.2 dX12_addLink_50 ?_
      refine ev_iadd (x := (16 * v2)) (y := (σ_2.AI a_7 (Int32.toNatClampNeg v2))) dX12_addLink_51 ?_
      obtain ⟨v_9, ev_9, h⟩ := x_let_e h
      rw [← ev_9]
      refine ev_istore_n (i := 3) (lv' := [(3, .int v_9), (0, va_rf (some a0)), (2, .int v2)]) dX12_addLink_52 rfl (by decide) rfl ?_
      refine ev_aload_n (j := 1) (x := (some a0)) dX12_addLink_53 rfl rfl ?_
      refine ev_get (C := RX12) (T := TX12) (k := 30) inX12 (xE_12 c_6) rfl (by decide) wd_178 (Or.inl rfl) rfl dX12_addLink_54 ?_
      refine ev_iload_n (j := 0) (x := v_9) dX12_addLink_57 rfl rfl ?_
      refine ev_iconst (v := -1) dX12_addLink_58 (by decide) ?_
      obtain ⟨a_10, ea_10, h⟩ := x_some_e h
      refine ev_at (st' := [.int (-1), .int v_9, va_rf (some a_10)]) rfl (by rw [ea_10]) ?_
      obtain ⟨c_11, h⟩ := x_chk_e h
      obtain ⟨σ_12, eσ_12, h⟩ := x_let_e h
      refine ev_iast_31 c_11.1 c_11.2.1 (hP.2.2.2.1 ▸ c_11.2.2) dX12_addLink_59 (eσ_12 ▸ ?_)
      refine ev_aload_n (j := 1) (x := (some a0)) dX12_addLink_60 rfl rfl ?_
      obtain ⟨c_13, h⟩ := x_chk_e h
      refine ev_get (C := RX12) (T := TX12) (k := 31) inX12 (xE_12 c_13) rfl (by decide) wd_179 (Or.inl rfl) rfl dX12_addLink_61 ?_
      refine ev_iload_n (j := 0) (x := v_9) dX12_addLink_64 rfl rfl ?_
      refine ev_iconst (v := -1) dX12_addLink_65 (by decide) ?_
      obtain ⟨a_14, ea_14, h⟩ := x_some_e h
      refine ev_at (st' := [.int (-1), .int v_9, va_rf (some a_14)]) rfl (by rw [ea_14]) ?_
      obtain ⟨c_15, h⟩ := x_chk_e h
      obtain ⟨σ_16, eσ_16, h⟩ := x_let_e h
      refine ev_iast_31 c_15.1 c_15.2.1 (hP.2.2.2.1 ▸ c_15.2.2) dX12_addLink_66 (eσ_16 ▸ ?_)
      refine ev_aload_n (j := 1) (x := (some a0)) dX12_addLink_67 rfl rfl ?_
      obtain ⟨c_17, h⟩ := x_chk_e h
      refine ev_get (C := RX12) (T := TX12) (k := 32) inX12 (xE_12 c_17) rfl (by decide) wd_180 (Or.inl rfl) rfl dX12_addLink_68 ?_
      refine ev_iload_n (j := 0) (x := v_9) dX12_addLink_71 rfl rfl ?_
      refine ev_aload_n (j := 1) (x := (some a0)) dX12_addLink_72 rfl rfl ?_
      refine ev_get (C := RX12) (T := TX12) (k := 36) inX12 (xE_12 c_17) rfl (by decide) wd_646 (Or.inl rfl) rfl dX12_addLink_73 ?_
      obtain ⟨a_18, ea_18, h⟩ := x_some_e h
      refine ev_at (st' := [.int (σ_16.I 1136 a0), .int v_9, va_rf (some a_18)]) rfl (by rw [ea_18]) ?_
      obtain ⟨c_19, h⟩ := x_chk_e h
      obtain ⟨σ_20, eσ_20, h⟩ := x_let_e h
      refine ev_iast_31 c_19.1 c_19.2.1 (hP.2.2.2.1 ▸ c_19.2.2) dX12_addLink_76 (eσ_20 ▸ ?_)
      refine ev_aload_n (j := 1) (x := (some a0)) dX12_addLink_77 rfl rfl ?_
      obtain ⟨c_21, h⟩ := x_chk_e h
      refine ev_get (C := RX12) (T := TX12) (k := 29) inX12 (xE_12 c_21) rfl (by decide) wd_177 (Or.inl rfl) rfl dX12_addLink_78 ?_
      refine ev_iload_n (j := 2) (x := v2) dX12_addLink_81 rfl rfl ?_
      refine ev_dup2_11 dX12_addLink_82 rfl (x_cat _) ?_
      obtain ⟨a_22, ea_22, h⟩ := x_some_e h
      refine ev_at (st' := [.int v2, va_rf (some a_22), .int v2, va_rf (σ_20.R 1129 a0)]) rfl (by rw [ea_22]) ?_
      obtain ⟨c_23, h⟩ := x_chk_e h
      refine ev_iald_31 c_23.1 c_23.2 dX12_addLink_83 ?_
      refine ev_iconst (v := 1) dX12_addLink_84 (by decide) ?_
      refine ev_iadd (x := (σ_20.AI a_22 (Int32.toNatClampNeg v2))) (y := 1) dX12_addLink_85 ?_
      refine ev_at (st' := [.int ((σ_20.AI a_22 (Int32.toNatClampNeg v2)) + 1), .int v2, va_rf (some a_22)]) rfl (by rw [ea_22]) ?_
      obtain ⟨c_24, h⟩ := x_chk_e h
      obtain ⟨σ_25, eσ_25, h⟩ := x_let_e h
      refine ev_iast_31 c_24.1 c_24.2.1 (hP.2.2.2.1 ▸ c_24.2.2) dX12_addLink_86 (eσ_25 ▸ ?_)
      refine ev_iload_n (j := 0) (x := v_9) dX12_addLink_87 rfl rfl ?_
      cases h
      exact ev_iret rfl rfl dX12_addLink_88
  · have z9 := x_call (M := mX12_addLink) (M' := mX12_ok) (pc := 33) (st := [va_rf (some a0)]) (rest := []) (av := [va_rf (some a0)]) (x_linkV (M := mX12_addLink) (M' := mX12_ok) (As := []) (index := 121) (C := RX12) (T := TX12) (xE_12 c_4) rfl wd_640 wd_641 (wG_in (List.mem_append_left _ (List.mem_of_getElem? (i := 37) rfl)) rfl) xw_X12_ok rfl (by decide) rfl rfl dX12_addLink_33) (ev_X12_ok hO hP h_3) xw_X12_ok rfl wd_198 dX12_addLink_33 (by decide) (by decide) (by simp [x_cat, x_catI, x_catJ])
    cases h
    exact x_callX z9 (evX_out rfl)
set_option maxHeartbeats 4000000 in
set_option maxRecDepth 100000 in
theorem ev_X12_addLink {l : Launch} {G : xG} (hO : x_OK l G) {P : xP} (hP : x_PG P G) {a0 : Nat} {v1 : Int32} {σ σ' : xS} {rr : Int32 ⊕ String} (h : dm_X12_addLink P a0 v1 σ = some (rr, σ')) : EvM l G mX12_addLink [va_rf (some a0), .int v1] σ (xrI rr) σ' := by
  unfold dm_X12_addLink at h
  refine evM_of hO (by decide +kernel) (x_lenI (by simp [x_cat, x_catI, x_catJ, mX12_addLink, xM.maxL])) ?_
  refine Eq.mp (congrArg (fun z => Ev l G mX12_addLink 0 z [] σ (xrI rr) σ') (show [(0, va_rf (some a0)), (1, .int v1)] = lv_args 0 [va_rf (some a0), .int v1] by simp [lv_args, x_cat, x_catI, x_catJ])) ?_
  refine ev_aload_n (j := 0) (x := (some a0)) dX12_addLink_0 rfl rfl ?_
  refine ev_iload_n (j := 1) (x := v1) dX12_addLink_1 rfl rfl ?_
  obtain ⟨c_4, h⟩ := x_chk_e h
  rcases x_bind_e h with ⟨v_1, σ_2, h_3, h⟩ | ⟨E_19, σ_2, h_3, h⟩
  · have z9 := x_call (M := mX12_addLink) (M' := mX12_insCell) (pc := 2) (st := [.int v1, va_rf (some a0)]) (rest := []) (av := [va_rf (some a0), .int v1]) (x_linkV (M := mX12_addLink) (M' := mX12_insCell) (As := [.int v1]) (index := 221) (C := RX12) (T := TX12) (xE_12 c_4) rfl wd_718 wd_719 (wG_in (List.mem_append_left _ (List.mem_of_getElem? (i := 66) rfl)) rfl) xw_X12_insCell rfl (by decide) rfl rfl dX12_addLink_2) (ev_X12_insCell hO hP h_3) xw_X12_insCell rfl wd_198 dX12_addLink_2 (by decide) (by decide) (by simp [x_cat, x_catI, x_catJ])
    refine x_callR z9 ?_
    refine ev_at (st' := [.int v_1]) rfl rfl ?_
    refine ev_istore_n (i := 2) (lv' := [(2, .int v_1), (0, va_rf (some a0)), (1, .int v1)]) dX12_addLink_5 rfl (by decide) rfl ?_
    refine ev_aload_n (j := 1) (x := (some a0)) dX12_addLink_6 rfl rfl ?_
    obtain ⟨c_8, h⟩ := x_chk_e h
    rcases x_bind_e h with ⟨v_5, σ_6, h_7, h⟩ | ⟨E_18, σ_6, h_7, h⟩
    · have z9 := x_call (M := mX12_addLink) (M' := mX12_ok) (pc := 7) (st := [va_rf (some a0)]) (rest := []) (av := [va_rf (some a0)]) (x_linkV (M := mX12_addLink) (M' := mX12_ok) (As := []) (index := 121) (C := RX12) (T := TX12) (xE_12 c_8) rfl wd_640 wd_641 (wG_in (List.mem_append_left _ (List.mem_of_getElem? (i := 37) rfl)) rfl) xw_X12_ok rfl (by decide) rfl rfl dX12_addLink_7) (ev_X12_ok hO hP h_7) xw_X12_ok rfl wd_198 dX12_addLink_7 (by decide) (by decide) (by simp [x_cat, x_catI, x_catJ])
      refine x_callR z9 ?_
      refine ev_at (st' := [.int v_5]) rfl rfl ?_
      by_cases c_9 : v_5 = 0
      · rw [if_pos c_9] at h
        refine ev_if_eq (x := v_5) (tgt := 32) dX12_addLink_10 (by decide) (fun _ => ?_) (fun q9 => absurd c_9 q9)
        exact ev_sub [1, 0] rfl (ev_X12_addLink_p32 hO hP h)
      · rw [if_neg c_9] at h
        refine ev_if_eq (x := v_5) (tgt := 32) dX12_addLink_10 (by decide) (fun q9 => absurd q9 c_9) (fun _ => ?_)
        refine ev_aload_n (j := 1) (x := (some a0)) dX12_addLink_13 rfl rfl ?_
        obtain ⟨c_10, h⟩ := x_chk_e h
        refine ev_get (C := RX12) (T := TX12) (k := 29) inX12 (xE_12 c_10) rfl (by decide) wd_177 (Or.inl rfl) rfl dX12_addLink_14 ?_
        refine ev_iload_n (j := 0) (x := v_1) dX12_addLink_17 rfl rfl ?_
        obtain ⟨a_11, ea_11, h⟩ := x_some_e h
        refine ev_at (st' := [.int v_1, va_rf (some a_11)]) rfl (by rw [ea_11]) ?_
        obtain ⟨c_12, h⟩ := x_chk_e h
        refine ev_iald_31 c_12.1 c_12.2 dX12_addLink_18 ?_
        refine ev_bipush (v := 16) dX12_addLink_19 (by decide) ?_
        by_cases c_13 : (σ_6.AI a_11 (Int32.toNatClampNeg v_1)) = 16
        · rw [if_pos c_13] at h
          refine ev_icmp_ne (x := (σ_6.AI a_11 (Int32.toNatClampNeg v_1))) (y := 16) (tgt := 32) dX12_addLink_21 (by decide) (fun q9 => absurd c_13 q9) (fun _ => ?_)
          refine ev_aload_n (j := 1) (x := (some a0)) dX12_addLink_24 rfl rfl ?_
          refine ev_aload_n (j := 1) (x := (some a0)) dX12_addLink_25 rfl rfl ?_
          refine ev_get (C := RX12) (T := TX12) (k := 36) inX12 (xE_12 c_10) rfl (by decide) wd_646 (Or.inl rfl) rfl dX12_addLink_26 ?_
          rcases x_bind_e h with ⟨v_14, σ_15, h_16, h⟩ | ⟨E_17, σ_15, h_16, h⟩
          · have z9 := x_call (M := mX12_addLink) (M' := mX12_fail) (pc := 29) (st := [.int (σ_6.I 1136 a0), va_rf (some a0)]) (rest := []) (av := [va_rf (some a0), .int (σ_6.I 1136 a0)]) (x_linkV (M := mX12_addLink) (M' := mX12_fail) (As := [.int (σ_6.I 1136 a0)]) (index := 150) (C := RX12) (T := TX12) (xE_12 c_10) rfl wd_657 wd_658 (wG_in (List.mem_append_left _ (List.mem_of_getElem? (i := 39) rfl)) rfl) xw_X12_fail rfl (by decide) rfl rfl dX12_addLink_29) (ev_X12_fail hO hP h_16) xw_X12_fail rfl wd_198 dX12_addLink_29 (by decide) (by decide) (by simp [x_cat, x_catI, x_catJ])
            refine x_callR z9 ?_
            refine ev_at (st' := []) rfl rfl ?_
            exact ev_sub [1, 0] rfl (ev_X12_addLink_p32 hO hP h)
          · have z9 := x_call (M := mX12_addLink) (M' := mX12_fail) (pc := 29) (st := [.int (σ_6.I 1136 a0), va_rf (some a0)]) (rest := []) (av := [va_rf (some a0), .int (σ_6.I 1136 a0)]) (x_linkV (M := mX12_addLink) (M' := mX12_fail) (As := [.int (σ_6.I 1136 a0)]) (index := 150) (C := RX12) (T := TX12) (xE_12 c_10) rfl wd_657 wd_658 (wG_in (List.mem_append_left _ (List.mem_of_getElem? (i := 39) rfl)) rfl) xw_X12_fail rfl (by decide) rfl rfl dX12_addLink_29) (ev_X12_fail hO hP h_16) xw_X12_fail rfl wd_198 dX12_addLink_29 (by decide) (by decide) (by simp [x_cat, x_catI, x_catJ])
            cases h
            exact x_callX z9 (evX_out rfl)
        · rw [if_neg c_13] at h
          refine ev_icmp_ne (x := (σ_6.AI a_11 (Int32.toNatClampNeg v_1))) (y := 16) (tgt := 32) dX12_addLink_21 (by decide) (fun _ => ?_) (fun q9 => absurd q9 c_13)
          exact ev_sub [1, 0] rfl (ev_X12_addLink_p32 hO hP h)
    · have z9 := x_call (M := mX12_addLink) (M' := mX12_ok) (pc := 7) (st := [va_rf (some a0)]) (rest := []) (av := [va_rf (some a0)]) (x_linkV (M := mX12_addLink) (M' := mX12_ok) (As := []) (index := 121) (C := RX12) (T := TX12) (xE_12 c_8) rfl wd_640 wd_641 (wG_in (List.mem_append_left _ (List.mem_of_getElem? (i := 37) rfl)) rfl) xw_X12_ok rfl (by decide) rfl rfl dX12_addLink_7) (ev_X12_ok hO hP h_7) xw_X12_ok rfl wd_198 dX12_addLink_7 (by decide) (by decide) (by simp [x_cat, x_catI, x_catJ])
      cases h
      exact x_callX z9 (evX_out rfl)
  · have z9 := x_call (M := mX12_addLink) (M' := mX12_insCell) (pc := 2) (st := [.int v1, va_rf (some a0)]) (rest := []) (av := [va_rf (some a0), .int v1]) (x_linkV (M := mX12_addLink) (M' := mX12_insCell) (As := [.int v1]) (index := 221) (C := RX12) (T := TX12) (xE_12 c_4) rfl wd_718 wd_719 (wG_in (List.mem_append_left _ (List.mem_of_getElem? (i := 66) rfl)) rfl) xw_X12_insCell rfl (by decide) rfl rfl dX12_addLink_2) (ev_X12_insCell hO hP h_3) xw_X12_insCell rfl wd_198 dX12_addLink_2 (by decide) (by decide) (by simp [x_cat, x_catI, x_catJ])
    cases h
    exact x_callX z9 (evX_out rfl)
set_option maxHeartbeats 4000000 in
set_option maxRecDepth 100000 in
theorem ev_X12_takeNamed_p75 {l : Launch} {G : xG} (hO : x_OK l G) {P : xP} (hP : x_PG P G) {a0 : Nat} {k18 : Int32 → Int32 → Int32 → xS → xO Unit} (hk18 : ∀ {v1 : Int32} {v2 : Int32} {v3 : Int32} {σ σ' : xS} {rr : Unit ⊕ String}, k18 v1 v2 v3 σ = some (rr, σ') → Ev l G mX12_takeNamed 18 [(0, va_rf (some a0)), (1, .int v1), (2, .int v2), (3, .int v3)] [] σ (xrV rr) σ') {v1 : Int32} {v2 : Int32} {v3 : Int32} {σ σ' : xS} {rr : Unit ⊕ String} (h : dm_X12_takeNamed_p75 P k18 a0 v1 v2 v3 σ = some (rr, σ')) : Ev l G mX12_takeNamed 75 [(0, va_rf (some a0)), (1, .int v1), (2, .int v2), (3, .int v3)] [] σ (xrV rr) σ' := by
  unfold dm_X12_takeNamed_p75 at h
  obtain ⟨v_1, ev_1, h⟩ := x_let_e h
  refine ev_iinc (j := 3) (x := v3) (v := v_1) (lv' := [(3, .int v_1), (0, va_rf (some a0)), (1, .int v1), (2, .int v2)]) dX12_takeNamed_75 rfl (by rw [ev_1]; rfl) (by decide) rfl ?_
  refine ev_goto (tgt := 18) dX12_takeNamed_78 (by decide) ?_
  exact ev_sub [1, 2, 3, 0] rfl (hk18 h)
set_option maxHeartbeats 4000000 in
set_option maxRecDepth 100000 in
theorem ev_X12_takeNamed_p149 {l : Launch} {G : xG} (hO : x_OK l G) {P : xP} (hP : x_PG P G) {a0 : Nat} {σ σ' : xS} {rr : Unit ⊕ String} (h : dm_X12_takeNamed_p149 P a0 σ = some (rr, σ')) : Ev l G mX12_takeNamed 149 [] [] σ (xrV rr) σ' := by
  unfold dm_X12_takeNamed_p149 at h
  cases h
  exact ev_vret rfl dX12_takeNamed_149
set_option maxHeartbeats 4000000 in
set_option maxRecDepth 100000 in
theorem ev_X12_takeNamed_p121 {l : Launch} {G : xG} (hO : x_OK l G) {P : xP} (hP : x_PG P G) {a0 : Nat} {v2 : Int32} {v3 : Int32} {v4 : Int32} {σ σ' : xS} {rr : Unit ⊕ String} (h : dm_X12_takeNamed_p121 P a0 v2 v3 v4 σ = some (rr, σ')) : Ev l G mX12_takeNamed 121 [(0, va_rf (some a0)), (2, .int v2), (3, .int v3), (4, .int v4)] [] σ (xrV rr) σ' := by
  unfold dm_X12_takeNamed_p121 at h
  refine ev_aload_n (j := 0) (x := (some a0)) dX12_takeNamed_121 rfl rfl ?_
  refine ev_bipush (v := 41) dX12_takeNamed_122 (by decide) ?_
  obtain ⟨c_4, h⟩ := x_chk_e h
  rcases x_bind_e h with ⟨v_1, σ_2, h_3, h⟩ | ⟨E_19, σ_2, h_3, h⟩
  · have z9 := x_call (M := mX12_takeNamed) (M' := mX12_needSign) (pc := 124) (st := [.int 41, va_rf (some a0)]) (rest := []) (av := [va_rf (some a0), .int 41]) (x_linkV (M := mX12_takeNamed) (M' := mX12_needSign) (As := [.int 41]) (index := 199) (C := RX12) (T := TX12) (xE_12 c_4) rfl wd_697 wd_698 (wG_in (List.mem_append_left _ (List.mem_of_getElem? (i := 49) rfl)) rfl) xw_X12_needSign rfl (by decide) rfl rfl dX12_takeNamed_124) (ev_X12_needSign hO hP h_3) xw_X12_needSign rfl wd_198 dX12_takeNamed_124 (by decide) (by decide) (by simp [x_cat, x_catI, x_catJ])
    refine x_callR z9 ?_
    refine ev_at (st' := []) rfl rfl ?_
    refine ev_aload_n (j := 0) (x := (some a0)) dX12_takeNamed_127 rfl rfl ?_
    obtain ⟨c_8, h⟩ := x_chk_e h
    rcases x_bind_e h with ⟨v_5, σ_6, h_7, h⟩ | ⟨E_18, σ_6, h_7, h⟩
    · have z9 := x_call (M := mX12_takeNamed) (M' := mX12_ok) (pc := 128) (st := [va_rf (some a0)]) (rest := []) (av := [va_rf (some a0)]) (x_linkV (M := mX12_takeNamed) (M' := mX12_ok) (As := []) (index := 121) (C := RX12) (T := TX12) (xE_12 c_8) rfl wd_640 wd_641 (wG_in (List.mem_append_left _ (List.mem_of_getElem? (i := 37) rfl)) rfl) xw_X12_ok rfl (by decide) rfl rfl dX12_takeNamed_128) (ev_X12_ok hO hP h_7) xw_X12_ok rfl wd_198 dX12_takeNamed_128 (by decide) (by decide) (by simp [x_cat, x_catI, x_catJ])
      refine x_callR z9 ?_
      refine ev_at (st' := [.int v_5]) rfl rfl ?_
      by_cases c_9 : v_5 = 0
      · rw [if_pos c_9] at h
        refine ev_if_eq (x := v_5) (tgt := 149) dX12_takeNamed_131 (by decide) (fun _ => ?_) (fun q9 => absurd c_9 q9)
        exact ev_sub [] rfl (ev_X12_takeNamed_p149 hO hP h)
      · rw [if_neg c_9] at h
        refine ev_if_eq (x := v_5) (tgt := 149) dX12_takeNamed_131 (by decide) (fun q9 => absurd q9 c_9) (fun _ => ?_)
        refine ev_aload_n (j := 0) (x := (some a0)) dX12_takeNamed_134 rfl rfl ?_
        obtain ⟨c_10, h⟩ := x_chk_e h
        refine ev_get (C := RX12) (T := TX12) (k := 31) inX12 (xE_12 c_10) rfl (by decide) wd_179 (Or.inl rfl) rfl dX12_takeNamed_135 ?_
        refine ev_iload_n (j := 1) (x := v2) dX12_takeNamed_138 rfl rfl ?_
        refine ev_iload_n (j := 2) (x := v3) dX12_takeNamed_139 rfl rfl ?_
        obtain ⟨a_11, ea_11, h⟩ := x_some_e h
        refine ev_at (st' := [.int v3, .int v2, va_rf (some a_11)]) rfl (by rw [ea_11]) ?_
        obtain ⟨c_12, h⟩ := x_chk_e h
        obtain ⟨σ_13, eσ_13, h⟩ := x_let_e h
        refine ev_iast_31 c_12.1 c_12.2.1 (hP.2.2.2.1 ▸ c_12.2.2) dX12_takeNamed_140 (eσ_13 ▸ ?_)
        refine ev_aload_n (j := 0) (x := (some a0)) dX12_takeNamed_141 rfl rfl ?_
        obtain ⟨c_14, h⟩ := x_chk_e h
        refine ev_get (C := RX12) (T := TX12) (k := 30) inX12 (xE_12 c_14) rfl (by decide) wd_178 (Or.inl rfl) rfl dX12_takeNamed_142 ?_
        refine ev_iload_n (j := 1) (x := v2) dX12_takeNamed_145 rfl rfl ?_
        refine ev_iload (j := 3) (x := v4) dX12_takeNamed_146 rfl ?_
        obtain ⟨a_15, ea_15, h⟩ := x_some_e h
        refine ev_at (st' := [.int v4, .int v2, va_rf (some a_15)]) rfl (by rw [ea_15]) ?_
        obtain ⟨c_16, h⟩ := x_chk_e h
        obtain ⟨σ_17, eσ_17, h⟩ := x_let_e h
        refine ev_iast_31 c_16.1 c_16.2.1 (hP.2.2.2.1 ▸ c_16.2.2) dX12_takeNamed_148 (eσ_17 ▸ ?_)
        exact ev_sub [] rfl (ev_X12_takeNamed_p149 hO hP h)
    · have z9 := x_call (M := mX12_takeNamed) (M' := mX12_ok) (pc := 128) (st := [va_rf (some a0)]) (rest := []) (av := [va_rf (some a0)]) (x_linkV (M := mX12_takeNamed) (M' := mX12_ok) (As := []) (index := 121) (C := RX12) (T := TX12) (xE_12 c_8) rfl wd_640 wd_641 (wG_in (List.mem_append_left _ (List.mem_of_getElem? (i := 37) rfl)) rfl) xw_X12_ok rfl (by decide) rfl rfl dX12_takeNamed_128) (ev_X12_ok hO hP h_7) xw_X12_ok rfl wd_198 dX12_takeNamed_128 (by decide) (by decide) (by simp [x_cat, x_catI, x_catJ])
      cases h
      exact x_callX z9 (evX_out rfl)
  · have z9 := x_call (M := mX12_takeNamed) (M' := mX12_needSign) (pc := 124) (st := [.int 41, va_rf (some a0)]) (rest := []) (av := [va_rf (some a0), .int 41]) (x_linkV (M := mX12_takeNamed) (M' := mX12_needSign) (As := [.int 41]) (index := 199) (C := RX12) (T := TX12) (xE_12 c_4) rfl wd_697 wd_698 (wG_in (List.mem_append_left _ (List.mem_of_getElem? (i := 49) rfl)) rfl) xw_X12_needSign rfl (by decide) rfl rfl dX12_takeNamed_124) (ev_X12_needSign hO hP h_3) xw_X12_needSign rfl wd_198 dX12_takeNamed_124 (by decide) (by decide) (by simp [x_cat, x_catI, x_catJ])
    cases h
    exact x_callX z9 (evX_out rfl)
set_option maxHeartbeats 4000000 in
set_option maxRecDepth 100000 in
theorem ev_X12_takeNamed_p81 {l : Launch} {G : xG} (hO : x_OK l G) {P : xP} (hP : x_PG P G) {a0 : Nat} {v2 : Int32} {σ σ' : xS} {rr : Unit ⊕ String} (h : dm_X12_takeNamed_p81 P a0 v2 σ = some (rr, σ')) : Ev l G mX12_takeNamed 81 [(0, va_rf (some a0)), (2, .int v2)] [] σ (xrV rr) σ' := by
  unfold dm_X12_takeNamed_p81 at h
  refine ev_aload_n (j := 0) (x := (some a0)) dX12_takeNamed_81 rfl rfl ?_
  obtain ⟨c_1, h⟩ := x_chk_e h
  refine ev_get (C := RX12) (T := TX12) (k := 36) inX12 (xE_12 c_1) rfl (by decide) wd_646 (Or.inl rfl) rfl dX12_takeNamed_82 ?_
  obtain ⟨v_2, ev_2, h⟩ := x_let_e h
  rw [← ev_2]
  refine ev_istore_n (i := 3) (lv' := [(3, .int v_2), (0, va_rf (some a0)), (2, .int v2)]) dX12_takeNamed_85 rfl (by decide) rfl ?_
  refine ev_aload_n (j := 1) (x := (some a0)) dX12_takeNamed_86 rfl rfl ?_
  rcases x_bind_e h with ⟨v_3, σ_4, h_5, h⟩ | ⟨E_28, σ_4, h_5, h⟩
  · have z9 := x_call (M := mX12_takeNamed) (M' := mX12_next) (pc := 87) (st := [va_rf (some a0)]) (rest := []) (av := [va_rf (some a0)]) (x_linkV (M := mX12_takeNamed) (M' := mX12_next) (As := []) (index := 169) (C := RX12) (T := TX12) (xE_12 c_1) rfl wd_679 wd_680 (wG_in (List.mem_append_left _ (List.mem_of_getElem? (i := 36) rfl)) rfl) xw_X12_next rfl (by decide) rfl rfl dX12_takeNamed_87) (ev_X12_next hO hP h_5) xw_X12_next rfl wd_198 dX12_takeNamed_87 (by decide) (by decide) (by simp [x_cat, x_catI, x_catJ])
    refine x_callR z9 ?_
    refine ev_at (st' := []) rfl rfl ?_
    refine ev_aload_n (j := 1) (x := (some a0)) dX12_takeNamed_90 rfl rfl ?_
    refine ev_bipush (v := 40) dX12_takeNamed_91 (by decide) ?_
    obtain ⟨c_9, h⟩ := x_chk_e h
    rcases x_bind_e h with ⟨v_6, σ_7, h_8, h⟩ | ⟨E_27, σ_7, h_8, h⟩
    · have z9 := x_call (M := mX12_takeNamed) (M' := mX12_needSign) (pc := 93) (st := [.int 40, va_rf (some a0)]) (rest := []) (av := [va_rf (some a0), .int 40]) (x_linkV (M := mX12_takeNamed) (M' := mX12_needSign) (As := [.int 40]) (index := 199) (C := RX12) (T := TX12) (xE_12 c_9) rfl wd_697 wd_698 (wG_in (List.mem_append_left _ (List.mem_of_getElem? (i := 49) rfl)) rfl) xw_X12_needSign rfl (by decide) rfl rfl dX12_takeNamed_93) (ev_X12_needSign hO hP h_8) xw_X12_needSign rfl wd_198 dX12_takeNamed_93 (by decide) (by decide) (by simp [x_cat, x_catI, x_catJ])
      refine x_callR z9 ?_
      refine ev_at (st' := []) rfl rfl ?_
      refine ev_iconst (v := -1) dX12_takeNamed_96 (by decide) ?_
      refine ev_istore (i := 4) (lv' := [(4, .int (-1)), (3, .int v_2), (0, va_rf (some a0)), (2, .int v2)]) dX12_takeNamed_97 (by decide) rfl ?_
      refine ev_aload_n (j := 2) (x := (some a0)) dX12_takeNamed_99 rfl rfl ?_
      obtain ⟨c_13, h⟩ := x_chk_e h
      rcases x_bind_e h with ⟨v_10, σ_11, h_12, h⟩ | ⟨E_26, σ_11, h_12, h⟩
      · have z9 := x_call (M := mX12_takeNamed) (M' := mX12_ok) (pc := 100) (st := [va_rf (some a0)]) (rest := []) (av := [va_rf (some a0)]) (x_linkV (M := mX12_takeNamed) (M' := mX12_ok) (As := []) (index := 121) (C := RX12) (T := TX12) (xE_12 c_13) rfl wd_640 wd_641 (wG_in (List.mem_append_left _ (List.mem_of_getElem? (i := 37) rfl)) rfl) xw_X12_ok rfl (by decide) rfl rfl dX12_takeNamed_100) (ev_X12_ok hO hP h_12) xw_X12_ok rfl wd_198 dX12_takeNamed_100 (by decide) (by decide) (by simp [x_cat, x_catI, x_catJ])
        refine x_callR z9 ?_
        refine ev_at (st' := [.int v_10]) rfl rfl ?_
        by_cases c_14 : v_10 = 0
        · rw [if_pos c_14] at h
          refine ev_if_eq (x := v_10) (tgt := 121) dX12_takeNamed_103 (by decide) (fun _ => ?_) (fun q9 => absurd c_14 q9)
          exact ev_sub [2, 3, 1, 0] rfl (ev_X12_takeNamed_p121 hO hP h)
        · rw [if_neg c_14] at h
          refine ev_if_eq (x := v_10) (tgt := 121) dX12_takeNamed_103 (by decide) (fun q9 => absurd q9 c_14) (fun _ => ?_)
          refine ev_aload_n (j := 2) (x := (some a0)) dX12_takeNamed_106 rfl rfl ?_
          refine ev_bipush (v := 41) dX12_takeNamed_107 (by decide) ?_
          obtain ⟨c_18, h⟩ := x_chk_e h
          rcases x_bind_e h with ⟨v_15, σ_16, h_17, h⟩ | ⟨E_25, σ_16, h_17, h⟩
          · have z9 := x_call (M := mX12_takeNamed) (M' := mX12_isSign) (pc := 109) (st := [.int 41, va_rf (some a0)]) (rest := []) (av := [va_rf (some a0), .int 41]) (x_linkV (M := mX12_takeNamed) (M' := mX12_isSign) (As := [.int 41]) (index := 166) (C := RX12) (T := TX12) (xE_12 c_18) rfl wd_682 wd_683 (wG_in (List.mem_append_left _ (List.mem_of_getElem? (i := 50) rfl)) rfl) xw_X12_isSign rfl (by decide) rfl rfl dX12_takeNamed_109) (ev_X12_isSign hO hP h_17) xw_X12_isSign rfl wd_198 dX12_takeNamed_109 (by decide) (by decide) (by simp [x_cat, x_catI, x_catJ])
            refine x_callR z9 ?_
            refine ev_at (st' := [.int v_15]) rfl rfl ?_
            by_cases c_19 : v_15 = 0
            · rw [if_pos c_19] at h
              refine ev_if_ne (x := v_15) (tgt := 121) dX12_takeNamed_112 (by decide) (fun q9 => absurd c_19 q9) (fun _ => ?_)
              refine ev_aload_n (j := 2) (x := (some a0)) dX12_takeNamed_115 rfl rfl ?_
              obtain ⟨c_23, h⟩ := x_chk_e h
              rcases x_bind_e h with ⟨v_20, σ_21, h_22, h⟩ | ⟨E_24, σ_21, h_22, h⟩
              · have z9 := x_call (M := mX12_takeNamed) (M' := mX12_longRef) (pc := 116) (st := [va_rf (some a0)]) (rest := []) (av := [va_rf (some a0)]) (x_linkV (M := mX12_takeNamed) (M' := mX12_longRef) (As := []) (index := 215) (C := RX12) (T := TX12) (xE_12 c_23) rfl wd_715 wd_716 (wG_in (List.mem_append_left _ (List.mem_of_getElem? (i := 59) rfl)) rfl) xw_X12_longRef rfl (by decide) rfl rfl dX12_takeNamed_116) (ev_X12_longRef hO hP h_22) xw_X12_longRef rfl wd_198 dX12_takeNamed_116 (by decide) (by decide) (by simp [x_cat, x_catI, x_catJ])
                refine x_callR z9 ?_
                refine ev_at (st' := [.int v_20]) rfl rfl ?_
                refine ev_istore (i := 4) (lv' := [(4, .int v_20), (3, .int v_2), (0, va_rf (some a0)), (2, .int v2)]) dX12_takeNamed_119 (by decide) rfl ?_
                exact ev_sub [2, 3, 1, 0] rfl (ev_X12_takeNamed_p121 hO hP h)
              · have z9 := x_call (M := mX12_takeNamed) (M' := mX12_longRef) (pc := 116) (st := [va_rf (some a0)]) (rest := []) (av := [va_rf (some a0)]) (x_linkV (M := mX12_takeNamed) (M' := mX12_longRef) (As := []) (index := 215) (C := RX12) (T := TX12) (xE_12 c_23) rfl wd_715 wd_716 (wG_in (List.mem_append_left _ (List.mem_of_getElem? (i := 59) rfl)) rfl) xw_X12_longRef rfl (by decide) rfl rfl dX12_takeNamed_116) (ev_X12_longRef hO hP h_22) xw_X12_longRef rfl wd_198 dX12_takeNamed_116 (by decide) (by decide) (by simp [x_cat, x_catI, x_catJ])
                cases h
                exact x_callX z9 (evX_out rfl)
            · rw [if_neg c_19] at h
              refine ev_if_ne (x := v_15) (tgt := 121) dX12_takeNamed_112 (by decide) (fun _ => ?_) (fun q9 => absurd q9 c_19)
              exact ev_sub [2, 3, 1, 0] rfl (ev_X12_takeNamed_p121 hO hP h)
          · have z9 := x_call (M := mX12_takeNamed) (M' := mX12_isSign) (pc := 109) (st := [.int 41, va_rf (some a0)]) (rest := []) (av := [va_rf (some a0), .int 41]) (x_linkV (M := mX12_takeNamed) (M' := mX12_isSign) (As := [.int 41]) (index := 166) (C := RX12) (T := TX12) (xE_12 c_18) rfl wd_682 wd_683 (wG_in (List.mem_append_left _ (List.mem_of_getElem? (i := 50) rfl)) rfl) xw_X12_isSign rfl (by decide) rfl rfl dX12_takeNamed_109) (ev_X12_isSign hO hP h_17) xw_X12_isSign rfl wd_198 dX12_takeNamed_109 (by decide) (by decide) (by simp [x_cat, x_catI, x_catJ])
            cases h
            exact x_callX z9 (evX_out rfl)
      · have z9 := x_call (M := mX12_takeNamed) (M' := mX12_ok) (pc := 100) (st := [va_rf (some a0)]) (rest := []) (av := [va_rf (some a0)]) (x_linkV (M := mX12_takeNamed) (M' := mX12_ok) (As := []) (index := 121) (C := RX12) (T := TX12) (xE_12 c_13) rfl wd_640 wd_641 (wG_in (List.mem_append_left _ (List.mem_of_getElem? (i := 37) rfl)) rfl) xw_X12_ok rfl (by decide) rfl rfl dX12_takeNamed_100) (ev_X12_ok hO hP h_12) xw_X12_ok rfl wd_198 dX12_takeNamed_100 (by decide) (by decide) (by simp [x_cat, x_catI, x_catJ])
        cases h
        exact x_callX z9 (evX_out rfl)
    · have z9 := x_call (M := mX12_takeNamed) (M' := mX12_needSign) (pc := 93) (st := [.int 40, va_rf (some a0)]) (rest := []) (av := [va_rf (some a0), .int 40]) (x_linkV (M := mX12_takeNamed) (M' := mX12_needSign) (As := [.int 40]) (index := 199) (C := RX12) (T := TX12) (xE_12 c_9) rfl wd_697 wd_698 (wG_in (List.mem_append_left _ (List.mem_of_getElem? (i := 49) rfl)) rfl) xw_X12_needSign rfl (by decide) rfl rfl dX12_takeNamed_93) (ev_X12_needSign hO hP h_8) xw_X12_needSign rfl wd_198 dX12_takeNamed_93 (by decide) (by decide) (by simp [x_cat, x_catI, x_catJ])
      cases h
      exact x_callX z9 (evX_out rfl)
  · have z9 := x_call (M := mX12_takeNamed) (M' := mX12_next) (pc := 87) (st := [va_rf (some a0)]) (rest := []) (av := [va_rf (some a0)]) (x_linkV (M := mX12_takeNamed) (M' := mX12_next) (As := []) (index := 169) (C := RX12) (T := TX12) (xE_12 c_1) rfl wd_679 wd_680 (wG_in (List.mem_append_left _ (List.mem_of_getElem? (i := 36) rfl)) rfl) xw_X12_next rfl (by decide) rfl rfl dX12_takeNamed_87) (ev_X12_next hO hP h_5) xw_X12_next rfl wd_198 dX12_takeNamed_87 (by decide) (by decide) (by simp [x_cat, x_catI, x_catJ])
    cases h
    exact x_callX z9 (evX_out rfl)
set_option maxHeartbeats 4000000 in
set_option maxRecDepth 100000 in
theorem ev_X12_takeNamed_L18 {l : Launch} {G : xG} (hO : x_OK l G) {P : xP} (hP : x_PG P G) {a0 : Nat} : ∀ (n : Nat) {v1 : Int32} {v2 : Int32} {v3 : Int32} {σ σ' : xS} {rr : Unit ⊕ String}, dm_X12_takeNamed_L18 P a0 n v1 v2 v3 σ = some (rr, σ') → Ev l G mX12_takeNamed 18 [(0, va_rf (some a0)), (1, .int v1), (2, .int v2), (3, .int v3)] [] σ (xrV rr) σ' := by
  intro n
  induction n with
  | zero => intro v1 v2 v3 σ σ' rr h; cases h
  | succ n ih =>
    intro v1 v2 v3 σ σ' rr h
    rw [dm_X12_takeNamed_L18] at h
    refine ev_aload_n (j := 0) (x := (some a0)) dX12_takeNamed_18 rfl rfl ?_
    obtain ⟨c_4, h⟩ := x_chk_e h
    rcases x_bind_e h with ⟨v_1, σ_2, h_3, h⟩ | ⟨E_32, σ_2, h_3, h⟩
    · have z9 := x_call (M := mX12_takeNamed) (M' := mX12_ok) (pc := 19) (st := [va_rf (some a0)]) (rest := []) (av := [va_rf (some a0)]) (x_linkV (M := mX12_takeNamed) (M' := mX12_ok) (As := []) (index := 121) (C := RX12) (T := TX12) (xE_12 c_4) rfl wd_640 wd_641 (wG_in (List.mem_append_left _ (List.mem_of_getElem? (i := 37) rfl)) rfl) xw_X12_ok rfl (by decide) rfl rfl dX12_takeNamed_19) (ev_X12_ok hO hP h_3) xw_X12_ok rfl wd_198 dX12_takeNamed_19 (by decide) (by decide) (by simp [x_cat, x_catI, x_catJ])
      refine x_callR z9 ?_
      refine ev_at (st' := [.int v_1]) rfl rfl ?_
      by_cases c_5 : v_1 = 0
      · rw [if_pos c_5] at h
        refine ev_if_eq (x := v_1) (tgt := 81) dX12_takeNamed_22 (by decide) (fun _ => ?_) (fun q9 => absurd c_5 q9)
        exact ev_sub [0, 2] rfl (ev_X12_takeNamed_p81 hO hP h)
      · rw [if_neg c_5] at h
        refine ev_if_eq (x := v_1) (tgt := 81) dX12_takeNamed_22 (by decide) (fun q9 => absurd q9 c_5) (fun _ => ?_)
        refine ev_iload_n (j := 3) (x := v3) dX12_takeNamed_25 rfl rfl ?_
        refine ev_aload_n (j := 0) (x := (some a0)) dX12_takeNamed_26 rfl rfl ?_
        obtain ⟨c_6, h⟩ := x_chk_e h
        refine ev_get (C := RX12) (T := TX12) (k := 29) inX12 (xE_12 c_6) rfl (by decide) wd_177 (Or.inl rfl) rfl dX12_takeNamed_27 ?_
        refine ev_aload_n (j := 0) (x := (some a0)) dX12_takeNamed_30 rfl rfl ?_
        refine ev_iload_n (j := 1) (x := v1) dX12_takeNamed_31 rfl rfl ?_
        rcases x_bind_e h with ⟨v_7, σ_8, h_9, h⟩ | ⟨E_31, σ_8, h_9, h⟩
        · have z9 := x_call (M := mX12_takeNamed) (M' := mX12_insCell) (pc := 32) (st := [.int v1, va_rf (some a0), va_rf (σ_2.R 1129 a0), .int v3]) (rest := [va_rf (σ_2.R 1129 a0), .int v3]) (av := [va_rf (some a0), .int v1]) (x_linkV (M := mX12_takeNamed) (M' := mX12_insCell) (As := [.int v1]) (index := 221) (C := RX12) (T := TX12) (xE_12 c_6) rfl wd_718 wd_719 (wG_in (List.mem_append_left _ (List.mem_of_getElem? (i := 66) rfl)) rfl) xw_X12_insCell rfl (by decide) rfl rfl dX12_takeNamed_32) (ev_X12_insCell hO hP h_9) xw_X12_insCell rfl wd_198 dX12_takeNamed_32 (by decide) (by decide) (by simp [x_cat, x_catI, x_catJ])
          refine x_callR z9 ?_
          refine ev_at (st' := [.int v_7, va_rf (σ_2.R 1129 a0), .int v3]) rfl rfl ?_
          obtain ⟨a_10, ea_10, h⟩ := x_some_e h
          refine ev_at (st' := [.int v_7, va_rf (some a_10), .int v3]) rfl (by rw [ea_10]) ?_
          obtain ⟨c_11, h⟩ := x_chk_e h
          refine ev_iald_31 c_11.1 c_11.2 dX12_takeNamed_35 ?_
          refine ev_iconst (v := 1) dX12_takeNamed_36 (by decide) ?_
          refine ev_isub (x := (σ_8.AI a_10 (Int32.toNatClampNeg v_7))) (y := 1) dX12_takeNamed_37 ?_
          by_cases c_12 : ((σ_8.AI a_10 (Int32.toNatClampNeg v_7)) - 1) ≤ v3
          · rw [if_pos c_12] at h
            refine ev_icmp_ge (x := v3) (y := ((σ_8.AI a_10 (Int32.toNatClampNeg v_7)) - 1)) (tgt := 81) dX12_takeNamed_38 (by decide) (fun _ => ?_) (fun q9 => absurd c_12 q9)
            exact ev_sub [0, 2] rfl (ev_X12_takeNamed_p81 hO hP h)
          · rw [if_neg c_12] at h
            refine ev_icmp_ge (x := v3) (y := ((σ_8.AI a_10 (Int32.toNatClampNeg v_7)) - 1)) (tgt := 81) dX12_takeNamed_38 (by decide) (fun q9 => absurd q9 c_12) (fun _ => ?_)
            refine ev_aload_n (j := 0) (x := (some a0)) dX12_takeNamed_41 rfl rfl ?_
            refine ev_aload_n (j := 0) (x := (some a0)) dX12_takeNamed_42 rfl rfl ?_
            obtain ⟨c_13, h⟩ := x_chk_e h
            refine ev_get (C := RX12) (T := TX12) (k := 31) inX12 (xE_12 c_13) rfl (by decide) wd_179 (Or.inl rfl) rfl dX12_takeNamed_43 ?_
            refine ev_bipush (v := 16) dX12_takeNamed_46 (by decide) ?_
            refine ev_aload_n (j := 0) (x := (some a0)) dX12_takeNamed_48 rfl rfl ?_
            refine ev_iload_n (j := 1) (x := v1) dX12_takeNamed_49 rfl rfl ?_
            rcases x_bind_e h with ⟨v_14, σ_15, h_16, h⟩ | ⟨E_30, σ_15, h_16, h⟩
            · have z9 := x_call (M := mX12_takeNamed) (M' := mX12_insCell) (pc := 50) (st := [.int v1, va_rf (some a0), .int 16, va_rf (σ_8.R 1131 a0), va_rf (some a0)]) (rest := [.int 16, va_rf (σ_8.R 1131 a0), va_rf (some a0)]) (av := [va_rf (some a0), .int v1]) (x_linkV (M := mX12_takeNamed) (M' := mX12_insCell) (As := [.int v1]) (index := 221) (C := RX12) (T := TX12) (xE_12 c_13) rfl wd_718 wd_719 (wG_in (List.mem_append_left _ (List.mem_of_getElem? (i := 66) rfl)) rfl) xw_X12_insCell rfl (by decide) rfl rfl dX12_takeNamed_50) (ev_X12_insCell hO hP h_16) xw_X12_insCell rfl wd_198 dX12_takeNamed_50 (by decide) (by decide) (by simp [x_cat, x_catI, x_catJ])
              refine x_callR z9 ?_
              refine ev_at (st' := [.int v_14, .int 16, va_rf (σ_8.R 1131 a0), va_rf (some a0)]) rfl rfl ?_
              refine ev_imul (x := 16) (y := v_14) dX12_takeNamed_53 ?_
              refine ev_iload_n (j := 3) (x := v3) dX12_takeNamed_54 rfl rfl ?_
              refine ev_iadd (x := (16 * v_14)) (y := v3) dX12_takeNamed_55 ?_
              obtain ⟨a_17, ea_17, h⟩ := x_some_e h
              refine ev_at (st' := [.int ((16 * v_14) + v3), va_rf (some a_17), va_rf (some a0)]) rfl (by rw [ea_17]) ?_
              obtain ⟨c_18, h⟩ := x_chk_e h
              refine ev_iald_31 c_18.1 c_18.2 dX12_takeNamed_56 ?_
              refine ev_aload_n (j := 0) (x := (some a0)) dX12_takeNamed_57 rfl rfl ?_
              obtain ⟨c_19, h⟩ := x_chk_e h
              refine ev_get (C := RX12) (T := TX12) (k := 36) inX12 (xE_12 c_19) rfl (by decide) wd_646 (Or.inl rfl) rfl dX12_takeNamed_58 ?_
              rcases x_bind_e h with ⟨v_20, σ_21, h_22, h⟩ | ⟨E_29, σ_21, h_22, h⟩
              · have z9 := x_call (M := mX12_takeNamed) (M' := mX12_areSame) (pc := 61) (st := [.int (σ_15.I 1136 a0), .int (σ_15.AI a_17 (Int32.toNatClampNeg ((16 * v_14) + v3))), va_rf (some a0)]) (rest := []) (av := [va_rf (some a0), .int (σ_15.AI a_17 (Int32.toNatClampNeg ((16 * v_14) + v3))), .int (σ_15.I 1136 a0)]) (x_linkV (M := mX12_takeNamed) (M' := mX12_areSame) (As := [.int (σ_15.AI a_17 (Int32.toNatClampNeg ((16 * v_14) + v3))), .int (σ_15.I 1136 a0)]) (index := 181) (C := RX12) (T := TX12) (xE_12 c_19) rfl wd_673 wd_674 (wG_in (List.mem_append_left _ (List.mem_of_getElem? (i := 46) rfl)) rfl) xw_X12_areSame rfl (by decide) rfl rfl dX12_takeNamed_61) (ev_X12_areSame hO hP h_22) xw_X12_areSame rfl wd_198 dX12_takeNamed_61 (by decide) (by decide) (by simp [x_cat, x_catI, x_catJ])
                refine x_callR z9 ?_
                refine ev_at (st' := [.int v_20]) rfl rfl ?_
                by_cases c_23 : v_20 = 0
                · rw [if_pos c_23] at h
                  refine ev_if_eq (x := v_20) (tgt := 75) dX12_takeNamed_64 (by decide) (fun _ => ?_) (fun q9 => absurd c_23 q9)
                  exact ev_sub [0, 1, 2, 3] rfl (ev_X12_takeNamed_p75 hO hP ih h)
                · rw [if_neg c_23] at h
                  refine ev_if_eq (x := v_20) (tgt := 75) dX12_takeNamed_64 (by decide) (fun q9 => absurd q9 c_23) (fun _ => ?_)
                  refine ev_aload_n (j := 0) (x := (some a0)) dX12_takeNamed_67 rfl rfl ?_
                  refine ev_aload_n (j := 0) (x := (some a0)) dX12_takeNamed_68 rfl rfl ?_
                  obtain ⟨c_24, h⟩ := x_chk_e h
                  refine ev_get (C := RX12) (T := TX12) (k := 36) inX12 (xE_12 c_24) rfl (by decide) wd_646 (Or.inl rfl) rfl dX12_takeNamed_69 ?_
                  rcases x_bind_e h with ⟨v_25, σ_26, h_27, h⟩ | ⟨E_28, σ_26, h_27, h⟩
                  · have z9 := x_call (M := mX12_takeNamed) (M' := mX12_fail) (pc := 72) (st := [.int (σ_21.I 1136 a0), va_rf (some a0)]) (rest := []) (av := [va_rf (some a0), .int (σ_21.I 1136 a0)]) (x_linkV (M := mX12_takeNamed) (M' := mX12_fail) (As := [.int (σ_21.I 1136 a0)]) (index := 150) (C := RX12) (T := TX12) (xE_12 c_24) rfl wd_657 wd_658 (wG_in (List.mem_append_left _ (List.mem_of_getElem? (i := 39) rfl)) rfl) xw_X12_fail rfl (by decide) rfl rfl dX12_takeNamed_72) (ev_X12_fail hO hP h_27) xw_X12_fail rfl wd_198 dX12_takeNamed_72 (by decide) (by decide) (by simp [x_cat, x_catI, x_catJ])
                    refine x_callR z9 ?_
                    refine ev_at (st' := []) rfl rfl ?_
                    exact ev_sub [0, 1, 2, 3] rfl (ev_X12_takeNamed_p75 hO hP ih h)
                  · have z9 := x_call (M := mX12_takeNamed) (M' := mX12_fail) (pc := 72) (st := [.int (σ_21.I 1136 a0), va_rf (some a0)]) (rest := []) (av := [va_rf (some a0), .int (σ_21.I 1136 a0)]) (x_linkV (M := mX12_takeNamed) (M' := mX12_fail) (As := [.int (σ_21.I 1136 a0)]) (index := 150) (C := RX12) (T := TX12) (xE_12 c_24) rfl wd_657 wd_658 (wG_in (List.mem_append_left _ (List.mem_of_getElem? (i := 39) rfl)) rfl) xw_X12_fail rfl (by decide) rfl rfl dX12_takeNamed_72) (ev_X12_fail hO hP h_27) xw_X12_fail rfl wd_198 dX12_takeNamed_72 (by decide) (by decide) (by simp [x_cat, x_catI, x_catJ])
                    cases h
                    exact x_callX z9 (evX_out rfl)
              · have z9 := x_call (M := mX12_takeNamed) (M' := mX12_areSame) (pc := 61) (st := [.int (σ_15.I 1136 a0), .int (σ_15.AI a_17 (Int32.toNatClampNeg ((16 * v_14) + v3))), va_rf (some a0)]) (rest := []) (av := [va_rf (some a0), .int (σ_15.AI a_17 (Int32.toNatClampNeg ((16 * v_14) + v3))), .int (σ_15.I 1136 a0)]) (x_linkV (M := mX12_takeNamed) (M' := mX12_areSame) (As := [.int (σ_15.AI a_17 (Int32.toNatClampNeg ((16 * v_14) + v3))), .int (σ_15.I 1136 a0)]) (index := 181) (C := RX12) (T := TX12) (xE_12 c_19) rfl wd_673 wd_674 (wG_in (List.mem_append_left _ (List.mem_of_getElem? (i := 46) rfl)) rfl) xw_X12_areSame rfl (by decide) rfl rfl dX12_takeNamed_61) (ev_X12_areSame hO hP h_22) xw_X12_areSame rfl wd_198 dX12_takeNamed_61 (by decide) (by decide) (by simp [x_cat, x_catI, x_catJ])
                cases h
                exact x_callX z9 (evX_out rfl)
            · have z9 := x_call (M := mX12_takeNamed) (M' := mX12_insCell) (pc := 50) (st := [.int v1, va_rf (some a0), .int 16, va_rf (σ_8.R 1131 a0), va_rf (some a0)]) (rest := [.int 16, va_rf (σ_8.R 1131 a0), va_rf (some a0)]) (av := [va_rf (some a0), .int v1]) (x_linkV (M := mX12_takeNamed) (M' := mX12_insCell) (As := [.int v1]) (index := 221) (C := RX12) (T := TX12) (xE_12 c_13) rfl wd_718 wd_719 (wG_in (List.mem_append_left _ (List.mem_of_getElem? (i := 66) rfl)) rfl) xw_X12_insCell rfl (by decide) rfl rfl dX12_takeNamed_50) (ev_X12_insCell hO hP h_16) xw_X12_insCell rfl wd_198 dX12_takeNamed_50 (by decide) (by decide) (by simp [x_cat, x_catI, x_catJ])
              cases h
              exact x_callX z9 (evX_out rfl)
        · have z9 := x_call (M := mX12_takeNamed) (M' := mX12_insCell) (pc := 32) (st := [.int v1, va_rf (some a0), va_rf (σ_2.R 1129 a0), .int v3]) (rest := [va_rf (σ_2.R 1129 a0), .int v3]) (av := [va_rf (some a0), .int v1]) (x_linkV (M := mX12_takeNamed) (M' := mX12_insCell) (As := [.int v1]) (index := 221) (C := RX12) (T := TX12) (xE_12 c_6) rfl wd_718 wd_719 (wG_in (List.mem_append_left _ (List.mem_of_getElem? (i := 66) rfl)) rfl) xw_X12_insCell rfl (by decide) rfl rfl dX12_takeNamed_32) (ev_X12_insCell hO hP h_9) xw_X12_insCell rfl wd_198 dX12_takeNamed_32 (by decide) (by decide) (by simp [x_cat, x_catI, x_catJ])
          cases h
          exact x_callX z9 (evX_out rfl)
    · have z9 := x_call (M := mX12_takeNamed) (M' := mX12_ok) (pc := 19) (st := [va_rf (some a0)]) (rest := []) (av := [va_rf (some a0)]) (x_linkV (M := mX12_takeNamed) (M' := mX12_ok) (As := []) (index := 121) (C := RX12) (T := TX12) (xE_12 c_4) rfl wd_640 wd_641 (wG_in (List.mem_append_left _ (List.mem_of_getElem? (i := 37) rfl)) rfl) xw_X12_ok rfl (by decide) rfl rfl dX12_takeNamed_19) (ev_X12_ok hO hP h_3) xw_X12_ok rfl wd_198 dX12_takeNamed_19 (by decide) (by decide) (by simp [x_cat, x_catI, x_catJ])
      cases h
      exact x_callX z9 (evX_out rfl)
set_option maxHeartbeats 4000000 in
set_option maxRecDepth 100000 in
theorem ev_X12_takeNamed {l : Launch} {G : xG} (hO : x_OK l G) {P : xP} (hP : x_PG P G) {a0 : Nat} {v1 : Int32} {σ σ' : xS} {rr : Unit ⊕ String} (h : dm_X12_takeNamed P a0 v1 σ = some (rr, σ')) : EvM l G mX12_takeNamed [va_rf (some a0), .int v1] σ (xrV rr) σ' := by
  unfold dm_X12_takeNamed at h
  refine evM_of hO (by decide +kernel) (x_lenI (by simp [x_cat, x_catI, x_catJ, mX12_takeNamed, xM.maxL])) ?_
  refine Eq.mp (congrArg (fun z => Ev l G mX12_takeNamed 0 z [] σ (xrV rr) σ') (show [(0, va_rf (some a0)), (1, .int v1)] = lv_args 0 [va_rf (some a0), .int v1] by simp [lv_args, x_cat, x_catI, x_catJ])) ?_
  refine ev_aload_n (j := 0) (x := (some a0)) dX12_takeNamed_0 rfl rfl ?_
  refine ev_iload_n (j := 1) (x := v1) dX12_takeNamed_1 rfl rfl ?_
  obtain ⟨c_4, h⟩ := x_chk_e h
  rcases x_bind_e h with ⟨v_1, σ_2, h_3, h⟩ | ⟨E_15, σ_2, h_3, h⟩
  · have z9 := x_call (M := mX12_takeNamed) (M' := mX12_addLink) (pc := 2) (st := [.int v1, va_rf (some a0)]) (rest := []) (av := [va_rf (some a0), .int v1]) (x_linkV (M := mX12_takeNamed) (M' := mX12_addLink) (As := [.int v1]) (index := 224) (C := RX12) (T := TX12) (xE_12 c_4) rfl wd_721 wd_722 (wG_in (List.mem_append_left _ (List.mem_of_getElem? (i := 68) rfl)) rfl) xw_X12_addLink rfl (by decide) rfl rfl dX12_takeNamed_2) (ev_X12_addLink hO hP h_3) xw_X12_addLink rfl wd_198 dX12_takeNamed_2 (by decide) (by decide) (by simp [x_cat, x_catI, x_catJ])
    refine x_callR z9 ?_
    refine ev_at (st' := [.int v_1]) rfl rfl ?_
    refine ev_istore_n (i := 2) (lv' := [(2, .int v_1), (0, va_rf (some a0)), (1, .int v1)]) dX12_takeNamed_5 rfl (by decide) rfl ?_
    refine ev_aload_n (j := 1) (x := (some a0)) dX12_takeNamed_6 rfl rfl ?_
    refine ev_bipush (v := 46) dX12_takeNamed_7 (by decide) ?_
    obtain ⟨c_8, h⟩ := x_chk_e h
    rcases x_bind_e h with ⟨v_5, σ_6, h_7, h⟩ | ⟨E_14, σ_6, h_7, h⟩
    · have z9 := x_call (M := mX12_takeNamed) (M' := mX12_needSign) (pc := 9) (st := [.int 46, va_rf (some a0)]) (rest := []) (av := [va_rf (some a0), .int 46]) (x_linkV (M := mX12_takeNamed) (M' := mX12_needSign) (As := [.int 46]) (index := 199) (C := RX12) (T := TX12) (xE_12 c_8) rfl wd_697 wd_698 (wG_in (List.mem_append_left _ (List.mem_of_getElem? (i := 49) rfl)) rfl) xw_X12_needSign rfl (by decide) rfl rfl dX12_takeNamed_9) (ev_X12_needSign hO hP h_7) xw_X12_needSign rfl wd_198 dX12_takeNamed_9 (by decide) (by decide) (by simp [x_cat, x_catI, x_catJ])
      refine x_callR z9 ?_
      refine ev_at (st' := []) rfl rfl ?_
      refine ev_aload_n (j := 1) (x := (some a0)) dX12_takeNamed_12 rfl rfl ?_
      obtain ⟨c_12, h⟩ := x_chk_e h
      rcases x_bind_e h with ⟨v_9, σ_10, h_11, h⟩ | ⟨E_13, σ_10, h_11, h⟩
      · have z9 := x_call (M := mX12_takeNamed) (M' := mX12_needName) (pc := 13) (st := [va_rf (some a0)]) (rest := []) (av := [va_rf (some a0)]) (x_linkV (M := mX12_takeNamed) (M' := mX12_needName) (As := []) (index := 185) (C := RX12) (T := TX12) (xE_12 c_12) rfl wd_670 wd_671 (wG_in (List.mem_append_left _ (List.mem_of_getElem? (i := 45) rfl)) rfl) xw_X12_needName rfl (by decide) rfl rfl dX12_takeNamed_13) (ev_X12_needName hO hP h_11) xw_X12_needName rfl wd_198 dX12_takeNamed_13 (by decide) (by decide) (by simp [x_cat, x_catI, x_catJ])
        refine x_callR z9 ?_
        refine ev_at (st' := []) rfl rfl ?_
        refine ev_iconst (v := 0) dX12_takeNamed_16 (by decide) ?_
        refine ev_istore_n (i := 3) (lv' := [(3, .int 0), (2, .int v_1), (0, va_rf (some a0)), (1, .int v1)]) dX12_takeNamed_17 rfl (by decide) rfl ?_
        exact ev_sub [2, 3, 1, 0] rfl (ev_X12_takeNamed_L18 hO hP P.N h)
      · have z9 := x_call (M := mX12_takeNamed) (M' := mX12_needName) (pc := 13) (st := [va_rf (some a0)]) (rest := []) (av := [va_rf (some a0)]) (x_linkV (M := mX12_takeNamed) (M' := mX12_needName) (As := []) (index := 185) (C := RX12) (T := TX12) (xE_12 c_12) rfl wd_670 wd_671 (wG_in (List.mem_append_left _ (List.mem_of_getElem? (i := 45) rfl)) rfl) xw_X12_needName rfl (by decide) rfl rfl dX12_takeNamed_13) (ev_X12_needName hO hP h_11) xw_X12_needName rfl wd_198 dX12_takeNamed_13 (by decide) (by decide) (by simp [x_cat, x_catI, x_catJ])
        cases h
        exact x_callX z9 (evX_out rfl)
    · have z9 := x_call (M := mX12_takeNamed) (M' := mX12_needSign) (pc := 9) (st := [.int 46, va_rf (some a0)]) (rest := []) (av := [va_rf (some a0), .int 46]) (x_linkV (M := mX12_takeNamed) (M' := mX12_needSign) (As := [.int 46]) (index := 199) (C := RX12) (T := TX12) (xE_12 c_8) rfl wd_697 wd_698 (wG_in (List.mem_append_left _ (List.mem_of_getElem? (i := 49) rfl)) rfl) xw_X12_needSign rfl (by decide) rfl rfl dX12_takeNamed_9) (ev_X12_needSign hO hP h_7) xw_X12_needSign rfl wd_198 dX12_takeNamed_9 (by decide) (by decide) (by simp [x_cat, x_catI, x_catJ])
      cases h
      exact x_callX z9 (evX_out rfl)
  · have z9 := x_call (M := mX12_takeNamed) (M' := mX12_addLink) (pc := 2) (st := [.int v1, va_rf (some a0)]) (rest := []) (av := [va_rf (some a0), .int v1]) (x_linkV (M := mX12_takeNamed) (M' := mX12_addLink) (As := [.int v1]) (index := 224) (C := RX12) (T := TX12) (xE_12 c_4) rfl wd_721 wd_722 (wG_in (List.mem_append_left _ (List.mem_of_getElem? (i := 68) rfl)) rfl) xw_X12_addLink rfl (by decide) rfl rfl dX12_takeNamed_2) (ev_X12_addLink hO hP h_3) xw_X12_addLink rfl wd_198 dX12_takeNamed_2 (by decide) (by decide) (by simp [x_cat, x_catI, x_catJ])
    cases h
    exact x_callX z9 (evX_out rfl)
set_option maxHeartbeats 4000000 in
set_option maxRecDepth 100000 in
theorem ev_X12_takeOrdered_p63 {l : Launch} {G : xG} (hO : x_OK l G) {P : xP} (hP : x_PG P G) {a0 : Nat} {σ σ' : xS} {rr : Unit ⊕ String} (h : dm_X12_takeOrdered_p63 P a0 σ = some (rr, σ')) : Ev l G mX12_takeOrdered 63 [] [] σ (xrV rr) σ' := by
  unfold dm_X12_takeOrdered_p63 at h
  cases h
  exact ev_vret rfl dX12_takeOrdered_63
set_option maxHeartbeats 4000000 in
set_option maxRecDepth 100000 in
theorem ev_X12_takeOrdered_p46 {l : Launch} {G : xG} (hO : x_OK l G) {P : xP} (hP : x_PG P G) {a0 : Nat} {v3 : Int32} {s0 : Int32} {σ σ' : xS} {rr : Unit ⊕ String} (h : dm_X12_takeOrdered_p46 P a0 v3 s0 σ = some (rr, σ')) : Ev l G mX12_takeOrdered 46 [(0, va_rf (some a0)), (3, .int v3)] [.int s0] σ (xrV rr) σ' := by
  unfold dm_X12_takeOrdered_p46 at h
  refine ev_istore (i := 4) (lv' := [(4, .int s0), (0, va_rf (some a0)), (3, .int v3)]) dX12_takeOrdered_46 (by decide) rfl ?_
  refine ev_aload_n (j := 1) (x := (some a0)) dX12_takeOrdered_48 rfl rfl ?_
  obtain ⟨c_4, h⟩ := x_chk_e h
  rcases x_bind_e h with ⟨v_1, σ_2, h_3, h⟩ | ⟨E_10, σ_2, h_3, h⟩
  · have z9 := x_call (M := mX12_takeOrdered) (M' := mX12_ok) (pc := 49) (st := [va_rf (some a0)]) (rest := []) (av := [va_rf (some a0)]) (x_linkV (M := mX12_takeOrdered) (M' := mX12_ok) (As := []) (index := 121) (C := RX12) (T := TX12) (xE_12 c_4) rfl wd_640 wd_641 (wG_in (List.mem_append_left _ (List.mem_of_getElem? (i := 37) rfl)) rfl) xw_X12_ok rfl (by decide) rfl rfl dX12_takeOrdered_49) (ev_X12_ok hO hP h_3) xw_X12_ok rfl wd_198 dX12_takeOrdered_49 (by decide) (by decide) (by simp [x_cat, x_catI, x_catJ])
    refine x_callR z9 ?_
    refine ev_at (st' := [.int v_1]) rfl rfl ?_
    by_cases c_5 : v_1 = 0
    · rw [if_pos c_5] at h
      refine ev_if_eq (x := v_1) (tgt := 63) dX12_takeOrdered_52 (by decide) (fun _ => ?_) (fun q9 => absurd c_5 q9)
      exact ev_sub [] rfl (ev_X12_takeOrdered_p63 hO hP h)
    · rw [if_neg c_5] at h
      refine ev_if_eq (x := v_1) (tgt := 63) dX12_takeOrdered_52 (by decide) (fun q9 => absurd q9 c_5) (fun _ => ?_)
      refine ev_aload_n (j := 1) (x := (some a0)) dX12_takeOrdered_55 rfl rfl ?_
      obtain ⟨c_6, h⟩ := x_chk_e h
      refine ev_get (C := RX12) (T := TX12) (k := 30) inX12 (xE_12 c_6) rfl (by decide) wd_178 (Or.inl rfl) rfl dX12_takeOrdered_56 ?_
      refine ev_iload_n (j := 2) (x := v3) dX12_takeOrdered_59 rfl rfl ?_
      refine ev_iload (j := 0) (x := s0) dX12_takeOrdered_60 rfl ?_
      obtain ⟨a_7, ea_7, h⟩ := x_some_e h
      refine ev_at (st' := [.int s0, .int v3, va_rf (some a_7)]) rfl (by rw [ea_7]) ?_
      obtain ⟨c_8, h⟩ := x_chk_e h
      obtain ⟨σ_9, eσ_9, h⟩ := x_let_e h
      refine ev_iast_31 c_8.1 c_8.2.1 (hP.2.2.2.1 ▸ c_8.2.2) dX12_takeOrdered_62 (eσ_9 ▸ ?_)
      exact ev_sub [] rfl (ev_X12_takeOrdered_p63 hO hP h)
  · have z9 := x_call (M := mX12_takeOrdered) (M' := mX12_ok) (pc := 49) (st := [va_rf (some a0)]) (rest := []) (av := [va_rf (some a0)]) (x_linkV (M := mX12_takeOrdered) (M' := mX12_ok) (As := []) (index := 121) (C := RX12) (T := TX12) (xE_12 c_4) rfl wd_640 wd_641 (wG_in (List.mem_append_left _ (List.mem_of_getElem? (i := 37) rfl)) rfl) xw_X12_ok rfl (by decide) rfl rfl dX12_takeOrdered_49) (ev_X12_ok hO hP h_3) xw_X12_ok rfl wd_198 dX12_takeOrdered_49 (by decide) (by decide) (by simp [x_cat, x_catI, x_catJ])
    cases h
    exact x_callX z9 (evX_out rfl)
set_option maxHeartbeats 4000000 in
set_option maxRecDepth 100000 in
theorem ev_X12_takeOrdered {l : Launch} {G : xG} (hO : x_OK l G) {P : xP} (hP : x_PG P G) {a0 : Nat} {v1 : Int32} {v2 : Int32} {σ σ' : xS} {rr : Unit ⊕ String} (h : dm_X12_takeOrdered P a0 v1 v2 σ = some (rr, σ')) : EvM l G mX12_takeOrdered [va_rf (some a0), .int v1, .int v2] σ (xrV rr) σ' := by
  unfold dm_X12_takeOrdered at h
  refine evM_of hO (by decide +kernel) (x_lenI (by simp [x_cat, x_catI, x_catJ, mX12_takeOrdered, xM.maxL])) ?_
  refine Eq.mp (congrArg (fun z => Ev l G mX12_takeOrdered 0 z [] σ (xrV rr) σ') (show [(0, va_rf (some a0)), (1, .int v1), (2, .int v2)] = lv_args 0 [va_rf (some a0), .int v1, .int v2] by simp [lv_args, x_cat, x_catI, x_catJ])) ?_
  refine ev_aload_n (j := 0) (x := (some a0)) dX12_takeOrdered_0 rfl rfl ?_
  refine ev_iload_n (j := 1) (x := v1) dX12_takeOrdered_1 rfl rfl ?_
  obtain ⟨c_4, h⟩ := x_chk_e h
  rcases x_bind_e h with ⟨v_1, σ_2, h_3, h⟩ | ⟨E_33, σ_2, h_3, h⟩
  · have z9 := x_call (M := mX12_takeOrdered) (M' := mX12_addLink) (pc := 2) (st := [.int v1, va_rf (some a0)]) (rest := []) (av := [va_rf (some a0), .int v1]) (x_linkV (M := mX12_takeOrdered) (M' := mX12_addLink) (As := [.int v1]) (index := 224) (C := RX12) (T := TX12) (xE_12 c_4) rfl wd_721 wd_722 (wG_in (List.mem_append_left _ (List.mem_of_getElem? (i := 68) rfl)) rfl) xw_X12_addLink rfl (by decide) rfl rfl dX12_takeOrdered_2) (ev_X12_addLink hO hP h_3) xw_X12_addLink rfl wd_198 dX12_takeOrdered_2 (by decide) (by decide) (by simp [x_cat, x_catI, x_catJ])
    refine x_callR z9 ?_
    refine ev_at (st' := [.int v_1]) rfl rfl ?_
    refine ev_istore_n (i := 3) (lv' := [(3, .int v_1), (0, va_rf (some a0)), (1, .int v1), (2, .int v2)]) dX12_takeOrdered_5 rfl (by decide) rfl ?_
    refine ev_aload_n (j := 1) (x := (some a0)) dX12_takeOrdered_6 rfl rfl ?_
    refine ev_bipush (v := 45) dX12_takeOrdered_7 (by decide) ?_
    obtain ⟨c_8, h⟩ := x_chk_e h
    rcases x_bind_e h with ⟨v_5, σ_6, h_7, h⟩ | ⟨E_32, σ_6, h_7, h⟩
    · have z9 := x_call (M := mX12_takeOrdered) (M' := mX12_isSign) (pc := 9) (st := [.int 45, va_rf (some a0)]) (rest := []) (av := [va_rf (some a0), .int 45]) (x_linkV (M := mX12_takeOrdered) (M' := mX12_isSign) (As := [.int 45]) (index := 166) (C := RX12) (T := TX12) (xE_12 c_8) rfl wd_682 wd_683 (wG_in (List.mem_append_left _ (List.mem_of_getElem? (i := 50) rfl)) rfl) xw_X12_isSign rfl (by decide) rfl rfl dX12_takeOrdered_9) (ev_X12_isSign hO hP h_7) xw_X12_isSign rfl wd_198 dX12_takeOrdered_9 (by decide) (by decide) (by simp [x_cat, x_catI, x_catJ])
      refine x_callR z9 ?_
      refine ev_at (st' := [.int v_5]) rfl rfl ?_
      by_cases c_9 : v_5 = 0
      · rw [if_pos c_9] at h
        refine ev_if_eq (x := v_5) (tgt := 20) dX12_takeOrdered_12 (by decide) (fun _ => ?_) (fun q9 => absurd c_9 q9)
        refine ev_aload_n (j := 1) (x := (some a0)) dX12_takeOrdered_20 rfl rfl ?_
        obtain ⟨c_13, h⟩ := x_chk_e h
        rcases x_bind_e h with ⟨v_10, σ_11, h_12, h⟩ | ⟨E_26, σ_11, h_12, h⟩
        · have z9 := x_call (M := mX12_takeOrdered) (M' := mX12_ok) (pc := 21) (st := [va_rf (some a0)]) (rest := []) (av := [va_rf (some a0)]) (x_linkV (M := mX12_takeOrdered) (M' := mX12_ok) (As := []) (index := 121) (C := RX12) (T := TX12) (xE_12 c_13) rfl wd_640 wd_641 (wG_in (List.mem_append_left _ (List.mem_of_getElem? (i := 37) rfl)) rfl) xw_X12_ok rfl (by decide) rfl rfl dX12_takeOrdered_21) (ev_X12_ok hO hP h_12) xw_X12_ok rfl wd_198 dX12_takeOrdered_21 (by decide) (by decide) (by simp [x_cat, x_catI, x_catJ])
          refine x_callR z9 ?_
          refine ev_at (st' := [.int v_10]) rfl rfl ?_
          by_cases c_14 : v_10 = 0
          · rw [if_pos c_14] at h
            refine ev_if_eq (x := v_10) (tgt := 45) dX12_takeOrdered_24 (by decide) (fun _ => ?_) (fun q9 => absurd c_14 q9)
            refine ev_iconst (v := -1) dX12_takeOrdered_45 (by decide) ?_
            exact ev_sub [1, 0] rfl (ev_X12_takeOrdered_p46 hO hP h)
          · rw [if_neg c_14] at h
            refine ev_if_eq (x := v_10) (tgt := 45) dX12_takeOrdered_24 (by decide) (fun q9 => absurd q9 c_14) (fun _ => ?_)
            refine ev_iload_n (j := 3) (x := v2) dX12_takeOrdered_27 rfl rfl ?_
            by_cases c_15 : v2 = 0
            · rw [if_pos c_15] at h
              refine ev_if_eq (x := v2) (tgt := 38) dX12_takeOrdered_28 (by decide) (fun _ => ?_) (fun q9 => absurd c_15 q9)
              refine ev_aload_n (j := 1) (x := (some a0)) dX12_takeOrdered_38 rfl rfl ?_
              obtain ⟨c_19, h⟩ := x_chk_e h
              rcases x_bind_e h with ⟨v_16, σ_17, h_18, h⟩ | ⟨E_20, σ_17, h_18, h⟩
              · have z9 := x_call (M := mX12_takeOrdered) (M' := mX12_shortRef) (pc := 39) (st := [va_rf (some a0)]) (rest := []) (av := [va_rf (some a0)]) (x_linkV (M := mX12_takeOrdered) (M' := mX12_shortRef) (As := []) (index := 218) (C := RX12) (T := TX12) (xE_12 c_19) rfl wd_712 wd_713 (wG_in (List.mem_append_left _ (List.mem_of_getElem? (i := 63) rfl)) rfl) xw_X12_shortRef rfl (by decide) rfl rfl dX12_takeOrdered_39) (ev_X12_shortRef hO hP h_18) xw_X12_shortRef rfl wd_198 dX12_takeOrdered_39 (by decide) (by decide) (by simp [x_cat, x_catI, x_catJ])
                refine x_callR z9 ?_
                refine ev_at (st' := [.int v_16]) rfl rfl ?_
                refine ev_goto (tgt := 46) dX12_takeOrdered_42 (by decide) ?_
                exact ev_sub [1, 0] rfl (ev_X12_takeOrdered_p46 hO hP h)
              · have z9 := x_call (M := mX12_takeOrdered) (M' := mX12_shortRef) (pc := 39) (st := [va_rf (some a0)]) (rest := []) (av := [va_rf (some a0)]) (x_linkV (M := mX12_takeOrdered) (M' := mX12_shortRef) (As := []) (index := 218) (C := RX12) (T := TX12) (xE_12 c_19) rfl wd_712 wd_713 (wG_in (List.mem_append_left _ (List.mem_of_getElem? (i := 63) rfl)) rfl) xw_X12_shortRef rfl (by decide) rfl rfl dX12_takeOrdered_39) (ev_X12_shortRef hO hP h_18) xw_X12_shortRef rfl wd_198 dX12_takeOrdered_39 (by decide) (by decide) (by simp [x_cat, x_catI, x_catJ])
                cases h
                exact x_callX z9 (evX_out rfl)
            · rw [if_neg c_15] at h
              refine ev_if_eq (x := v2) (tgt := 38) dX12_takeOrdered_28 (by decide) (fun q9 => absurd q9 c_15) (fun _ => ?_)
              refine ev_aload_n (j := 1) (x := (some a0)) dX12_takeOrdered_31 rfl rfl ?_
              obtain ⟨c_24, h⟩ := x_chk_e h
              rcases x_bind_e h with ⟨v_21, σ_22, h_23, h⟩ | ⟨E_25, σ_22, h_23, h⟩
              · have z9 := x_call (M := mX12_takeOrdered) (M' := mX12_longRef) (pc := 32) (st := [va_rf (some a0)]) (rest := []) (av := [va_rf (some a0)]) (x_linkV (M := mX12_takeOrdered) (M' := mX12_longRef) (As := []) (index := 215) (C := RX12) (T := TX12) (xE_12 c_24) rfl wd_715 wd_716 (wG_in (List.mem_append_left _ (List.mem_of_getElem? (i := 59) rfl)) rfl) xw_X12_longRef rfl (by decide) rfl rfl dX12_takeOrdered_32) (ev_X12_longRef hO hP h_23) xw_X12_longRef rfl wd_198 dX12_takeOrdered_32 (by decide) (by decide) (by simp [x_cat, x_catI, x_catJ])
                refine x_callR z9 ?_
                refine ev_at (st' := [.int v_21]) rfl rfl ?_
                refine ev_goto (tgt := 46) dX12_takeOrdered_35 (by decide) ?_
                exact ev_sub [1, 0] rfl (ev_X12_takeOrdered_p46 hO hP h)
              · have z9 := x_call (M := mX12_takeOrdered) (M' := mX12_longRef) (pc := 32) (st := [va_rf (some a0)]) (rest := []) (av := [va_rf (some a0)]) (x_linkV (M := mX12_takeOrdered) (M' := mX12_longRef) (As := []) (index := 215) (C := RX12) (T := TX12) (xE_12 c_24) rfl wd_715 wd_716 (wG_in (List.mem_append_left _ (List.mem_of_getElem? (i := 59) rfl)) rfl) xw_X12_longRef rfl (by decide) rfl rfl dX12_takeOrdered_32) (ev_X12_longRef hO hP h_23) xw_X12_longRef rfl wd_198 dX12_takeOrdered_32 (by decide) (by decide) (by simp [x_cat, x_catI, x_catJ])
                cases h
                exact x_callX z9 (evX_out rfl)
        · have z9 := x_call (M := mX12_takeOrdered) (M' := mX12_ok) (pc := 21) (st := [va_rf (some a0)]) (rest := []) (av := [va_rf (some a0)]) (x_linkV (M := mX12_takeOrdered) (M' := mX12_ok) (As := []) (index := 121) (C := RX12) (T := TX12) (xE_12 c_13) rfl wd_640 wd_641 (wG_in (List.mem_append_left _ (List.mem_of_getElem? (i := 37) rfl)) rfl) xw_X12_ok rfl (by decide) rfl rfl dX12_takeOrdered_21) (ev_X12_ok hO hP h_12) xw_X12_ok rfl wd_198 dX12_takeOrdered_21 (by decide) (by decide) (by simp [x_cat, x_catI, x_catJ])
          cases h
          exact x_callX z9 (evX_out rfl)
      · rw [if_neg c_9] at h
        refine ev_if_eq (x := v_5) (tgt := 20) dX12_takeOrdered_12 (by decide) (fun q9 => absurd q9 c_9) (fun _ => ?_)
        refine ev_aload_n (j := 1) (x := (some a0)) dX12_takeOrdered_15 rfl rfl ?_
        obtain ⟨c_30, h⟩ := x_chk_e h
        rcases x_bind_e h with ⟨v_27, σ_28, h_29, h⟩ | ⟨E_31, σ_28, h_29, h⟩
        · have z9 := x_call (M := mX12_takeOrdered) (M' := mX12_next) (pc := 16) (st := [va_rf (some a0)]) (rest := []) (av := [va_rf (some a0)]) (x_linkV (M := mX12_takeOrdered) (M' := mX12_next) (As := []) (index := 169) (C := RX12) (T := TX12) (xE_12 c_30) rfl wd_679 wd_680 (wG_in (List.mem_append_left _ (List.mem_of_getElem? (i := 36) rfl)) rfl) xw_X12_next rfl (by decide) rfl rfl dX12_takeOrdered_16) (ev_X12_next hO hP h_29) xw_X12_next rfl wd_198 dX12_takeOrdered_16 (by decide) (by decide) (by simp [x_cat, x_catI, x_catJ])
          refine x_callR z9 ?_
          refine ev_at (st' := []) rfl rfl ?_
          cases h
          exact ev_vret rfl dX12_takeOrdered_19
        · have z9 := x_call (M := mX12_takeOrdered) (M' := mX12_next) (pc := 16) (st := [va_rf (some a0)]) (rest := []) (av := [va_rf (some a0)]) (x_linkV (M := mX12_takeOrdered) (M' := mX12_next) (As := []) (index := 169) (C := RX12) (T := TX12) (xE_12 c_30) rfl wd_679 wd_680 (wG_in (List.mem_append_left _ (List.mem_of_getElem? (i := 36) rfl)) rfl) xw_X12_next rfl (by decide) rfl rfl dX12_takeOrdered_16) (ev_X12_next hO hP h_29) xw_X12_next rfl wd_198 dX12_takeOrdered_16 (by decide) (by decide) (by simp [x_cat, x_catI, x_catJ])
          cases h
          exact x_callX z9 (evX_out rfl)
    · have z9 := x_call (M := mX12_takeOrdered) (M' := mX12_isSign) (pc := 9) (st := [.int 45, va_rf (some a0)]) (rest := []) (av := [va_rf (some a0), .int 45]) (x_linkV (M := mX12_takeOrdered) (M' := mX12_isSign) (As := [.int 45]) (index := 166) (C := RX12) (T := TX12) (xE_12 c_8) rfl wd_682 wd_683 (wG_in (List.mem_append_left _ (List.mem_of_getElem? (i := 50) rfl)) rfl) xw_X12_isSign rfl (by decide) rfl rfl dX12_takeOrdered_9) (ev_X12_isSign hO hP h_7) xw_X12_isSign rfl wd_198 dX12_takeOrdered_9 (by decide) (by decide) (by simp [x_cat, x_catI, x_catJ])
      cases h
      exact x_callX z9 (evX_out rfl)
  · have z9 := x_call (M := mX12_takeOrdered) (M' := mX12_addLink) (pc := 2) (st := [.int v1, va_rf (some a0)]) (rest := []) (av := [va_rf (some a0), .int v1]) (x_linkV (M := mX12_takeOrdered) (M' := mX12_addLink) (As := [.int v1]) (index := 224) (C := RX12) (T := TX12) (xE_12 c_4) rfl wd_721 wd_722 (wG_in (List.mem_append_left _ (List.mem_of_getElem? (i := 68) rfl)) rfl) xw_X12_addLink rfl (by decide) rfl rfl dX12_takeOrdered_2) (ev_X12_addLink hO hP h_3) xw_X12_addLink rfl wd_198 dX12_takeOrdered_2 (by decide) (by decide) (by simp [x_cat, x_catI, x_catJ])
    cases h
    exact x_callX z9 (evX_out rfl)
set_option maxHeartbeats 4000000 in
set_option maxRecDepth 100000 in
theorem ev_X12_longInstance_p103 {l : Launch} {G : xG} (hO : x_OK l G) {P : xP} (hP : x_PG P G) {a0 : Nat} {k73 : Int32 → Int32 → Int32 → xS → xO Unit} (hk73 : ∀ {v2 : Int32} {v3 : Int32} {v4 : Int32} {σ σ' : xS} {rr : Unit ⊕ String}, k73 v2 v3 v4 σ = some (rr, σ') → Ev l G mX12_longInstance 73 [(0, va_rf (some a0)), (2, .int v2), (3, .int v3), (4, .int v4)] [] σ (xrV rr) σ') {v2 : Int32} {v3 : Int32} {σ σ' : xS} {rr : Unit ⊕ String} (h : dm_X12_longInstance_p103 P k73 a0 v2 v3 σ = some (rr, σ')) : Ev l G mX12_longInstance 103 [(0, va_rf (some a0)), (2, .int v2), (3, .int v3)] [] σ (xrV rr) σ' := by
  unfold dm_X12_longInstance_p103 at h
  refine ev_aload_n (j := 0) (x := (some a0)) dX12_longInstance_103 rfl rfl ?_
  refine ev_bipush (v := 44) dX12_longInstance_104 (by decide) ?_
  obtain ⟨c_4, h⟩ := x_chk_e h
  rcases x_bind_e h with ⟨v_1, σ_2, h_3, h⟩ | ⟨E_11, σ_2, h_3, h⟩
  · have z9 := x_call (M := mX12_longInstance) (M' := mX12_isSign) (pc := 106) (st := [.int 44, va_rf (some a0)]) (rest := []) (av := [va_rf (some a0), .int 44]) (x_linkV (M := mX12_longInstance) (M' := mX12_isSign) (As := [.int 44]) (index := 166) (C := RX12) (T := TX12) (xE_12 c_4) rfl wd_682 wd_683 (wG_in (List.mem_append_left _ (List.mem_of_getElem? (i := 50) rfl)) rfl) xw_X12_isSign rfl (by decide) rfl rfl dX12_longInstance_106) (ev_X12_isSign hO hP h_3) xw_X12_isSign rfl wd_198 dX12_longInstance_106 (by decide) (by decide) (by simp [x_cat, x_catI, x_catJ])
    refine x_callR z9 ?_
    refine ev_at (st' := [.int v_1]) rfl rfl ?_
    refine ev_istore (i := 4) (lv' := [(4, .int v_1), (0, va_rf (some a0)), (2, .int v2), (3, .int v3)]) dX12_longInstance_109 (by decide) rfl ?_
    refine ev_iload (j := 0) (x := v_1) dX12_longInstance_111 rfl ?_
    by_cases c_5 : v_1 = 0
    · rw [if_pos c_5] at h
      refine ev_if_eq (x := v_1) (tgt := 73) dX12_longInstance_113 (by decide) (fun _ => ?_) (fun q9 => absurd c_5 q9)
      exact ev_sub [1, 2, 3, 0] rfl (hk73 h)
    · rw [if_neg c_5] at h
      refine ev_if_eq (x := v_1) (tgt := 73) dX12_longInstance_113 (by decide) (fun q9 => absurd q9 c_5) (fun _ => ?_)
      refine ev_aload_n (j := 1) (x := (some a0)) dX12_longInstance_116 rfl rfl ?_
      obtain ⟨c_9, h⟩ := x_chk_e h
      rcases x_bind_e h with ⟨v_6, σ_7, h_8, h⟩ | ⟨E_10, σ_7, h_8, h⟩
      · have z9 := x_call (M := mX12_longInstance) (M' := mX12_next) (pc := 117) (st := [va_rf (some a0)]) (rest := []) (av := [va_rf (some a0)]) (x_linkV (M := mX12_longInstance) (M' := mX12_next) (As := []) (index := 169) (C := RX12) (T := TX12) (xE_12 c_9) rfl wd_679 wd_680 (wG_in (List.mem_append_left _ (List.mem_of_getElem? (i := 36) rfl)) rfl) xw_X12_next rfl (by decide) rfl rfl dX12_longInstance_117) (ev_X12_next hO hP h_8) xw_X12_next rfl wd_198 dX12_longInstance_117 (by decide) (by decide) (by simp [x_cat, x_catI, x_catJ])
        refine x_callR z9 ?_
        refine ev_at (st' := []) rfl rfl ?_
        refine ev_goto (tgt := 73) dX12_longInstance_120 (by decide) ?_
        exact ev_sub [1, 2, 3, 0] rfl (hk73 h)
      · have z9 := x_call (M := mX12_longInstance) (M' := mX12_next) (pc := 117) (st := [va_rf (some a0)]) (rest := []) (av := [va_rf (some a0)]) (x_linkV (M := mX12_longInstance) (M' := mX12_next) (As := []) (index := 169) (C := RX12) (T := TX12) (xE_12 c_9) rfl wd_679 wd_680 (wG_in (List.mem_append_left _ (List.mem_of_getElem? (i := 36) rfl)) rfl) xw_X12_next rfl (by decide) rfl rfl dX12_longInstance_117) (ev_X12_next hO hP h_8) xw_X12_next rfl wd_198 dX12_longInstance_117 (by decide) (by decide) (by simp [x_cat, x_catI, x_catJ])
        cases h
        exact x_callX z9 (evX_out rfl)
  · have z9 := x_call (M := mX12_longInstance) (M' := mX12_isSign) (pc := 106) (st := [.int 44, va_rf (some a0)]) (rest := []) (av := [va_rf (some a0), .int 44]) (x_linkV (M := mX12_longInstance) (M' := mX12_isSign) (As := [.int 44]) (index := 166) (C := RX12) (T := TX12) (xE_12 c_4) rfl wd_682 wd_683 (wG_in (List.mem_append_left _ (List.mem_of_getElem? (i := 50) rfl)) rfl) xw_X12_isSign rfl (by decide) rfl rfl dX12_longInstance_106) (ev_X12_isSign hO hP h_3) xw_X12_isSign rfl wd_198 dX12_longInstance_106 (by decide) (by decide) (by simp [x_cat, x_catI, x_catJ])
    cases h
    exact x_callX z9 (evX_out rfl)
set_option maxHeartbeats 4000000 in
set_option maxRecDepth 100000 in
theorem ev_X12_longInstance_p123 {l : Launch} {G : xG} (hO : x_OK l G) {P : xP} (hP : x_PG P G) {a0 : Nat} {σ σ' : xS} {rr : Unit ⊕ String} (h : dm_X12_longInstance_p123 P a0 σ = some (rr, σ')) : Ev l G mX12_longInstance 123 [(0, va_rf (some a0))] [] σ (xrV rr) σ' := by
  unfold dm_X12_longInstance_p123 at h
  refine ev_aload_n (j := 0) (x := (some a0)) dX12_longInstance_123 rfl rfl ?_
  refine ev_bipush (v := 41) dX12_longInstance_124 (by decide) ?_
  obtain ⟨c_4, h⟩ := x_chk_e h
  rcases x_bind_e h with ⟨v_1, σ_2, h_3, h⟩ | ⟨E_10, σ_2, h_3, h⟩
  · have z9 := x_call (M := mX12_longInstance) (M' := mX12_needSign) (pc := 126) (st := [.int 41, va_rf (some a0)]) (rest := []) (av := [va_rf (some a0), .int 41]) (x_linkV (M := mX12_longInstance) (M' := mX12_needSign) (As := [.int 41]) (index := 199) (C := RX12) (T := TX12) (xE_12 c_4) rfl wd_697 wd_698 (wG_in (List.mem_append_left _ (List.mem_of_getElem? (i := 49) rfl)) rfl) xw_X12_needSign rfl (by decide) rfl rfl dX12_longInstance_126) (ev_X12_needSign hO hP h_3) xw_X12_needSign rfl wd_198 dX12_longInstance_126 (by decide) (by decide) (by simp [x_cat, x_catI, x_catJ])
    refine x_callR z9 ?_
    refine ev_at (st' := []) rfl rfl ?_
    refine ev_aload_n (j := 0) (x := (some a0)) dX12_longInstance_129 rfl rfl ?_
    refine ev_bipush (v := 59) dX12_longInstance_130 (by decide) ?_
    obtain ⟨c_8, h⟩ := x_chk_e h
    rcases x_bind_e h with ⟨v_5, σ_6, h_7, h⟩ | ⟨E_9, σ_6, h_7, h⟩
    · have z9 := x_call (M := mX12_longInstance) (M' := mX12_needSign) (pc := 132) (st := [.int 59, va_rf (some a0)]) (rest := []) (av := [va_rf (some a0), .int 59]) (x_linkV (M := mX12_longInstance) (M' := mX12_needSign) (As := [.int 59]) (index := 199) (C := RX12) (T := TX12) (xE_12 c_8) rfl wd_697 wd_698 (wG_in (List.mem_append_left _ (List.mem_of_getElem? (i := 49) rfl)) rfl) xw_X12_needSign rfl (by decide) rfl rfl dX12_longInstance_132) (ev_X12_needSign hO hP h_7) xw_X12_needSign rfl wd_198 dX12_longInstance_132 (by decide) (by decide) (by simp [x_cat, x_catI, x_catJ])
      refine x_callR z9 ?_
      refine ev_at (st' := []) rfl rfl ?_
      cases h
      exact ev_vret rfl dX12_longInstance_135
    · have z9 := x_call (M := mX12_longInstance) (M' := mX12_needSign) (pc := 132) (st := [.int 59, va_rf (some a0)]) (rest := []) (av := [va_rf (some a0), .int 59]) (x_linkV (M := mX12_longInstance) (M' := mX12_needSign) (As := [.int 59]) (index := 199) (C := RX12) (T := TX12) (xE_12 c_8) rfl wd_697 wd_698 (wG_in (List.mem_append_left _ (List.mem_of_getElem? (i := 49) rfl)) rfl) xw_X12_needSign rfl (by decide) rfl rfl dX12_longInstance_132) (ev_X12_needSign hO hP h_7) xw_X12_needSign rfl wd_198 dX12_longInstance_132 (by decide) (by decide) (by simp [x_cat, x_catI, x_catJ])
      cases h
      exact x_callX z9 (evX_out rfl)
  · have z9 := x_call (M := mX12_longInstance) (M' := mX12_needSign) (pc := 126) (st := [.int 41, va_rf (some a0)]) (rest := []) (av := [va_rf (some a0), .int 41]) (x_linkV (M := mX12_longInstance) (M' := mX12_needSign) (As := [.int 41]) (index := 199) (C := RX12) (T := TX12) (xE_12 c_4) rfl wd_697 wd_698 (wG_in (List.mem_append_left _ (List.mem_of_getElem? (i := 49) rfl)) rfl) xw_X12_needSign rfl (by decide) rfl rfl dX12_longInstance_126) (ev_X12_needSign hO hP h_3) xw_X12_needSign rfl wd_198 dX12_longInstance_126 (by decide) (by decide) (by simp [x_cat, x_catI, x_catJ])
    cases h
    exact x_callX z9 (evX_out rfl)
set_option maxHeartbeats 4000000 in
set_option maxRecDepth 100000 in
theorem ev_X12_longInstance_L73 {l : Launch} {G : xG} (hO : x_OK l G) {P : xP} (hP : x_PG P G) {a0 : Nat} : ∀ (n : Nat) {v2 : Int32} {v3 : Int32} {v4 : Int32} {σ σ' : xS} {rr : Unit ⊕ String}, dm_X12_longInstance_L73 P a0 n v2 v3 v4 σ = some (rr, σ') → Ev l G mX12_longInstance 73 [(0, va_rf (some a0)), (2, .int v2), (3, .int v3), (4, .int v4)] [] σ (xrV rr) σ' := by
  intro n
  induction n with
  | zero => intro v2 v3 v4 σ σ' rr h; cases h
  | succ n ih =>
    intro v2 v3 v4 σ σ' rr h
    rw [dm_X12_longInstance_L73] at h
    refine ev_iload (j := 3) (x := v4) dX12_longInstance_73 rfl ?_
    by_cases c_1 : v4 = 0
    · rw [if_pos c_1] at h
      refine ev_if_eq (x := v4) (tgt := 123) dX12_longInstance_75 (by decide) (fun _ => ?_) (fun q9 => absurd c_1 q9)
      exact ev_sub [0] rfl (ev_X12_longInstance_p123 hO hP h)
    · rw [if_neg c_1] at h
      refine ev_if_eq (x := v4) (tgt := 123) dX12_longInstance_75 (by decide) (fun q9 => absurd q9 c_1) (fun _ => ?_)
      refine ev_aload_n (j := 0) (x := (some a0)) dX12_longInstance_78 rfl rfl ?_
      obtain ⟨c_5, h⟩ := x_chk_e h
      rcases x_bind_e h with ⟨v_2, σ_3, h_4, h⟩ | ⟨E_18, σ_3, h_4, h⟩
      · have z9 := x_call (M := mX12_longInstance) (M' := mX12_ok) (pc := 79) (st := [va_rf (some a0)]) (rest := []) (av := [va_rf (some a0)]) (x_linkV (M := mX12_longInstance) (M' := mX12_ok) (As := []) (index := 121) (C := RX12) (T := TX12) (xE_12 c_5) rfl wd_640 wd_641 (wG_in (List.mem_append_left _ (List.mem_of_getElem? (i := 37) rfl)) rfl) xw_X12_ok rfl (by decide) rfl rfl dX12_longInstance_79) (ev_X12_ok hO hP h_4) xw_X12_ok rfl wd_198 dX12_longInstance_79 (by decide) (by decide) (by simp [x_cat, x_catI, x_catJ])
        refine x_callR z9 ?_
        refine ev_at (st' := [.int v_2]) rfl rfl ?_
        by_cases c_6 : v_2 = 0
        · rw [if_pos c_6] at h
          refine ev_if_eq (x := v_2) (tgt := 123) dX12_longInstance_82 (by decide) (fun _ => ?_) (fun q9 => absurd c_6 q9)
          exact ev_sub [0] rfl (ev_X12_longInstance_p123 hO hP h)
        · rw [if_neg c_6] at h
          refine ev_if_eq (x := v_2) (tgt := 123) dX12_longInstance_82 (by decide) (fun q9 => absurd q9 c_6) (fun _ => ?_)
          refine ev_iload_n (j := 2) (x := v3) dX12_longInstance_85 rfl rfl ?_
          by_cases c_7 : v3 = 0
          · rw [if_pos c_7] at h
            refine ev_if_eq (x := v3) (tgt := 97) dX12_longInstance_86 (by decide) (fun _ => ?_) (fun q9 => absurd c_7 q9)
            refine ev_aload_n (j := 0) (x := (some a0)) dX12_longInstance_97 rfl rfl ?_
            refine ev_iload_n (j := 1) (x := v2) dX12_longInstance_98 rfl rfl ?_
            refine ev_iconst (v := 1) dX12_longInstance_99 (by decide) ?_
            obtain ⟨c_11, h⟩ := x_chk_e h
            rcases x_bind_e h with ⟨v_8, σ_9, h_10, h⟩ | ⟨E_12, σ_9, h_10, h⟩
            · have z9 := x_call (M := mX12_longInstance) (M' := mX12_takeOrdered) (pc := 100) (st := [.int 1, .int v2, va_rf (some a0)]) (rest := []) (av := [va_rf (some a0), .int v2, .int 1]) (x_linkV (M := mX12_longInstance) (M' := mX12_takeOrdered) (As := [.int v2, .int 1]) (index := 233) (C := RX12) (T := TX12) (xE_12 c_11) rfl wd_727 wd_728 (wG_in (List.mem_append_left _ (List.mem_of_getElem? (i := 69) rfl)) rfl) xw_X12_takeOrdered rfl (by decide) rfl rfl dX12_longInstance_100) (ev_X12_takeOrdered hO hP h_10) xw_X12_takeOrdered rfl wd_198 dX12_longInstance_100 (by decide) (by decide) (by simp [x_cat, x_catI, x_catJ])
              refine x_callR z9 ?_
              refine ev_at (st' := []) rfl rfl ?_
              exact ev_sub [0, 1, 2] rfl (ev_X12_longInstance_p103 hO hP ih h)
            · have z9 := x_call (M := mX12_longInstance) (M' := mX12_takeOrdered) (pc := 100) (st := [.int 1, .int v2, va_rf (some a0)]) (rest := []) (av := [va_rf (some a0), .int v2, .int 1]) (x_linkV (M := mX12_longInstance) (M' := mX12_takeOrdered) (As := [.int v2, .int 1]) (index := 233) (C := RX12) (T := TX12) (xE_12 c_11) rfl wd_727 wd_728 (wG_in (List.mem_append_left _ (List.mem_of_getElem? (i := 69) rfl)) rfl) xw_X12_takeOrdered rfl (by decide) rfl rfl dX12_longInstance_100) (ev_X12_takeOrdered hO hP h_10) xw_X12_takeOrdered rfl wd_198 dX12_longInstance_100 (by decide) (by decide) (by simp [x_cat, x_catI, x_catJ])
              cases h
              exact x_callX z9 (evX_out rfl)
          · rw [if_neg c_7] at h
            refine ev_if_eq (x := v3) (tgt := 97) dX12_longInstance_86 (by decide) (fun q9 => absurd q9 c_7) (fun _ => ?_)
            refine ev_aload_n (j := 0) (x := (some a0)) dX12_longInstance_89 rfl rfl ?_
            refine ev_iload_n (j := 1) (x := v2) dX12_longInstance_90 rfl rfl ?_
            obtain ⟨c_16, h⟩ := x_chk_e h
            rcases x_bind_e h with ⟨v_13, σ_14, h_15, h⟩ | ⟨E_17, σ_14, h_15, h⟩
            · have z9 := x_call (M := mX12_longInstance) (M' := mX12_takeNamed) (pc := 91) (st := [.int v2, va_rf (some a0)]) (rest := []) (av := [va_rf (some a0), .int v2]) (x_linkV (M := mX12_longInstance) (M' := mX12_takeNamed) (As := [.int v2]) (index := 230) (C := RX12) (T := TX12) (xE_12 c_16) rfl wd_730 wd_731 (wG_in (List.mem_append_left _ (List.mem_of_getElem? (i := 67) rfl)) rfl) xw_X12_takeNamed rfl (by decide) rfl rfl dX12_longInstance_91) (ev_X12_takeNamed hO hP h_15) xw_X12_takeNamed rfl wd_198 dX12_longInstance_91 (by decide) (by decide) (by simp [x_cat, x_catI, x_catJ])
              refine x_callR z9 ?_
              refine ev_at (st' := []) rfl rfl ?_
              refine ev_goto (tgt := 103) dX12_longInstance_94 (by decide) ?_
              exact ev_sub [0, 1, 2] rfl (ev_X12_longInstance_p103 hO hP ih h)
            · have z9 := x_call (M := mX12_longInstance) (M' := mX12_takeNamed) (pc := 91) (st := [.int v2, va_rf (some a0)]) (rest := []) (av := [va_rf (some a0), .int v2]) (x_linkV (M := mX12_longInstance) (M' := mX12_takeNamed) (As := [.int v2]) (index := 230) (C := RX12) (T := TX12) (xE_12 c_16) rfl wd_730 wd_731 (wG_in (List.mem_append_left _ (List.mem_of_getElem? (i := 67) rfl)) rfl) xw_X12_takeNamed rfl (by decide) rfl rfl dX12_longInstance_91) (ev_X12_takeNamed hO hP h_15) xw_X12_takeNamed rfl wd_198 dX12_longInstance_91 (by decide) (by decide) (by simp [x_cat, x_catI, x_catJ])
              cases h
              exact x_callX z9 (evX_out rfl)
      · have z9 := x_call (M := mX12_longInstance) (M' := mX12_ok) (pc := 79) (st := [va_rf (some a0)]) (rest := []) (av := [va_rf (some a0)]) (x_linkV (M := mX12_longInstance) (M' := mX12_ok) (As := []) (index := 121) (C := RX12) (T := TX12) (xE_12 c_5) rfl wd_640 wd_641 (wG_in (List.mem_append_left _ (List.mem_of_getElem? (i := 37) rfl)) rfl) xw_X12_ok rfl (by decide) rfl rfl dX12_longInstance_79) (ev_X12_ok hO hP h_4) xw_X12_ok rfl wd_198 dX12_longInstance_79 (by decide) (by decide) (by simp [x_cat, x_catI, x_catJ])
        cases h
        exact x_callX z9 (evX_out rfl)
set_option maxHeartbeats 4000000 in
set_option maxRecDepth 100000 in
theorem ev_X12_longInstance_p29 {l : Launch} {G : xG} (hO : x_OK l G) {P : xP} (hP : x_PG P G) {a0 : Nat} {s0 : Int32} {σ σ' : xS} {rr : Unit ⊕ String} (h : dm_X12_longInstance_p29 P a0 s0 σ = some (rr, σ')) : Ev l G mX12_longInstance 29 [(0, va_rf (some a0))] [.int s0] σ (xrV rr) σ' := by
  unfold dm_X12_longInstance_p29 at h
  refine ev_istore_n (i := 2) (lv' := [(2, .int s0), (0, va_rf (some a0))]) dX12_longInstance_29 rfl (by decide) rfl ?_
  refine ev_aload_n (j := 1) (x := (some a0)) dX12_longInstance_30 rfl rfl ?_
  refine ev_bipush (v := 40) dX12_longInstance_31 (by decide) ?_
  obtain ⟨c_4, h⟩ := x_chk_e h
  rcases x_bind_e h with ⟨v_1, σ_2, h_3, h⟩ | ⟨E_30, σ_2, h_3, h⟩
  · have z9 := x_call (M := mX12_longInstance) (M' := mX12_needSign) (pc := 33) (st := [.int 40, va_rf (some a0)]) (rest := []) (av := [va_rf (some a0), .int 40]) (x_linkV (M := mX12_longInstance) (M' := mX12_needSign) (As := [.int 40]) (index := 199) (C := RX12) (T := TX12) (xE_12 c_4) rfl wd_697 wd_698 (wG_in (List.mem_append_left _ (List.mem_of_getElem? (i := 49) rfl)) rfl) xw_X12_needSign rfl (by decide) rfl rfl dX12_longInstance_33) (ev_X12_needSign hO hP h_3) xw_X12_needSign rfl wd_198 dX12_longInstance_33 (by decide) (by decide) (by simp [x_cat, x_catI, x_catJ])
    refine x_callR z9 ?_
    refine ev_at (st' := []) rfl rfl ?_
    refine ev_aload_n (j := 1) (x := (some a0)) dX12_longInstance_36 rfl rfl ?_
    obtain ⟨c_8, h⟩ := x_chk_e h
    rcases x_bind_e h with ⟨v_5, σ_6, h_7, h⟩ | ⟨E_29, σ_6, h_7, h⟩
    · have z9 := x_call (M := mX12_longInstance) (M' := mX12_ok) (pc := 37) (st := [va_rf (some a0)]) (rest := []) (av := [va_rf (some a0)]) (x_linkV (M := mX12_longInstance) (M' := mX12_ok) (As := []) (index := 121) (C := RX12) (T := TX12) (xE_12 c_8) rfl wd_640 wd_641 (wG_in (List.mem_append_left _ (List.mem_of_getElem? (i := 37) rfl)) rfl) xw_X12_ok rfl (by decide) rfl rfl dX12_longInstance_37) (ev_X12_ok hO hP h_7) xw_X12_ok rfl wd_198 dX12_longInstance_37 (by decide) (by decide) (by simp [x_cat, x_catI, x_catJ])
      refine x_callR z9 ?_
      refine ev_at (st' := [.int v_5]) rfl rfl ?_
      by_cases c_9 : v_5 = 0
      · rw [if_pos c_9] at h
        refine ev_if_eq (x := v_5) (tgt := 123) dX12_longInstance_40 (by decide) (fun _ => ?_) (fun q9 => absurd c_9 q9)
        exact ev_sub [1] rfl (ev_X12_longInstance_p123 hO hP h)
      · rw [if_neg c_9] at h
        refine ev_if_eq (x := v_5) (tgt := 123) dX12_longInstance_40 (by decide) (fun q9 => absurd q9 c_9) (fun _ => ?_)
        refine ev_aload_n (j := 1) (x := (some a0)) dX12_longInstance_43 rfl rfl ?_
        refine ev_bipush (v := 41) dX12_longInstance_44 (by decide) ?_
        obtain ⟨c_13, h⟩ := x_chk_e h
        rcases x_bind_e h with ⟨v_10, σ_11, h_12, h⟩ | ⟨E_28, σ_11, h_12, h⟩
        · have z9 := x_call (M := mX12_longInstance) (M' := mX12_isSign) (pc := 46) (st := [.int 41, va_rf (some a0)]) (rest := []) (av := [va_rf (some a0), .int 41]) (x_linkV (M := mX12_longInstance) (M' := mX12_isSign) (As := [.int 41]) (index := 166) (C := RX12) (T := TX12) (xE_12 c_13) rfl wd_682 wd_683 (wG_in (List.mem_append_left _ (List.mem_of_getElem? (i := 50) rfl)) rfl) xw_X12_isSign rfl (by decide) rfl rfl dX12_longInstance_46) (ev_X12_isSign hO hP h_12) xw_X12_isSign rfl wd_198 dX12_longInstance_46 (by decide) (by decide) (by simp [x_cat, x_catI, x_catJ])
          refine x_callR z9 ?_
          refine ev_at (st' := [.int v_10]) rfl rfl ?_
          by_cases c_14 : v_10 = 0
          · rw [if_pos c_14] at h
            refine ev_if_ne (x := v_10) (tgt := 123) dX12_longInstance_49 (by decide) (fun q9 => absurd c_14 q9) (fun _ => ?_)
            refine ev_aload_n (j := 1) (x := (some a0)) dX12_longInstance_52 rfl rfl ?_
            refine ev_bipush (v := 46) dX12_longInstance_53 (by decide) ?_
            obtain ⟨c_18, h⟩ := x_chk_e h
            rcases x_bind_e h with ⟨v_15, σ_16, h_17, h⟩ | ⟨E_27, σ_16, h_17, h⟩
            · have z9 := x_call (M := mX12_longInstance) (M' := mX12_isSign) (pc := 55) (st := [.int 46, va_rf (some a0)]) (rest := []) (av := [va_rf (some a0), .int 46]) (x_linkV (M := mX12_longInstance) (M' := mX12_isSign) (As := [.int 46]) (index := 166) (C := RX12) (T := TX12) (xE_12 c_18) rfl wd_682 wd_683 (wG_in (List.mem_append_left _ (List.mem_of_getElem? (i := 50) rfl)) rfl) xw_X12_isSign rfl (by decide) rfl rfl dX12_longInstance_55) (ev_X12_isSign hO hP h_17) xw_X12_isSign rfl wd_198 dX12_longInstance_55 (by decide) (by decide) (by simp [x_cat, x_catI, x_catJ])
              refine x_callR z9 ?_
              refine ev_at (st' := [.int v_15]) rfl rfl ?_
              refine ev_istore_n (i := 3) (lv' := [(3, .int v_15), (2, .int s0), (0, va_rf (some a0))]) dX12_longInstance_58 rfl (by decide) rfl ?_
              refine ev_aload_n (j := 2) (x := (some a0)) dX12_longInstance_59 rfl rfl ?_
              obtain ⟨c_19, h⟩ := x_chk_e h
              refine ev_get (C := RX12) (T := TX12) (k := 27) inX12 (xE_12 c_19) rfl (by decide) wd_175 (Or.inl rfl) rfl dX12_longInstance_60 ?_
              refine ev_aload_n (j := 2) (x := (some a0)) dX12_longInstance_63 rfl rfl ?_
              refine ev_iload_n (j := 1) (x := s0) dX12_longInstance_64 rfl rfl ?_
              rcases x_bind_e h with ⟨v_20, σ_21, h_22, h⟩ | ⟨E_26, σ_21, h_22, h⟩
              · have z9 := x_call (M := mX12_longInstance) (M' := mX12_insCell) (pc := 65) (st := [.int s0, va_rf (some a0), va_rf (σ_16.R 1127 a0)]) (rest := [va_rf (σ_16.R 1127 a0)]) (av := [va_rf (some a0), .int s0]) (x_linkV (M := mX12_longInstance) (M' := mX12_insCell) (As := [.int s0]) (index := 221) (C := RX12) (T := TX12) (xE_12 c_19) rfl wd_718 wd_719 (wG_in (List.mem_append_left _ (List.mem_of_getElem? (i := 66) rfl)) rfl) xw_X12_insCell rfl (by decide) rfl rfl dX12_longInstance_65) (ev_X12_insCell hO hP h_22) xw_X12_insCell rfl wd_198 dX12_longInstance_65 (by decide) (by decide) (by simp [x_cat, x_catI, x_catJ])
                refine x_callR z9 ?_
                refine ev_at (st' := [.int v_20, va_rf (σ_16.R 1127 a0)]) rfl rfl ?_
                refine ev_iload_n (j := 0) (x := v_15) dX12_longInstance_68 rfl rfl ?_
                obtain ⟨a_23, ea_23, h⟩ := x_some_e h
                refine ev_at (st' := [.int v_15, .int v_20, va_rf (some a_23)]) rfl (by rw [ea_23]) ?_
                obtain ⟨c_24, h⟩ := x_chk_e h
                obtain ⟨σ_25, eσ_25, h⟩ := x_let_e h
                refine ev_zast_33 c_24.1 c_24.2.1 (hP.2.2.2.1 ▸ c_24.2.2.1) (x_boolN c_24.2.2.2) dX12_longInstance_69 (eσ_25 ▸ ?_)
                refine ev_iconst (v := 1) dX12_longInstance_70 (by decide) ?_
                refine ev_istore (i := 4) (lv' := [(4, .int 1), (3, .int v_15), (2, .int s0), (0, va_rf (some a0))]) dX12_longInstance_71 (by decide) rfl ?_
                exact ev_sub [3, 2, 1, 0] rfl (ev_X12_longInstance_L73 hO hP P.N h)
              · have z9 := x_call (M := mX12_longInstance) (M' := mX12_insCell) (pc := 65) (st := [.int s0, va_rf (some a0), va_rf (σ_16.R 1127 a0)]) (rest := [va_rf (σ_16.R 1127 a0)]) (av := [va_rf (some a0), .int s0]) (x_linkV (M := mX12_longInstance) (M' := mX12_insCell) (As := [.int s0]) (index := 221) (C := RX12) (T := TX12) (xE_12 c_19) rfl wd_718 wd_719 (wG_in (List.mem_append_left _ (List.mem_of_getElem? (i := 66) rfl)) rfl) xw_X12_insCell rfl (by decide) rfl rfl dX12_longInstance_65) (ev_X12_insCell hO hP h_22) xw_X12_insCell rfl wd_198 dX12_longInstance_65 (by decide) (by decide) (by simp [x_cat, x_catI, x_catJ])
                cases h
                exact x_callX z9 (evX_out rfl)
            · have z9 := x_call (M := mX12_longInstance) (M' := mX12_isSign) (pc := 55) (st := [.int 46, va_rf (some a0)]) (rest := []) (av := [va_rf (some a0), .int 46]) (x_linkV (M := mX12_longInstance) (M' := mX12_isSign) (As := [.int 46]) (index := 166) (C := RX12) (T := TX12) (xE_12 c_18) rfl wd_682 wd_683 (wG_in (List.mem_append_left _ (List.mem_of_getElem? (i := 50) rfl)) rfl) xw_X12_isSign rfl (by decide) rfl rfl dX12_longInstance_55) (ev_X12_isSign hO hP h_17) xw_X12_isSign rfl wd_198 dX12_longInstance_55 (by decide) (by decide) (by simp [x_cat, x_catI, x_catJ])
              cases h
              exact x_callX z9 (evX_out rfl)
          · rw [if_neg c_14] at h
            refine ev_if_ne (x := v_10) (tgt := 123) dX12_longInstance_49 (by decide) (fun _ => ?_) (fun q9 => absurd q9 c_14)
            exact ev_sub [1] rfl (ev_X12_longInstance_p123 hO hP h)
        · have z9 := x_call (M := mX12_longInstance) (M' := mX12_isSign) (pc := 46) (st := [.int 41, va_rf (some a0)]) (rest := []) (av := [va_rf (some a0), .int 41]) (x_linkV (M := mX12_longInstance) (M' := mX12_isSign) (As := [.int 41]) (index := 166) (C := RX12) (T := TX12) (xE_12 c_13) rfl wd_682 wd_683 (wG_in (List.mem_append_left _ (List.mem_of_getElem? (i := 50) rfl)) rfl) xw_X12_isSign rfl (by decide) rfl rfl dX12_longInstance_46) (ev_X12_isSign hO hP h_12) xw_X12_isSign rfl wd_198 dX12_longInstance_46 (by decide) (by decide) (by simp [x_cat, x_catI, x_catJ])
          cases h
          exact x_callX z9 (evX_out rfl)
    · have z9 := x_call (M := mX12_longInstance) (M' := mX12_ok) (pc := 37) (st := [va_rf (some a0)]) (rest := []) (av := [va_rf (some a0)]) (x_linkV (M := mX12_longInstance) (M' := mX12_ok) (As := []) (index := 121) (C := RX12) (T := TX12) (xE_12 c_8) rfl wd_640 wd_641 (wG_in (List.mem_append_left _ (List.mem_of_getElem? (i := 37) rfl)) rfl) xw_X12_ok rfl (by decide) rfl rfl dX12_longInstance_37) (ev_X12_ok hO hP h_7) xw_X12_ok rfl wd_198 dX12_longInstance_37 (by decide) (by decide) (by simp [x_cat, x_catI, x_catJ])
      cases h
      exact x_callX z9 (evX_out rfl)
  · have z9 := x_call (M := mX12_longInstance) (M' := mX12_needSign) (pc := 33) (st := [.int 40, va_rf (some a0)]) (rest := []) (av := [va_rf (some a0), .int 40]) (x_linkV (M := mX12_longInstance) (M' := mX12_needSign) (As := [.int 40]) (index := 199) (C := RX12) (T := TX12) (xE_12 c_4) rfl wd_697 wd_698 (wG_in (List.mem_append_left _ (List.mem_of_getElem? (i := 49) rfl)) rfl) xw_X12_needSign rfl (by decide) rfl rfl dX12_longInstance_33) (ev_X12_needSign hO hP h_3) xw_X12_needSign rfl wd_198 dX12_longInstance_33 (by decide) (by decide) (by simp [x_cat, x_catI, x_catJ])
    cases h
    exact x_callX z9 (evX_out rfl)
set_option maxHeartbeats 4000000 in
set_option maxRecDepth 100000 in
theorem ev_X12_longInstance {l : Launch} {G : xG} (hO : x_OK l G) {P : xP} (hP : x_PG P G) {a0 : Nat} {σ σ' : xS} {rr : Unit ⊕ String} (h : dm_X12_longInstance P a0 σ = some (rr, σ')) : EvM l G mX12_longInstance [va_rf (some a0)] σ (xrV rr) σ' := by
  unfold dm_X12_longInstance at h
  refine evM_of hO (by decide +kernel) (x_lenI (by simp [x_cat, x_catI, x_catJ, mX12_longInstance, xM.maxL])) ?_
  refine Eq.mp (congrArg (fun z => Ev l G mX12_longInstance 0 z [] σ (xrV rr) σ') (show [(0, va_rf (some a0))] = lv_args 0 [va_rf (some a0)] by simp [lv_args, x_cat, x_catI, x_catJ])) ?_
  refine ev_aload_n (j := 0) (x := (some a0)) dX12_longInstance_0 rfl rfl ?_
  obtain ⟨c_4, h⟩ := x_chk_e h
  rcases x_bind_e h with ⟨v_1, σ_2, h_3, h⟩ | ⟨E_22, σ_2, h_3, h⟩
  · have z9 := x_call (M := mX12_longInstance) (M' := mX12_needName) (pc := 1) (st := [va_rf (some a0)]) (rest := []) (av := [va_rf (some a0)]) (x_linkV (M := mX12_longInstance) (M' := mX12_needName) (As := []) (index := 185) (C := RX12) (T := TX12) (xE_12 c_4) rfl wd_670 wd_671 (wG_in (List.mem_append_left _ (List.mem_of_getElem? (i := 45) rfl)) rfl) xw_X12_needName rfl (by decide) rfl rfl dX12_longInstance_1) (ev_X12_needName hO hP h_3) xw_X12_needName rfl wd_198 dX12_longInstance_1 (by decide) (by decide) (by simp [x_cat, x_catI, x_catJ])
    refine x_callR z9 ?_
    refine ev_at (st' := []) rfl rfl ?_
    refine ev_aload_n (j := 0) (x := (some a0)) dX12_longInstance_4 rfl rfl ?_
    obtain ⟨c_5, h⟩ := x_chk_e h
    refine ev_get (C := RX12) (T := TX12) (k := 36) inX12 (xE_12 c_5) rfl (by decide) wd_646 (Or.inl rfl) rfl dX12_longInstance_5 ?_
    obtain ⟨v_6, ev_6, h⟩ := x_let_e h
    rw [← ev_6]
    refine ev_istore_n (i := 1) (lv' := [(1, .int v_6), (0, va_rf (some a0))]) dX12_longInstance_8 rfl (by decide) (by simp [x_cat, x_catI, x_catJ]) ?_
    refine ev_aload_n (j := 1) (x := (some a0)) dX12_longInstance_9 rfl rfl ?_
    rcases x_bind_e h with ⟨v_7, σ_8, h_9, h⟩ | ⟨E_21, σ_8, h_9, h⟩
    · have z9 := x_call (M := mX12_longInstance) (M' := mX12_next) (pc := 10) (st := [va_rf (some a0)]) (rest := []) (av := [va_rf (some a0)]) (x_linkV (M := mX12_longInstance) (M' := mX12_next) (As := []) (index := 169) (C := RX12) (T := TX12) (xE_12 c_5) rfl wd_679 wd_680 (wG_in (List.mem_append_left _ (List.mem_of_getElem? (i := 36) rfl)) rfl) xw_X12_next rfl (by decide) rfl rfl dX12_longInstance_10) (ev_X12_next hO hP h_9) xw_X12_next rfl wd_198 dX12_longInstance_10 (by decide) (by decide) (by simp [x_cat, x_catI, x_catJ])
      refine x_callR z9 ?_
      refine ev_at (st' := []) rfl rfl ?_
      refine ev_aload_n (j := 1) (x := (some a0)) dX12_longInstance_13 rfl rfl ?_
      obtain ⟨c_13, h⟩ := x_chk_e h
      rcases x_bind_e h with ⟨v_10, σ_11, h_12, h⟩ | ⟨E_20, σ_11, h_12, h⟩
      · have z9 := x_call (M := mX12_longInstance) (M' := mX12_ok) (pc := 14) (st := [va_rf (some a0)]) (rest := []) (av := [va_rf (some a0)]) (x_linkV (M := mX12_longInstance) (M' := mX12_ok) (As := []) (index := 121) (C := RX12) (T := TX12) (xE_12 c_13) rfl wd_640 wd_641 (wG_in (List.mem_append_left _ (List.mem_of_getElem? (i := 37) rfl)) rfl) xw_X12_ok rfl (by decide) rfl rfl dX12_longInstance_14) (ev_X12_ok hO hP h_12) xw_X12_ok rfl wd_198 dX12_longInstance_14 (by decide) (by decide) (by simp [x_cat, x_catI, x_catJ])
        refine x_callR z9 ?_
        refine ev_at (st' := [.int v_10]) rfl rfl ?_
        by_cases c_14 : v_10 = 0
        · rw [if_pos c_14] at h
          refine ev_if_eq (x := v_10) (tgt := 28) dX12_longInstance_17 (by decide) (fun _ => ?_) (fun q9 => absurd c_14 q9)
          refine ev_iconst (v := -1) dX12_longInstance_28 (by decide) ?_
          exact ev_sub [1] rfl (ev_X12_longInstance_p29 hO hP h)
        · rw [if_neg c_14] at h
          refine ev_if_eq (x := v_10) (tgt := 28) dX12_longInstance_17 (by decide) (fun q9 => absurd q9 c_14) (fun _ => ?_)
          refine ev_aload_n (j := 1) (x := (some a0)) dX12_longInstance_20 rfl rfl ?_
          refine ev_iload_n (j := 0) (x := v_6) dX12_longInstance_21 rfl rfl ?_
          obtain ⟨c_18, h⟩ := x_chk_e h
          rcases x_bind_e h with ⟨v_15, σ_16, h_17, h⟩ | ⟨E_19, σ_16, h_17, h⟩
          · have z9 := x_call (M := mX12_longInstance) (M' := mX12_takeInstance) (pc := 22) (st := [.int v_6, va_rf (some a0)]) (rest := []) (av := [va_rf (some a0), .int v_6]) (x_linkV (M := mX12_longInstance) (M' := mX12_takeInstance) (As := [.int v_6]) (index := 227) (C := RX12) (T := TX12) (xE_12 c_18) rfl wd_724 wd_725 (wG_in (List.mem_append_left _ (List.mem_of_getElem? (i := 65) rfl)) rfl) xw_X12_takeInstance rfl (by decide) rfl rfl dX12_longInstance_22) (ev_X12_takeInstance hO hP h_17) xw_X12_takeInstance rfl wd_198 dX12_longInstance_22 (by decide) (by decide) (by simp [x_cat, x_catI, x_catJ])
            refine x_callR z9 ?_
            refine ev_at (st' := [.int v_15]) rfl rfl ?_
            refine ev_goto (tgt := 29) dX12_longInstance_25 (by decide) ?_
            exact ev_sub [1] rfl (ev_X12_longInstance_p29 hO hP h)
          · have z9 := x_call (M := mX12_longInstance) (M' := mX12_takeInstance) (pc := 22) (st := [.int v_6, va_rf (some a0)]) (rest := []) (av := [va_rf (some a0), .int v_6]) (x_linkV (M := mX12_longInstance) (M' := mX12_takeInstance) (As := [.int v_6]) (index := 227) (C := RX12) (T := TX12) (xE_12 c_18) rfl wd_724 wd_725 (wG_in (List.mem_append_left _ (List.mem_of_getElem? (i := 65) rfl)) rfl) xw_X12_takeInstance rfl (by decide) rfl rfl dX12_longInstance_22) (ev_X12_takeInstance hO hP h_17) xw_X12_takeInstance rfl wd_198 dX12_longInstance_22 (by decide) (by decide) (by simp [x_cat, x_catI, x_catJ])
            cases h
            exact x_callX z9 (evX_out rfl)
      · have z9 := x_call (M := mX12_longInstance) (M' := mX12_ok) (pc := 14) (st := [va_rf (some a0)]) (rest := []) (av := [va_rf (some a0)]) (x_linkV (M := mX12_longInstance) (M' := mX12_ok) (As := []) (index := 121) (C := RX12) (T := TX12) (xE_12 c_13) rfl wd_640 wd_641 (wG_in (List.mem_append_left _ (List.mem_of_getElem? (i := 37) rfl)) rfl) xw_X12_ok rfl (by decide) rfl rfl dX12_longInstance_14) (ev_X12_ok hO hP h_12) xw_X12_ok rfl wd_198 dX12_longInstance_14 (by decide) (by decide) (by simp [x_cat, x_catI, x_catJ])
        cases h
        exact x_callX z9 (evX_out rfl)
    · have z9 := x_call (M := mX12_longInstance) (M' := mX12_next) (pc := 10) (st := [va_rf (some a0)]) (rest := []) (av := [va_rf (some a0)]) (x_linkV (M := mX12_longInstance) (M' := mX12_next) (As := []) (index := 169) (C := RX12) (T := TX12) (xE_12 c_5) rfl wd_679 wd_680 (wG_in (List.mem_append_left _ (List.mem_of_getElem? (i := 36) rfl)) rfl) xw_X12_next rfl (by decide) rfl rfl dX12_longInstance_10) (ev_X12_next hO hP h_9) xw_X12_next rfl wd_198 dX12_longInstance_10 (by decide) (by decide) (by simp [x_cat, x_catI, x_catJ])
      cases h
      exact x_callX z9 (evX_out rfl)
  · have z9 := x_call (M := mX12_longInstance) (M' := mX12_needName) (pc := 1) (st := [va_rf (some a0)]) (rest := []) (av := [va_rf (some a0)]) (x_linkV (M := mX12_longInstance) (M' := mX12_needName) (As := []) (index := 185) (C := RX12) (T := TX12) (xE_12 c_4) rfl wd_670 wd_671 (wG_in (List.mem_append_left _ (List.mem_of_getElem? (i := 45) rfl)) rfl) xw_X12_needName rfl (by decide) rfl rfl dX12_longInstance_1) (ev_X12_needName hO hP h_3) xw_X12_needName rfl wd_198 dX12_longInstance_1 (by decide) (by decide) (by simp [x_cat, x_catI, x_catJ])
    cases h
    exact x_callX z9 (evX_out rfl)
