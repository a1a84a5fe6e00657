set_option maxHeartbeats 4000000 in
set_option maxRecDepth 100000 in
theorem ev_X11_nameOf {l : Launch} {G : xG} (hO : x_OK l G) {P : xP} (hP : x_PG P G) {a0 : Nat} {v1 : Int32} {v2 : Int32} {v3 : Int32} {σ σ' : xS} {rr : Int64 ⊕ String} (h : dm_X11_nameOf P a0 v1 v2 v3 σ = some (rr, σ')) : EvM l G mX11_nameOf [va_rf (some a0), .int v1, .int v2, .int v3] σ (xrJ rr) σ' := by
  unfold dm_X11_nameOf at h
  refine evM_of hO (by decide +kernel) (x_lenI (by simp [x_cat, x_catI, x_catJ, mX11_nameOf, xM.maxL])) ?_
  refine Eq.mp (congrArg (fun z => Ev l G mX11_nameOf 0 z [] σ (xrJ rr) σ') (show [(0, va_rf (some a0)), (1, .int v1), (2, .int v2), (3, .int v3)] = lv_args 0 [va_rf (some a0), .int v1, .int v2, .int v3] by simp [lv_args, x_cat, x_catI, x_catJ])) ?_
  refine ev_iload_n (j := 1) (x := v1) dX11_nameOf_0 rfl rfl ?_
  obtain ⟨v_1, ev_1, h⟩ := x_let_e h
  rw [← ev_1]
  by_cases c_2 : v_1 = 0
  · rw [if_pos c_2] at h
    refine ev_at (st' := .int 0 :: []) rfl (by rw [c_2]) ?_
    refine ev_tableIn (tgt := 32) (off := 31) dX11_nameOf_1 (by decide) (by decide) rfl (by decide) ?_
    refine ev_aload_n (j := 0) (x := (some a0)) dX11_nameOf_32 rfl rfl ?_
    refine ev_iload_n (j := 2) (x := v2) dX11_nameOf_33 rfl rfl ?_
    obtain ⟨c_6, h⟩ := x_chk_e h
    rcases x_bind_e h with ⟨v_3, σ_4, h_5, h⟩ | ⟨E_9, σ_4, h_5, h⟩
    · have z9 := x_call (M := mX11_nameOf) (M' := mX11_moduleAt) (pc := 34) (st := [.int v2, va_rf (some a0)]) (rest := []) (av := [va_rf (some a0), .int v2]) (x_linkV (M := mX11_nameOf) (M' := mX11_moduleAt) (As := [.int v2]) (index := 77) (C := RX11) (T := TX11) (xE_11 c_6) rfl wd_13 wd_14 (wG_in (List.mem_append_left _ (List.mem_of_getElem? (i := 18) rfl)) rfl) xw_X11_moduleAt rfl (by decide) rfl rfl dX11_nameOf_34) (ev_X11_moduleAt hO hP h_5) xw_X11_moduleAt rfl wd_5 dX11_nameOf_34 (by decide) (by decide) (by simp [x_cat, x_catI, x_catJ])
      refine x_callR z9 ?_
      refine ev_at (st' := [va_rf v_3]) rfl rfl ?_
      obtain ⟨a_7, ea_7, h⟩ := x_some_e h
      refine ev_at (st' := [va_rf (some a_7)]) rfl (by rw [ea_7]) ?_
      obtain ⟨c_8, h⟩ := x_chk_e h
      refine ev_get (C := RX5) (T := TX5) (k := 1) inX5 (xE_6 c_8) rfl (by decide) wd_845 (Or.inl rfl) rfl dX11_nameOf_37 ?_
      cases h
      exact ev_lret rfl dX11_nameOf_40
    · have z9 := x_call (M := mX11_nameOf) (M' := mX11_moduleAt) (pc := 34) (st := [.int v2, va_rf (some a0)]) (rest := []) (av := [va_rf (some a0), .int v2]) (x_linkV (M := mX11_nameOf) (M' := mX11_moduleAt) (As := [.int v2]) (index := 77) (C := RX11) (T := TX11) (xE_11 c_6) rfl wd_13 wd_14 (wG_in (List.mem_append_left _ (List.mem_of_getElem? (i := 18) rfl)) rfl) xw_X11_moduleAt rfl (by decide) rfl rfl dX11_nameOf_34) (ev_X11_moduleAt hO hP h_5) xw_X11_moduleAt rfl wd_5 dX11_nameOf_34 (by decide) (by decide) (by simp [x_cat, x_catI, x_catJ])
      cases h
      exact x_callX z9 (evX_out rfl)
  rw [if_neg c_2] at h
  by_cases c_10 : v_1 = 1
  · rw [if_pos c_10] at h
    refine ev_at (st' := .int 1 :: []) rfl (by rw [c_10]) ?_
    refine ev_tableIn (tgt := 41) (off := 40) dX11_nameOf_1 (by decide) (by decide) rfl (by decide) ?_
    refine ev_aload_n (j := 0) (x := (some a0)) dX11_nameOf_41 rfl rfl ?_
    refine ev_iload_n (j := 2) (x := v2) dX11_nameOf_42 rfl rfl ?_
    refine ev_iload_n (j := 3) (x := v3) dX11_nameOf_43 rfl rfl ?_
    obtain ⟨c_14, h⟩ := x_chk_e h
    rcases x_bind_e h with ⟨v_11, σ_12, h_13, h⟩ | ⟨E_17, σ_12, h_13, h⟩
    · have z9 := x_call (M := mX11_nameOf) (M' := mX11_netAt) (pc := 44) (st := [.int v3, .int v2, va_rf (some a0)]) (rest := []) (av := [va_rf (some a0), .int v2, .int v3]) (x_linkV (M := mX11_nameOf) (M' := mX11_netAt) (As := [.int v2, .int v3]) (index := 104) (C := RX11) (T := TX11) (xE_11 c_14) rfl wd_818 wd_819 (wG_in (List.mem_append_left _ (List.mem_of_getElem? (i := 19) rfl)) rfl) xw_X11_netAt rfl (by decide) rfl rfl dX11_nameOf_44) (ev_X11_netAt hO hP h_13) xw_X11_netAt rfl wd_5 dX11_nameOf_44 (by decide) (by decide) (by simp [x_cat, x_catI, x_catJ])
      refine x_callR z9 ?_
      refine ev_at (st' := [va_rf v_11]) rfl rfl ?_
      obtain ⟨a_15, ea_15, h⟩ := x_some_e h
      refine ev_at (st' := [va_rf (some a_15)]) rfl (by rw [ea_15]) ?_
      obtain ⟨c_16, h⟩ := x_chk_e h
      refine ev_get (C := RX4) (T := TX4) (k := 0) inX4 (xE_5 c_16) rfl (by decide) wd_846 (Or.inl rfl) rfl dX11_nameOf_47 ?_
      cases h
      exact ev_lret rfl dX11_nameOf_50
    · have z9 := x_call (M := mX11_nameOf) (M' := mX11_netAt) (pc := 44) (st := [.int v3, .int v2, va_rf (some a0)]) (rest := []) (av := [va_rf (some a0), .int v2, .int v3]) (x_linkV (M := mX11_nameOf) (M' := mX11_netAt) (As := [.int v2, .int v3]) (index := 104) (C := RX11) (T := TX11) (xE_11 c_14) rfl wd_818 wd_819 (wG_in (List.mem_append_left _ (List.mem_of_getElem? (i := 19) rfl)) rfl) xw_X11_netAt rfl (by decide) rfl rfl dX11_nameOf_44) (ev_X11_netAt hO hP h_13) xw_X11_netAt rfl wd_5 dX11_nameOf_44 (by decide) (by decide) (by simp [x_cat, x_catI, x_catJ])
      cases h
      exact x_callX z9 (evX_out rfl)
  rw [if_neg c_10] at h
  by_cases c_18 : v_1 = 2
  · rw [if_pos c_18] at h
    refine ev_at (st' := .int 2 :: []) rfl (by rw [c_18]) ?_
    refine ev_tableIn (tgt := 51) (off := 50) dX11_nameOf_1 (by decide) (by decide) rfl (by decide) ?_
    refine ev_aload_n (j := 0) (x := (some a0)) dX11_nameOf_51 rfl rfl ?_
    refine ev_iload_n (j := 2) (x := v2) dX11_nameOf_52 rfl rfl ?_
    refine ev_iload_n (j := 3) (x := v3) dX11_nameOf_53 rfl rfl ?_
    obtain ⟨c_22, h⟩ := x_chk_e h
    rcases x_bind_e h with ⟨v_19, σ_20, h_21, h⟩ | ⟨E_25, σ_20, h_21, h⟩
    · have z9 := x_call (M := mX11_nameOf) (M' := mX11_instanceAt) (pc := 54) (st := [.int v3, .int v2, va_rf (some a0)]) (rest := []) (av := [va_rf (some a0), .int v2, .int v3]) (x_linkV (M := mX11_nameOf) (M' := mX11_instanceAt) (As := [.int v2, .int v3]) (index := 119) (C := RX11) (T := TX11) (xE_11 c_22) rfl wd_45 wd_46 (wG_in (List.mem_append_left _ (List.mem_of_getElem? (i := 20) rfl)) rfl) xw_X11_instanceAt rfl (by decide) rfl rfl dX11_nameOf_54) (ev_X11_instanceAt hO hP h_21) xw_X11_instanceAt rfl wd_5 dX11_nameOf_54 (by decide) (by decide) (by simp [x_cat, x_catI, x_catJ])
      refine x_callR z9 ?_
      refine ev_at (st' := [va_rf v_19]) rfl rfl ?_
      obtain ⟨a_23, ea_23, h⟩ := x_some_e h
      refine ev_at (st' := [va_rf (some a_23)]) rfl (by rw [ea_23]) ?_
      obtain ⟨c_24, h⟩ := x_chk_e h
      refine ev_get (C := RX1) (T := TX1) (k := 1) inX1 (xE_2 c_24) rfl (by decide) wd_847 (Or.inl rfl) rfl dX11_nameOf_57 ?_
      cases h
      exact ev_lret rfl dX11_nameOf_60
    · have z9 := x_call (M := mX11_nameOf) (M' := mX11_instanceAt) (pc := 54) (st := [.int v3, .int v2, va_rf (some a0)]) (rest := []) (av := [va_rf (some a0), .int v2, .int v3]) (x_linkV (M := mX11_nameOf) (M' := mX11_instanceAt) (As := [.int v2, .int v3]) (index := 119) (C := RX11) (T := TX11) (xE_11 c_22) rfl wd_45 wd_46 (wG_in (List.mem_append_left _ (List.mem_of_getElem? (i := 20) rfl)) rfl) xw_X11_instanceAt rfl (by decide) rfl rfl dX11_nameOf_54) (ev_X11_instanceAt hO hP h_21) xw_X11_instanceAt rfl wd_5 dX11_nameOf_54 (by decide) (by decide) (by simp [x_cat, x_catI, x_catJ])
      cases h
      exact x_callX z9 (evX_out rfl)
  rw [if_neg c_18] at h
  by_cases c_26 : v_1 = 3
  · rw [if_pos c_26] at h
    refine ev_at (st' := .int 3 :: []) rfl (by rw [c_26]) ?_
    refine ev_tableIn (tgt := 61) (off := 60) dX11_nameOf_1 (by decide) (by decide) rfl (by decide) ?_
    refine ev_aload_n (j := 0) (x := (some a0)) dX11_nameOf_61 rfl rfl ?_
    refine ev_iload_n (j := 2) (x := v2) dX11_nameOf_62 rfl rfl ?_
    refine ev_iload_n (j := 3) (x := v3) dX11_nameOf_63 rfl rfl ?_
    obtain ⟨c_30, h⟩ := x_chk_e h
    rcases x_bind_e h with ⟨v_27, σ_28, h_29, h⟩ | ⟨E_33, σ_28, h_29, h⟩
    · have z9 := x_call (M := mX11_nameOf) (M' := mX11_instanceAt) (pc := 64) (st := [.int v3, .int v2, va_rf (some a0)]) (rest := []) (av := [va_rf (some a0), .int v2, .int v3]) (x_linkV (M := mX11_nameOf) (M' := mX11_instanceAt) (As := [.int v2, .int v3]) (index := 119) (C := RX11) (T := TX11) (xE_11 c_30) rfl wd_45 wd_46 (wG_in (List.mem_append_left _ (List.mem_of_getElem? (i := 20) rfl)) rfl) xw_X11_instanceAt rfl (by decide) rfl rfl dX11_nameOf_64) (ev_X11_instanceAt hO hP h_29) xw_X11_instanceAt rfl wd_5 dX11_nameOf_64 (by decide) (by decide) (by simp [x_cat, x_catI, x_catJ])
      refine x_callR z9 ?_
      refine ev_at (st' := [va_rf v_27]) rfl rfl ?_
      obtain ⟨a_31, ea_31, h⟩ := x_some_e h
      refine ev_at (st' := [va_rf (some a_31)]) rfl (by rw [ea_31]) ?_
      obtain ⟨c_32, h⟩ := x_chk_e h
      refine ev_get (C := RX1) (T := TX1) (k := 0) inX1 (xE_2 c_32) rfl (by decide) wd_848 (Or.inl rfl) rfl dX11_nameOf_67 ?_
      cases h
      exact ev_lret rfl dX11_nameOf_70
    · have z9 := x_call (M := mX11_nameOf) (M' := mX11_instanceAt) (pc := 64) (st := [.int v3, .int v2, va_rf (some a0)]) (rest := []) (av := [va_rf (some a0), .int v2, .int v3]) (x_linkV (M := mX11_nameOf) (M' := mX11_instanceAt) (As := [.int v2, .int v3]) (index := 119) (C := RX11) (T := TX11) (xE_11 c_30) rfl wd_45 wd_46 (wG_in (List.mem_append_left _ (List.mem_of_getElem? (i := 20) rfl)) rfl) xw_X11_instanceAt rfl (by decide) rfl rfl dX11_nameOf_64) (ev_X11_instanceAt hO hP h_29) xw_X11_instanceAt rfl wd_5 dX11_nameOf_64 (by decide) (by decide) (by simp [x_cat, x_catI, x_catJ])
      cases h
      exact x_callX z9 (evX_out rfl)
  rw [if_neg c_26] at h
  refine ev_tableOut (tgt := 71) dX11_nameOf_1 (x_sw 3 (fun k9 h9 => by match k9, h9 with | 0, _ => exact c_2 | 1, _ => exact c_10 | 2, _ => exact c_18 | 3, _ => exact c_26 | k9 + 4, h9 => omega)) (by decide) ?_
  obtain ⟨c_34, h⟩ := x_chk_e h
  cases h
  exact ev_throw (names := x_ex) (by decide +kernel) x_exf th_X11_101_103 dX11_nameOf_71 dX11_nameOf_74 dX11_nameOf_75 dX11_nameOf_78 rfl (by decide) (by decide) (hP.2.1 ▸ c_34.1) (hP.2.2.1 ▸ c_34.2)
set_option maxHeartbeats 4000000 in
set_option maxRecDepth 100000 in
theorem ev_X11_letter_p38 {l : Launch} {G : xG} (hO : x_OK l G) {P : xP} (hP : x_PG P G) {a0 : Nat} {s0 : Int32} {σ σ' : xS} {rr : Int32 ⊕ String} (h : dm_X11_letter_p38 P a0 s0 σ = some (rr, σ')) : Ev l G mX11_letter 38 [] [.int s0] σ (xrI rr) σ' := by
  unfold dm_X11_letter_p38 at h
  cases h
  exact ev_iret rfl rfl dX11_letter_38
set_option maxHeartbeats 4000000 in
set_option maxRecDepth 100000 in
theorem ev_X11_letter_p10 {l : Launch} {G : xG} (hO : x_OK l G) {P : xP} (hP : x_PG P G) {a0 : Nat} {v1 : Int32} {v2 : Int32} {v3 : Int32} {v4 : Int32} {s0 : Int32} {σ σ' : xS} {rr : Int32 ⊕ String} (h : dm_X11_letter_p10 P a0 v1 v2 v3 v4 s0 σ = some (rr, σ')) : Ev l G mX11_letter 10 [(0, va_rf (some a0)), (1, .int v1), (2, .int v2), (3, .int v3), (4, .int v4)] [.int s0] σ (xrI rr) σ' := by
  unfold dm_X11_letter_p10 at h
  rcases x_bind_e h with ⟨v_1, σ_2, h_3, h⟩ | ⟨E_14, σ_2, h_3, h⟩
  · have z9 := x_call (M := mX11_letter) (M' := mX11_refuseUnless) (pc := 10) (st := [.int s0]) (rest := []) (av := [.int s0]) (x_linkS (M := mX11_letter) (M' := mX11_refuseUnless) (As := [.int s0]) (index := 57) wd_3 wd_4 wd_5 xw_X11_refuseUnless rfl ⟨_, _, _, Or.inl wd_2⟩ (by decide) rfl rfl dX11_letter_10) (ev_X11_refuseUnless hO hP h_3) xw_X11_refuseUnless rfl wd_5 dX11_letter_10 (by decide) (by decide) (by simp [x_cat, x_catI, x_catJ])
    refine x_callR z9 ?_
    refine ev_at (st' := []) rfl rfl ?_
    refine ev_aload_n (j := 0) (x := (some a0)) dX11_letter_13 rfl rfl ?_
    refine ev_iload_n (j := 1) (x := v1) dX11_letter_14 rfl rfl ?_
    refine ev_iload_n (j := 2) (x := v2) dX11_letter_15 rfl rfl ?_
    refine ev_iload_n (j := 3) (x := v3) dX11_letter_16 rfl rfl ?_
    obtain ⟨c_7, h⟩ := x_chk_e h
    rcases x_bind_e h with ⟨v_4, σ_5, h_6, h⟩ | ⟨E_13, σ_5, h_6, h⟩
    · have z9 := x_call (M := mX11_letter) (M' := mX11_nameOf) (pc := 17) (st := [.int v3, .int v2, .int v1, va_rf (some a0)]) (rest := []) (av := [va_rf (some a0), .int v1, .int v2, .int v3]) (x_linkV (M := mX11_letter) (M' := mX11_nameOf) (As := [.int v1, .int v2, .int v3]) (index := 164) (C := RX11) (T := TX11) (xE_11 c_7) rfl wd_850 wd_851 (wG_in (List.mem_append_left _ (List.mem_of_getElem? (i := 21) rfl)) rfl) xw_X11_nameOf rfl (by decide) rfl rfl dX11_letter_17) (ev_X11_nameOf hO hP h_6) xw_X11_nameOf rfl wd_5 dX11_letter_17 (by decide) (by decide) (by simp [x_cat, x_catI, x_catJ])
      refine x_callR z9 ?_
      refine ev_at (st' := [.long v_4]) rfl rfl ?_
      refine ev_iload (j := 4) (x := v4) dX11_letter_20 rfl ?_
      rcases x_bind_e h with ⟨v_8, σ_9, h_10, h⟩ | ⟨E_12, σ_9, h_10, h⟩
      · have z9 := x_call (M := mX11_letter) (M' := mX10_letterOf) (pc := 22) (st := [.int v4, .long v_4]) (rest := []) (av := [.long v_4, .int v4]) (x_linkS (M := mX11_letter) (M' := mX10_letterOf) (As := [.long v_4, .int v4]) (index := 168) wd_852 wd_371 wd_118 xw_X10_letterOf rfl ⟨_, _, _, Or.inl wd_369⟩ (by decide) rfl rfl dX11_letter_22) (ev_X10_letterOf hO hP h_10) xw_X10_letterOf rfl wd_118 dX11_letter_22 (by decide) (by decide) (by simp [x_cat, x_catI, x_catJ])
        refine x_callR z9 ?_
        refine ev_at (st' := [.int v_8]) rfl rfl ?_
        refine ev_istore (i := 5) (lv' := [(5, .int v_8), (0, va_rf (some a0)), (1, .int v1), (2, .int v2), (3, .int v3), (4, .int v4)]) dX11_letter_25 (by decide) rfl ?_
        refine ev_iload (j := 0) (x := v_8) dX11_letter_27 rfl ?_
        by_cases c_11 : v_8 = 0
        · rw [if_pos c_11] at h
          refine ev_if_ne (x := v_8) (tgt := 36) dX11_letter_29 (by decide) (fun q9 => absurd c_11 q9) (fun _ => ?_)
          refine ev_iconst (v := -1) dX11_letter_32 (by decide) ?_
          refine ev_goto (tgt := 38) dX11_letter_33 (by decide) ?_
          exact ev_sub [] rfl (ev_X11_letter_p38 hO hP h)
        · rw [if_neg c_11] at h
          refine ev_if_ne (x := v_8) (tgt := 36) dX11_letter_29 (by decide) (fun _ => ?_) (fun q9 => absurd q9 c_11)
          refine ev_iload (j := 0) (x := v_8) dX11_letter_36 rfl ?_
          exact ev_sub [] rfl (ev_X11_letter_p38 hO hP h)
      · have z9 := x_call (M := mX11_letter) (M' := mX10_letterOf) (pc := 22) (st := [.int v4, .long v_4]) (rest := []) (av := [.long v_4, .int v4]) (x_linkS (M := mX11_letter) (M' := mX10_letterOf) (As := [.long v_4, .int v4]) (index := 168) wd_852 wd_371 wd_118 xw_X10_letterOf rfl ⟨_, _, _, Or.inl wd_369⟩ (by decide) rfl rfl dX11_letter_22) (ev_X10_letterOf hO hP h_10) xw_X10_letterOf rfl wd_118 dX11_letter_22 (by decide) (by decide) (by simp [x_cat, x_catI, x_catJ])
        cases h
        exact x_callX z9 (evX_out rfl)
    · have z9 := x_call (M := mX11_letter) (M' := mX11_nameOf) (pc := 17) (st := [.int v3, .int v2, .int v1, va_rf (some a0)]) (rest := []) (av := [va_rf (some a0), .int v1, .int v2, .int v3]) (x_linkV (M := mX11_letter) (M' := mX11_nameOf) (As := [.int v1, .int v2, .int v3]) (index := 164) (C := RX11) (T := TX11) (xE_11 c_7) rfl wd_850 wd_851 (wG_in (List.mem_append_left _ (List.mem_of_getElem? (i := 21) rfl)) rfl) xw_X11_nameOf rfl (by decide) rfl rfl dX11_letter_17) (ev_X11_nameOf hO hP h_6) xw_X11_nameOf rfl wd_5 dX11_letter_17 (by decide) (by decide) (by simp [x_cat, x_catI, x_catJ])
      cases h
      exact x_callX z9 (evX_out rfl)
  · have z9 := x_call (M := mX11_letter) (M' := mX11_refuseUnless) (pc := 10) (st := [.int s0]) (rest := []) (av := [.int s0]) (x_linkS (M := mX11_letter) (M' := mX11_refuseUnless) (As := [.int s0]) (index := 57) wd_3 wd_4 wd_5 xw_X11_refuseUnless rfl ⟨_, _, _, Or.inl wd_2⟩ (by decide) rfl rfl dX11_letter_10) (ev_X11_refuseUnless hO hP h_3) xw_X11_refuseUnless rfl wd_5 dX11_letter_10 (by decide) (by decide) (by simp [x_cat, x_catI, x_catJ])
    cases h
    exact x_callX z9 (evX_out rfl)
set_option maxHeartbeats 4000000 in
set_option maxRecDepth 100000 in
theorem ev_X11_letter {l : Launch} {G : xG} (hO : x_OK l G) {P : xP} (hP : x_PG P G) {a0 : Nat} {v1 : Int32} {v2 : Int32} {v3 : Int32} {v4 : Int32} {σ σ' : xS} {rr : Int32 ⊕ String} (h : dm_X11_letter P a0 v1 v2 v3 v4 σ = some (rr, σ')) : EvM l G mX11_letter [va_rf (some a0), .int v1, .int v2, .int v3, .int v4] σ (xrI rr) σ' := by
  unfold dm_X11_letter at h
  refine evM_of hO (by decide +kernel) (x_lenI (by simp [x_cat, x_catI, x_catJ, mX11_letter, xM.maxL])) ?_
  refine Eq.mp (congrArg (fun z => Ev l G mX11_letter 0 z [] σ (xrI rr) σ') (show [(0, va_rf (some a0)), (1, .int v1), (2, .int v2), (3, .int v3), (4, .int v4)] = lv_args 0 [va_rf (some a0), .int v1, .int v2, .int v3, .int v4] by simp [lv_args, x_cat, x_catI, x_catJ])) ?_
  refine ev_iload (j := 4) (x := v4) dX11_letter_0 rfl ?_
  by_cases c_1 : v4 < 0
  · rw [if_pos c_1] at h
    refine ev_if_lt (x := v4) (tgt := 9) dX11_letter_2 (by decide) (fun _ => ?_) (fun q9 => absurd c_1 q9)
    refine ev_iconst (v := 0) dX11_letter_9 (by decide) ?_
    exact ev_sub [0, 1, 2, 3, 4] rfl (ev_X11_letter_p10 hO hP h)
  · rw [if_neg c_1] at h
    refine ev_if_lt (x := v4) (tgt := 9) dX11_letter_2 (by decide) (fun q9 => absurd q9 c_1) (fun _ => ?_)
    refine ev_iconst (v := 1) dX11_letter_5 (by decide) ?_
    refine ev_goto (tgt := 10) dX11_letter_6 (by decide) ?_
    exact ev_sub [0, 1, 2, 3, 4] rfl (ev_X11_letter_p10 hO hP h)
set_option maxHeartbeats 4000000 in
set_option maxRecDepth 100000 in
theorem ev_L_letter {l : Launch} {G : xG} (hO : x_OK l G) {P : xP} (hP : x_PG P G) {v0 : Option Nat} {v1 : Int32} {v2 : Int32} {v3 : Int32} {v4 : Int32} {v5 : Option Nat} {σ σ' : xS} {rr : Int32 ⊕ String} (h : dm_L_letter P v0 v1 v2 v3 v4 v5 σ = some (rr, σ')) : EvM l G mL_letter [va_rf v0, .int v1, .int v2, .int v3, .int v4, va_rf v5] σ (xrI rr) σ' := by
  unfold dm_L_letter at h
  refine evM_of hO (by decide +kernel) (x_lenI (by simp [x_cat, x_catI, x_catJ, mL_letter, xM.maxL])) ?_
  refine Eq.mp (congrArg (fun z => Ev l G mL_letter 0 z [] σ (xrI rr) σ') (show [(0, va_rf v0), (1, .int v1), (2, .int v2), (3, .int v3), (4, .int v4), (5, va_rf v5)] = lv_args 0 [va_rf v0, .int v1, .int v2, .int v3, .int v4, va_rf v5] by simp [lv_args, x_cat, x_catI, x_catJ])) ?_
  refine ev_aload (j := 5) (x := v5) dL_letter_0 rfl ?_
  refine ev_iconst (v := 0) dL_letter_2 (by decide) ?_
  refine ev_aload_n (j := 0) (x := v0) dL_letter_3 rfl rfl ?_
  refine ev_iload_n (j := 1) (x := v1) dL_letter_4 rfl rfl ?_
  refine ev_iload_n (j := 2) (x := v2) dL_letter_5 rfl rfl ?_
  refine ev_iload_n (j := 3) (x := v3) dL_letter_6 rfl rfl ?_
  refine ev_iload (j := 4) (x := v4) dL_letter_7 rfl ?_
  obtain ⟨a_1, ea_1, h⟩ := x_some_e h
  refine ev_at (st' := [.int v4, .int v3, .int v2, .int v1, va_rf (some a_1), .int 0, va_rf v5]) rfl (by rw [ea_1]) ?_
  obtain ⟨c_5, h⟩ := x_chk_e h
  rcases x_bind_e h with ⟨v_2, σ_3, h_4, h⟩ | ⟨E_9, σ_3, h_4, h⟩
  · have z9 := x_call (M := mL_letter) (M' := mX11_letter) (pc := 9) (st := [.int v4, .int v3, .int v2, .int v1, va_rf (some a_1), .int 0, va_rf v5]) (rest := [.int 0, va_rf v5]) (av := [va_rf (some a_1), .int v1, .int v2, .int v3, .int v4]) (x_linkV (M := mL_letter) (M' := mX11_letter) (As := [.int v1, .int v2, .int v3, .int v4]) (index := 33) (C := RX11) (T := TX11) (xE_11 c_5) rfl wd_855 wd_856 wd_854 xw_X11_letter rfl (by decide) rfl rfl dL_letter_9) (ev_X11_letter hO hP h_4) xw_X11_letter rfl wd_5 dL_letter_9 (by decide) (by decide) (by simp [x_cat, x_catI, x_catJ])
    refine x_callR z9 ?_
    refine ev_at (st' := [.int v_2, .int 0, va_rf v5]) rfl rfl ?_
    refine ev_i2l (x := v_2) dL_letter_12 ?_
    obtain ⟨a_6, ea_6, h⟩ := x_some_e h
    refine ev_at (st' := [.long (Int32.toInt64 v_2), .int 0, va_rf (some a_6)]) rfl (by rw [ea_6]) ?_
    obtain ⟨c_7, h⟩ := x_chk_e h
    obtain ⟨σ_8, eσ_8, h⟩ := x_let_e h
    refine ev_last_42 c_7.1 c_7.2.1 (hP.2.2.2.1 ▸ c_7.2.2) dL_letter_13 (eσ_8 ▸ ?_)
    refine ev_goto (tgt := 21) dL_letter_14 (by decide) ?_
    refine ev_iconst (v := 0) dL_letter_21 (by decide) ?_
    cases h
    exact ev_iret rfl rfl dL_letter_22
  · have z9 := x_call (M := mL_letter) (M' := mX11_letter) (pc := 9) (st := [.int v4, .int v3, .int v2, .int v1, va_rf (some a_1), .int 0, va_rf v5]) (rest := [.int 0, va_rf v5]) (av := [va_rf (some a_1), .int v1, .int v2, .int v3, .int v4]) (x_linkV (M := mL_letter) (M' := mX11_letter) (As := [.int v1, .int v2, .int v3, .int v4]) (index := 33) (C := RX11) (T := TX11) (xE_11 c_5) rfl wd_855 wd_856 wd_854 xw_X11_letter rfl (by decide) rfl rfl dL_letter_9) (ev_X11_letter hO hP h_4) xw_X11_letter rfl wd_5 dL_letter_9 (by decide) (by decide) (by simp [x_cat, x_catI, x_catJ])
    obtain ⟨c_11, h9⟩ := x_chk_e h
    clear h
    subst c_11
    have h := h9
    clear h9
    refine x_callX z9 (evX_catch (name := "java/lang/IndexOutOfBoundsException") (x := (0, 14, 17, 13)) (xs := []) rfl (by decide) (by decide) wd_31 wd_32 (fun q_10 => ?_))
    refine ev_astore (i := 6) (lv' := [(6, va_rf (some q_10)), (0, va_rf v0), (1, .int v1), (2, .int v2), (3, .int v3), (4, .int v4), (5, va_rf v5)]) dL_letter_17 (by decide) (by simp [x_cat, x_catI, x_catJ]) ?_
    refine ev_iconst (v := 1) dL_letter_19 (by decide) ?_
    cases h
    exact ev_iret rfl rfl dL_letter_20
set_option maxHeartbeats 4000000 in
set_option maxRecDepth 100000 in
theorem ev_X12_letter_p219 {l : Launch} {G : xG} (hO : x_OK l G) {P : xP} (hP : x_PG P G) {a0 : Nat} {s0 : Int32} {σ σ' : xS} {rr : Int32 ⊕ String} (h : dm_X12_letter_p219 P a0 s0 σ = some (rr, σ')) : Ev l G mX12_letter 219 [] [.int s0] σ (xrI rr) σ' := by
  unfold dm_X12_letter_p219 at h
  cases h
  exact ev_iret rfl rfl dX12_letter_219
set_option maxHeartbeats 4000000 in
set_option maxRecDepth 100000 in
theorem ev_X12_letter_p179 {l : Launch} {G : xG} (hO : x_OK l G) {P : xP} (hP : x_PG P G) {a0 : Nat} {v4 : Int32} {s0 : Int32} {σ σ' : xS} {rr : Int32 ⊕ String} (h : dm_X12_letter_p179 P a0 v4 s0 σ = some (rr, σ')) : Ev l G mX12_letter 179 [(0, va_rf (some a0)), (4, .int v4)] [.int s0] σ (xrI rr) σ' := by
  unfold dm_X12_letter_p179 at h
  refine ev_istore (i := 6) (lv' := [(6, .int s0), (0, va_rf (some a0)), (4, .int v4)]) dX12_letter_179 (by decide) rfl ?_
  refine ev_iload (j := 2) (x := v4) dX12_letter_181 rfl ?_
  refine ev_aload_n (j := 1) (x := (some a0)) dX12_letter_183 rfl rfl ?_
  refine ev_aload_n (j := 1) (x := (some a0)) dX12_letter_184 rfl rfl ?_
  obtain ⟨c_1, h⟩ := x_chk_e h
  refine ev_get (C := RX12) (T := TX12) (k := 3) inX12 (xE_12 c_1) rfl (by decide) wd_783 (Or.inl rfl) rfl dX12_letter_185 ?_
  refine ev_iload (j := 0) (x := s0) dX12_letter_188 rfl ?_
  rcases x_bind_e h with ⟨v_2, σ_3, h_4, h⟩ | ⟨E_9, σ_3, h_4, h⟩
  · have z9 := x_call (M := mX12_letter) (M' := mX12_length) (pc := 190) (st := [.int s0, .int (σ.I 1103 a0), va_rf (some a0), .int v4]) (rest := [.int v4]) (av := [va_rf (some a0), .int (σ.I 1103 a0), .int s0]) (x_linkV (M := mX12_letter) (M' := mX12_length) (As := [.int (σ.I 1103 a0), .int s0]) (index := 154) (C := RX12) (T := TX12) (xE_12 c_1) rfl wd_666 wd_667 (wG_in (List.mem_append_left _ (List.mem_of_getElem? (i := 47) rfl)) rfl) xw_X12_length rfl (by decide) rfl rfl dX12_letter_190) (ev_X12_length hO hP h_4) xw_X12_length rfl wd_198 dX12_letter_190 (by decide) (by decide) (by simp [x_cat, x_catI, x_catJ])
    refine x_callR z9 ?_
    refine ev_at (st' := [.int v_2, .int v4]) rfl rfl ?_
    by_cases c_5 : v_2 ≤ v4
    · rw [if_pos c_5] at h
      refine ev_icmp_ge (x := v4) (y := v_2) (tgt := 218) dX12_letter_193 (by decide) (fun _ => ?_) (fun q9 => absurd c_5 q9)
      refine ev_iconst (v := -1) dX12_letter_218 (by decide) ?_
      exact ev_sub [] rfl (ev_X12_letter_p219 hO hP h)
    · rw [if_neg c_5] at h
      refine ev_icmp_ge (x := v4) (y := v_2) (tgt := 218) dX12_letter_193 (by decide) (fun q9 => absurd q9 c_5) (fun _ => ?_)
      refine ev_aload_n (j := 1) (x := (some a0)) dX12_letter_196 rfl rfl ?_
      obtain ⟨c_6, h⟩ := x_chk_e h
      refine ev_get (C := RX12) (T := TX12) (k := 4) inX12 (xE_12 c_6) rfl (by decide) wd_151 (Or.inl rfl) rfl dX12_letter_197 ?_
      refine ev_sipush (v := 1000) dX12_letter_200 (by decide) ?_
      refine ev_aload_n (j := 1) (x := (some a0)) dX12_letter_203 rfl rfl ?_
      refine ev_get (C := RX12) (T := TX12) (k := 3) inX12 (xE_12 c_6) rfl (by decide) wd_783 (Or.inl rfl) rfl dX12_letter_204 ?_
      refine ev_imul (x := 1000) (y := (σ_3.I 1103 a0)) dX12_letter_207 ?_
      refine ev_iload (j := 0) (x := s0) dX12_letter_208 rfl ?_
      refine ev_iadd (x := (1000 * (σ_3.I 1103 a0))) (y := s0) dX12_letter_210 ?_
      refine ev_iload (j := 2) (x := v4) dX12_letter_211 rfl ?_
      refine ev_iadd (x := ((1000 * (σ_3.I 1103 a0)) + s0)) (y := v4) dX12_letter_213 ?_
      obtain ⟨a_7, ea_7, h⟩ := x_some_e h
      refine ev_at (st' := [.int (((1000 * (σ_3.I 1103 a0)) + s0) + v4), va_rf (some a_7)]) rfl (by rw [ea_7]) ?_
      obtain ⟨c_8, h⟩ := x_chk_e h
      refine ev_iald_31 c_8.1 c_8.2 dX12_letter_214 ?_
      refine ev_goto (tgt := 219) dX12_letter_215 (by decide) ?_
      exact ev_sub [] rfl (ev_X12_letter_p219 hO hP h)
  · have z9 := x_call (M := mX12_letter) (M' := mX12_length) (pc := 190) (st := [.int s0, .int (σ.I 1103 a0), va_rf (some a0), .int v4]) (rest := [.int v4]) (av := [va_rf (some a0), .int (σ.I 1103 a0), .int s0]) (x_linkV (M := mX12_letter) (M' := mX12_length) (As := [.int (σ.I 1103 a0), .int s0]) (index := 154) (C := RX12) (T := TX12) (xE_12 c_1) rfl wd_666 wd_667 (wG_in (List.mem_append_left _ (List.mem_of_getElem? (i := 47) rfl)) rfl) xw_X12_length rfl (by decide) rfl rfl dX12_letter_190) (ev_X12_length hO hP h_4) xw_X12_length rfl wd_198 dX12_letter_190 (by decide) (by decide) (by simp [x_cat, x_catI, x_catJ])
    cases h
    exact x_callX z9 (evX_out rfl)
set_option maxHeartbeats 4000000 in
set_option maxRecDepth 100000 in
theorem ev_X12_letter_p89 {l : Launch} {G : xG} (hO : x_OK l G) {P : xP} (hP : x_PG P G) {a0 : Nat} {v1 : Int32} {v2 : Int32} {v3 : Int32} {v4 : Int32} {s0 : Option Nat} {s1 : Int32} {σ σ' : xS} {rr : Int32 ⊕ String} (h : dm_X12_letter_p89 P a0 v1 v2 v3 v4 s0 s1 σ = some (rr, σ')) : Ev l G mX12_letter 89 [(0, va_rf (some a0)), (1, .int v1), (2, .int v2), (3, .int v3), (4, .int v4)] [.int s1, va_rf s0] σ (xrI rr) σ' := by
  unfold dm_X12_letter_p89 at h
  obtain ⟨a_1, ea_1, h⟩ := x_some_e h
  refine ev_at (st' := [.int s1, va_rf (some a_1)]) rfl (by rw [ea_1]) ?_
  obtain ⟨c_2, h⟩ := x_chk_e h
  obtain ⟨σ_3, eσ_3, h⟩ := x_let_e h
  refine ev_put (σ2 := σ_3) (C := RX12) (T := TX12) (k := 0) inX12 tyX12 tyX12_ok nmX12 (xE_12 c_2.1) rfl (by decide) wd_194 (Or.inl rfl) rfl rfl rfl rfl (Nat.le_of_ble_eq_true rfl) (hP.2.2.2.1 ▸ c_2.2) (by rw [eσ_3]; exact xP_12_0 _ c_2.1) (by rw [eσ_3]; exact xPut_I) dX12_letter_89 ?_
  refine ev_aload_n (j := 0) (x := (some a0)) dX12_letter_92 rfl rfl ?_
  obtain ⟨c_4, h⟩ := x_chk_e h
  refine ev_get (C := RX12) (T := TX12) (k := 0) inX12 (xE_12 c_4) rfl (by decide) wd_194 (Or.inl rfl) rfl dX12_letter_93 ?_
  by_cases c_5 : (σ_3.I 1100 a0) ≤ 0
  · rw [if_pos c_5] at h
    refine ev_if_le (x := (σ_3.I 1100 a0)) (tgt := 101) dX12_letter_96 (by decide) (fun _ => ?_) (fun q9 => absurd c_5 q9)
    refine ev_iload_n (j := 1) (x := v1) dX12_letter_101 rfl rfl ?_
    by_cases c_6 : v1 = 0
    · rw [if_pos c_6] at h
      refine ev_if_ne (x := v1) (tgt := 118) dX12_letter_102 (by decide) (fun q9 => absurd c_6 q9) (fun _ => ?_)
      refine ev_aload_n (j := 0) (x := (some a0)) dX12_letter_105 rfl rfl ?_
      refine ev_get (C := RX12) (T := TX12) (k := 7) inX12 (xE_12 c_4) rfl (by decide) wd_154 (Or.inl rfl) rfl dX12_letter_106 ?_
      refine ev_aload_n (j := 0) (x := (some a0)) dX12_letter_109 rfl rfl ?_
      refine ev_iload_n (j := 2) (x := v2) dX12_letter_110 rfl rfl ?_
      rcases x_bind_e h with ⟨v_27, σ_28, h_29, h⟩ | ⟨E_32, σ_28, h_29, h⟩
      · have z9 := x_call (M := mX12_letter) (M' := mX12_of) (pc := 111) (st := [.int v2, va_rf (some a0), va_rf (σ_3.R 1107 a0)]) (rest := [va_rf (σ_3.R 1107 a0)]) (av := [va_rf (some a0), .int v2]) (x_linkV (M := mX12_letter) (M' := mX12_of) (As := [.int v2]) (index := 311) (C := RX12) (T := TX12) (xE_12 c_4) rfl wd_811 wd_812 (wG_in (List.mem_append_left _ (List.mem_of_getElem? (i := 86) rfl)) rfl) xw_X12_of rfl (by decide) rfl rfl dX12_letter_111) (ev_X12_of hO hP h_29) xw_X12_of rfl wd_198 dX12_letter_111 (by decide) (by decide) (by simp [x_cat, x_catI, x_catJ])
        refine x_callR z9 ?_
        refine ev_at (st' := [.int v_27, va_rf (σ_3.R 1107 a0)]) rfl rfl ?_
        obtain ⟨a_30, ea_30, h⟩ := x_some_e h
        refine ev_at (st' := [.int v_27, va_rf (some a_30)]) rfl (by rw [ea_30]) ?_
        obtain ⟨c_31, h⟩ := x_chk_e h
        refine ev_iald_31 c_31.1 c_31.2 dX12_letter_114 ?_
        refine ev_goto (tgt := 179) dX12_letter_115 (by decide) ?_
        exact ev_sub [0, 4] rfl (ev_X12_letter_p179 hO hP h)
      · have z9 := x_call (M := mX12_letter) (M' := mX12_of) (pc := 111) (st := [.int v2, va_rf (some a0), va_rf (σ_3.R 1107 a0)]) (rest := [va_rf (σ_3.R 1107 a0)]) (av := [va_rf (some a0), .int v2]) (x_linkV (M := mX12_letter) (M' := mX12_of) (As := [.int v2]) (index := 311) (C := RX12) (T := TX12) (xE_12 c_4) rfl wd_811 wd_812 (wG_in (List.mem_append_left _ (List.mem_of_getElem? (i := 86) rfl)) rfl) xw_X12_of rfl (by decide) rfl rfl dX12_letter_111) (ev_X12_of hO hP h_29) xw_X12_of rfl wd_198 dX12_letter_111 (by decide) (by decide) (by simp [x_cat, x_catI, x_catJ])
        cases h
        exact x_callX z9 (evX_out rfl)
    · rw [if_neg c_6] at h
      refine ev_if_ne (x := v1) (tgt := 118) dX12_letter_102 (by decide) (fun _ => ?_) (fun q9 => absurd q9 c_6)
      refine ev_iload_n (j := 1) (x := v1) dX12_letter_118 rfl rfl ?_
      refine ev_iconst (v := 1) dX12_letter_119 (by decide) ?_
      by_cases c_7 : v1 = 1
      · rw [if_pos c_7] at h
        refine ev_icmp_ne (x := v1) (y := 1) (tgt := 141) dX12_letter_120 (by decide) (fun q9 => absurd c_7 q9) (fun _ => ?_)
        refine ev_aload_n (j := 0) (x := (some a0)) dX12_letter_123 rfl rfl ?_
        refine ev_get (C := RX12) (T := TX12) (k := 10) inX12 (xE_12 c_4) rfl (by decide) wd_157 (Or.inl rfl) rfl dX12_letter_124 ?_
        refine ev_bipush (v := 16) dX12_letter_127 (by decide) ?_
        refine ev_aload_n (j := 0) (x := (some a0)) dX12_letter_129 rfl rfl ?_
        refine ev_iload_n (j := 2) (x := v2) dX12_letter_130 rfl rfl ?_
        rcases x_bind_e h with ⟨v_21, σ_22, h_23, h⟩ | ⟨E_26, σ_22, h_23, h⟩
        · have z9 := x_call (M := mX12_letter) (M' := mX12_of) (pc := 131) (st := [.int v2, va_rf (some a0), .int 16, va_rf (σ_3.R 1110 a0)]) (rest := [.int 16, va_rf (σ_3.R 1110 a0)]) (av := [va_rf (some a0), .int v2]) (x_linkV (M := mX12_letter) (M' := mX12_of) (As := [.int v2]) (index := 311) (C := RX12) (T := TX12) (xE_12 c_4) rfl wd_811 wd_812 (wG_in (List.mem_append_left _ (List.mem_of_getElem? (i := 86) rfl)) rfl) xw_X12_of rfl (by decide) rfl rfl dX12_letter_131) (ev_X12_of hO hP h_23) xw_X12_of rfl wd_198 dX12_letter_131 (by decide) (by decide) (by simp [x_cat, x_catI, x_catJ])
          refine x_callR z9 ?_
          refine ev_at (st' := [.int v_21, .int 16, va_rf (σ_3.R 1110 a0)]) rfl rfl ?_
          refine ev_imul (x := 16) (y := v_21) dX12_letter_134 ?_
          refine ev_iload_n (j := 3) (x := v3) dX12_letter_135 rfl rfl ?_
          refine ev_iadd (x := (16 * v_21)) (y := v3) dX12_letter_136 ?_
          obtain ⟨a_24, ea_24, h⟩ := x_some_e h
          refine ev_at (st' := [.int ((16 * v_21) + v3), va_rf (some a_24)]) rfl (by rw [ea_24]) ?_
          obtain ⟨c_25, h⟩ := x_chk_e h
          refine ev_iald_31 c_25.1 c_25.2 dX12_letter_137 ?_
          refine ev_goto (tgt := 179) dX12_letter_138 (by decide) ?_
          exact ev_sub [0, 4] rfl (ev_X12_letter_p179 hO hP h)
        · have z9 := x_call (M := mX12_letter) (M' := mX12_of) (pc := 131) (st := [.int v2, va_rf (some a0), .int 16, va_rf (σ_3.R 1110 a0)]) (rest := [.int 16, va_rf (σ_3.R 1110 a0)]) (av := [va_rf (some a0), .int v2]) (x_linkV (M := mX12_letter) (M' := mX12_of) (As := [.int v2]) (index := 311) (C := RX12) (T := TX12) (xE_12 c_4) rfl wd_811 wd_812 (wG_in (List.mem_append_left _ (List.mem_of_getElem? (i := 86) rfl)) rfl) xw_X12_of rfl (by decide) rfl rfl dX12_letter_131) (ev_X12_of hO hP h_23) xw_X12_of rfl wd_198 dX12_letter_131 (by decide) (by decide) (by simp [x_cat, x_catI, x_catJ])
          cases h
          exact x_callX z9 (evX_out rfl)
      · rw [if_neg c_7] at h
        refine ev_icmp_ne (x := v1) (y := 1) (tgt := 141) dX12_letter_120 (by decide) (fun _ => ?_) (fun q9 => absurd q9 c_7)
        refine ev_iload_n (j := 1) (x := v1) dX12_letter_141 rfl rfl ?_
        refine ev_iconst (v := 2) dX12_letter_142 (by decide) ?_
        by_cases c_8 : v1 = 2
        · rw [if_pos c_8] at h
          refine ev_icmp_ne (x := v1) (y := 2) (tgt := 164) dX12_letter_143 (by decide) (fun q9 => absurd c_8 q9) (fun _ => ?_)
          refine ev_aload_n (j := 0) (x := (some a0)) dX12_letter_146 rfl rfl ?_
          refine ev_get (C := RX12) (T := TX12) (k := 26) inX12 (xE_12 c_4) rfl (by decide) wd_174 (Or.inl rfl) rfl dX12_letter_147 ?_
          refine ev_bipush (v := 12) dX12_letter_150 (by decide) ?_
          refine ev_aload_n (j := 0) (x := (some a0)) dX12_letter_152 rfl rfl ?_
          refine ev_iload_n (j := 2) (x := v2) dX12_letter_153 rfl rfl ?_
          rcases x_bind_e h with ⟨v_15, σ_16, h_17, h⟩ | ⟨E_20, σ_16, h_17, h⟩
          · have z9 := x_call (M := mX12_letter) (M' := mX12_of) (pc := 154) (st := [.int v2, va_rf (some a0), .int 12, va_rf (σ_3.R 1126 a0)]) (rest := [.int 12, va_rf (σ_3.R 1126 a0)]) (av := [va_rf (some a0), .int v2]) (x_linkV (M := mX12_letter) (M' := mX12_of) (As := [.int v2]) (index := 311) (C := RX12) (T := TX12) (xE_12 c_4) rfl wd_811 wd_812 (wG_in (List.mem_append_left _ (List.mem_of_getElem? (i := 86) rfl)) rfl) xw_X12_of rfl (by decide) rfl rfl dX12_letter_154) (ev_X12_of hO hP h_17) xw_X12_of rfl wd_198 dX12_letter_154 (by decide) (by decide) (by simp [x_cat, x_catI, x_catJ])
            refine x_callR z9 ?_
            refine ev_at (st' := [.int v_15, .int 12, va_rf (σ_3.R 1126 a0)]) rfl rfl ?_
            refine ev_imul (x := 12) (y := v_15) dX12_letter_157 ?_
            refine ev_iload_n (j := 3) (x := v3) dX12_letter_158 rfl rfl ?_
            refine ev_iadd (x := (12 * v_15)) (y := v3) dX12_letter_159 ?_
            obtain ⟨a_18, ea_18, h⟩ := x_some_e h
            refine ev_at (st' := [.int ((12 * v_15) + v3), va_rf (some a_18)]) rfl (by rw [ea_18]) ?_
            obtain ⟨c_19, h⟩ := x_chk_e h
            refine ev_iald_31 c_19.1 c_19.2 dX12_letter_160 ?_
            refine ev_goto (tgt := 179) dX12_letter_161 (by decide) ?_
            exact ev_sub [0, 4] rfl (ev_X12_letter_p179 hO hP h)
          · have z9 := x_call (M := mX12_letter) (M' := mX12_of) (pc := 154) (st := [.int v2, va_rf (some a0), .int 12, va_rf (σ_3.R 1126 a0)]) (rest := [.int 12, va_rf (σ_3.R 1126 a0)]) (av := [va_rf (some a0), .int v2]) (x_linkV (M := mX12_letter) (M' := mX12_of) (As := [.int v2]) (index := 311) (C := RX12) (T := TX12) (xE_12 c_4) rfl wd_811 wd_812 (wG_in (List.mem_append_left _ (List.mem_of_getElem? (i := 86) rfl)) rfl) xw_X12_of rfl (by decide) rfl rfl dX12_letter_154) (ev_X12_of hO hP h_17) xw_X12_of rfl wd_198 dX12_letter_154 (by decide) (by decide) (by simp [x_cat, x_catI, x_catJ])
            cases h
            exact x_callX z9 (evX_out rfl)
        · rw [if_neg c_8] at h
          refine ev_icmp_ne (x := v1) (y := 2) (tgt := 164) dX12_letter_143 (by decide) (fun _ => ?_) (fun q9 => absurd q9 c_8)
          refine ev_aload_n (j := 0) (x := (some a0)) dX12_letter_164 rfl rfl ?_
          refine ev_get (C := RX12) (T := TX12) (k := 25) inX12 (xE_12 c_4) rfl (by decide) wd_173 (Or.inl rfl) rfl dX12_letter_165 ?_
          refine ev_bipush (v := 12) dX12_letter_168 (by decide) ?_
          refine ev_aload_n (j := 0) (x := (some a0)) dX12_letter_170 rfl rfl ?_
          refine ev_iload_n (j := 2) (x := v2) dX12_letter_171 rfl rfl ?_
          rcases x_bind_e h with ⟨v_9, σ_10, h_11, h⟩ | ⟨E_14, σ_10, h_11, h⟩
          · have z9 := x_call (M := mX12_letter) (M' := mX12_of) (pc := 172) (st := [.int v2, va_rf (some a0), .int 12, va_rf (σ_3.R 1125 a0)]) (rest := [.int 12, va_rf (σ_3.R 1125 a0)]) (av := [va_rf (some a0), .int v2]) (x_linkV (M := mX12_letter) (M' := mX12_of) (As := [.int v2]) (index := 311) (C := RX12) (T := TX12) (xE_12 c_4) rfl wd_811 wd_812 (wG_in (List.mem_append_left _ (List.mem_of_getElem? (i := 86) rfl)) rfl) xw_X12_of rfl (by decide) rfl rfl dX12_letter_172) (ev_X12_of hO hP h_11) xw_X12_of rfl wd_198 dX12_letter_172 (by decide) (by decide) (by simp [x_cat, x_catI, x_catJ])
            refine x_callR z9 ?_
            refine ev_at (st' := [.int v_9, .int 12, va_rf (σ_3.R 1125 a0)]) rfl rfl ?_
            refine ev_imul (x := 12) (y := v_9) dX12_letter_175 ?_
            refine ev_iload_n (j := 3) (x := v3) dX12_letter_176 rfl rfl ?_
            refine ev_iadd (x := (12 * v_9)) (y := v3) dX12_letter_177 ?_
            obtain ⟨a_12, ea_12, h⟩ := x_some_e h
            refine ev_at (st' := [.int ((12 * v_9) + v3), va_rf (some a_12)]) rfl (by rw [ea_12]) ?_
            obtain ⟨c_13, h⟩ := x_chk_e h
            refine ev_iald_31 c_13.1 c_13.2 dX12_letter_178 ?_
            exact ev_sub [0, 4] rfl (ev_X12_letter_p179 hO hP h)
          · have z9 := x_call (M := mX12_letter) (M' := mX12_of) (pc := 172) (st := [.int v2, va_rf (some a0), .int 12, va_rf (σ_3.R 1125 a0)]) (rest := [.int 12, va_rf (σ_3.R 1125 a0)]) (av := [va_rf (some a0), .int v2]) (x_linkV (M := mX12_letter) (M' := mX12_of) (As := [.int v2]) (index := 311) (C := RX12) (T := TX12) (xE_12 c_4) rfl wd_811 wd_812 (wG_in (List.mem_append_left _ (List.mem_of_getElem? (i := 86) rfl)) rfl) xw_X12_of rfl (by decide) rfl rfl dX12_letter_172) (ev_X12_of hO hP h_11) xw_X12_of rfl wd_198 dX12_letter_172 (by decide) (by decide) (by simp [x_cat, x_catI, x_catJ])
            cases h
            exact x_callX z9 (evX_out rfl)
  · rw [if_neg c_5] at h
    refine ev_if_le (x := (σ_3.I 1100 a0)) (tgt := 101) dX12_letter_96 (by decide) (fun q9 => absurd q9 c_5) (fun _ => ?_)
    refine ev_iconst (v := 0) dX12_letter_99 (by decide) ?_
    cases h
    exact ev_iret rfl rfl dX12_letter_100
set_option maxHeartbeats 4000000 in
set_option maxRecDepth 100000 in
theorem ev_X12_letter_p76 {l : Launch} {G : xG} (hO : x_OK l G) {P : xP} (hP : x_PG P G) {a0 : Nat} {v1 : Int32} {v2 : Int32} {v3 : Int32} {v4 : Int32} {s0 : Int32} {σ σ' : xS} {rr : Int32 ⊕ String} (h : dm_X12_letter_p76 P a0 v1 v2 v3 v4 s0 σ = some (rr, σ')) : Ev l G mX12_letter 76 [(0, va_rf (some a0)), (1, .int v1), (2, .int v2), (3, .int v3), (4, .int v4)] [.int s0] σ (xrI rr) σ' := by
  unfold dm_X12_letter_p76 at h
  refine ev_istore (i := 5) (lv' := [(5, .int s0), (0, va_rf (some a0)), (1, .int v1), (2, .int v2), (3, .int v3), (4, .int v4)]) dX12_letter_76 (by decide) rfl ?_
  refine ev_aload_n (j := 1) (x := (some a0)) dX12_letter_78 rfl rfl ?_
  refine ev_iload (j := 0) (x := s0) dX12_letter_79 rfl ?_
  by_cases c_1 : s0 = 0
  · rw [if_pos c_1] at h
    refine ev_if_eq (x := s0) (tgt := 88) dX12_letter_81 (by decide) (fun _ => ?_) (fun q9 => absurd c_1 q9)
    refine ev_iconst (v := 1) dX12_letter_88 (by decide) ?_
    exact ev_sub [1, 2, 3, 4, 5] rfl (ev_X12_letter_p89 hO hP h)
  · rw [if_neg c_1] at h
    refine ev_if_eq (x := s0) (tgt := 88) dX12_letter_81 (by decide) (fun q9 => absurd q9 c_1) (fun _ => ?_)
    refine ev_iconst (v := 0) dX12_letter_84 (by decide) ?_
    refine ev_goto (tgt := 89) dX12_letter_85 (by decide) ?_
    exact ev_sub [1, 2, 3, 4, 5] rfl (ev_X12_letter_p89 hO hP h)
set_option maxHeartbeats 4000000 in
set_option maxRecDepth 100000 in
theorem ev_X12_letter_p71 {l : Launch} {G : xG} (hO : x_OK l G) {P : xP} (hP : x_PG P G) {a0 : Nat} {v1 : Int32} {v2 : Int32} {v3 : Int32} {v4 : Int32} {σ σ' : xS} {rr : Int32 ⊕ String} (h : dm_X12_letter_p71 P a0 v1 v2 v3 v4 σ = some (rr, σ')) : Ev l G mX12_letter 71 [(0, va_rf (some a0)), (1, .int v1), (2, .int v2), (3, .int v3), (4, .int v4)] [] σ (xrI rr) σ' := by
  unfold dm_X12_letter_p71 at h
  refine ev_iconst (v := 1) dX12_letter_71 (by decide) ?_
  refine ev_goto (tgt := 76) dX12_letter_72 (by decide) ?_
  exact ev_sub [0, 1, 2, 3, 4] rfl (ev_X12_letter_p76 hO hP h)
set_option maxHeartbeats 4000000 in
set_option maxRecDepth 100000 in
theorem ev_X12_letter_p75 {l : Launch} {G : xG} (hO : x_OK l G) {P : xP} (hP : x_PG P G) {a0 : Nat} {v1 : Int32} {v2 : Int32} {v3 : Int32} {v4 : Int32} {σ σ' : xS} {rr : Int32 ⊕ String} (h : dm_X12_letter_p75 P a0 v1 v2 v3 v4 σ = some (rr, σ')) : Ev l G mX12_letter 75 [(0, va_rf (some a0)), (1, .int v1), (2, .int v2), (3, .int v3), (4, .int v4)] [] σ (xrI rr) σ' := by
  unfold dm_X12_letter_p75 at h
  refine ev_iconst (v := 0) dX12_letter_75 (by decide) ?_
  exact ev_sub [0, 1, 2, 3, 4] rfl (ev_X12_letter_p76 hO hP h)
set_option maxHeartbeats 4000000 in
set_option maxRecDepth 100000 in
theorem ev_X12_letter_p57 {l : Launch} {G : xG} (hO : x_OK l G) {P : xP} (hP : x_PG P G) {a0 : Nat} {v1 : Int32} {v2 : Int32} {v3 : Int32} {v4 : Int32} {σ σ' : xS} {rr : Int32 ⊕ String} (h : dm_X12_letter_p57 P a0 v1 v2 v3 v4 σ = some (rr, σ')) : Ev l G mX12_letter 57 [(0, va_rf (some a0)), (1, .int v1), (2, .int v2), (3, .int v3), (4, .int v4)] [] σ (xrI rr) σ' := by
  unfold dm_X12_letter_p57 at h
  refine ev_iload_n (j := 1) (x := v1) dX12_letter_57 rfl rfl ?_
  refine ev_iconst (v := 2) dX12_letter_58 (by decide) ?_
  by_cases c_1 : v1 < 2
  · rw [if_pos c_1] at h
    refine ev_icmp_lt (x := v1) (y := 2) (tgt := 71) dX12_letter_59 (by decide) (fun _ => ?_) (fun q9 => absurd c_1 q9)
    exact ev_sub [0, 1, 2, 3, 4] rfl (ev_X12_letter_p71 hO hP h)
  · rw [if_neg c_1] at h
    refine ev_icmp_lt (x := v1) (y := 2) (tgt := 71) dX12_letter_59 (by decide) (fun q9 => absurd q9 c_1) (fun _ => ?_)
    refine ev_aload_n (j := 0) (x := (some a0)) dX12_letter_62 rfl rfl ?_
    refine ev_iload_n (j := 2) (x := v2) dX12_letter_63 rfl rfl ?_
    refine ev_iload_n (j := 3) (x := v3) dX12_letter_64 rfl rfl ?_
    obtain ⟨c_5, h⟩ := x_chk_e h
    rcases x_bind_e h with ⟨v_2, σ_3, h_4, h⟩ | ⟨E_7, σ_3, h_4, h⟩
    · have z9 := x_call (M := mX12_letter) (M' := mX12_isInstance) (pc := 65) (st := [.int v3, .int v2, va_rf (some a0)]) (rest := []) (av := [va_rf (some a0), .int v2, .int v3]) (x_linkV (M := mX12_letter) (M' := mX12_isInstance) (As := [.int v2, .int v3]) (index := 317) (C := RX12) (T := TX12) (xE_12 c_5) rfl wd_828 wd_829 (wG_in (List.mem_append_left _ (List.mem_of_getElem? (i := 88) rfl)) rfl) xw_X12_isInstance rfl (by decide) rfl rfl dX12_letter_65) (ev_X12_isInstance hO hP h_4) xw_X12_isInstance rfl wd_198 dX12_letter_65 (by decide) (by decide) (by simp [x_cat, x_catI, x_catJ])
      refine x_callR z9 ?_
      refine ev_at (st' := [.int v_2]) rfl rfl ?_
      by_cases c_6 : v_2 = 0
      · rw [if_pos c_6] at h
        refine ev_if_eq (x := v_2) (tgt := 75) dX12_letter_68 (by decide) (fun _ => ?_) (fun q9 => absurd c_6 q9)
        exact ev_sub [0, 1, 2, 3, 4] rfl (ev_X12_letter_p75 hO hP h)
      · rw [if_neg c_6] at h
        refine ev_if_eq (x := v_2) (tgt := 75) dX12_letter_68 (by decide) (fun q9 => absurd q9 c_6) (fun _ => ?_)
        exact ev_sub [0, 1, 2, 3, 4] rfl (ev_X12_letter_p71 hO hP h)
    · have z9 := x_call (M := mX12_letter) (M' := mX12_isInstance) (pc := 65) (st := [.int v3, .int v2, va_rf (some a0)]) (rest := []) (av := [va_rf (some a0), .int v2, .int v3]) (x_linkV (M := mX12_letter) (M' := mX12_isInstance) (As := [.int v2, .int v3]) (index := 317) (C := RX12) (T := TX12) (xE_12 c_5) rfl wd_828 wd_829 (wG_in (List.mem_append_left _ (List.mem_of_getElem? (i := 88) rfl)) rfl) xw_X12_isInstance rfl (by decide) rfl rfl dX12_letter_65) (ev_X12_isInstance hO hP h_4) xw_X12_isInstance rfl wd_198 dX12_letter_65 (by decide) (by decide) (by simp [x_cat, x_catI, x_catJ])
      cases h
      exact x_callX z9 (evX_out rfl)
set_option maxHeartbeats 4000000 in
set_option maxRecDepth 100000 in
theorem ev_X12_letter_p27 {l : Launch} {G : xG} (hO : x_OK l G) {P : xP} (hP : x_PG P G) {a0 : Nat} {v1 : Int32} {v2 : Int32} {v3 : Int32} {v4 : Int32} {s0 : Int32} {σ σ' : xS} {rr : Int32 ⊕ String} (h : dm_X12_letter_p27 P a0 v1 v2 v3 v4 s0 σ = some (rr, σ')) : Ev l G mX12_letter 27 [(0, va_rf (some a0)), (1, .int v1), (2, .int v2), (3, .int v3), (4, .int v4)] [.int s0] σ (xrI rr) σ' := by
  unfold dm_X12_letter_p27 at h
  refine ev_istore (i := 5) (lv' := [(5, .int s0), (0, va_rf (some a0)), (1, .int v1), (2, .int v2), (3, .int v3), (4, .int v4)]) dX12_letter_27 (by decide) rfl ?_
  refine ev_iload (j := 0) (x := s0) dX12_letter_29 rfl ?_
  by_cases c_1 : s0 = 0
  · rw [if_pos c_1] at h
    refine ev_if_eq (x := s0) (tgt := 75) dX12_letter_31 (by decide) (fun _ => ?_) (fun q9 => absurd c_1 q9)
    exact ev_sub [1, 2, 3, 4, 5] rfl (ev_X12_letter_p75 hO hP h)
  · rw [if_neg c_1] at h
    refine ev_if_eq (x := s0) (tgt := 75) dX12_letter_31 (by decide) (fun q9 => absurd q9 c_1) (fun _ => ?_)
    refine ev_iload_n (j := 2) (x := v1) dX12_letter_34 rfl rfl ?_
    refine ev_iconst (v := 1) dX12_letter_35 (by decide) ?_
    by_cases c_2 : v1 = 1
    · rw [if_pos c_2] at h
      refine ev_icmp_ne (x := v1) (y := 1) (tgt := 57) dX12_letter_36 (by decide) (fun q9 => absurd c_2 q9) (fun _ => ?_)
      refine ev_iload_n (j := 4) (x := v3) dX12_letter_39 rfl rfl ?_
      by_cases c_3 : v3 < 0
      · rw [if_pos c_3] at h
        refine ev_if_lt (x := v3) (tgt := 75) dX12_letter_40 (by decide) (fun _ => ?_) (fun q9 => absurd c_3 q9)
        exact ev_sub [1, 2, 3, 4, 5] rfl (ev_X12_letter_p75 hO hP h)
      · rw [if_neg c_3] at h
        refine ev_if_lt (x := v3) (tgt := 75) dX12_letter_40 (by decide) (fun q9 => absurd q9 c_3) (fun _ => ?_)
        refine ev_iload_n (j := 4) (x := v3) dX12_letter_43 rfl rfl ?_
        refine ev_aload_n (j := 1) (x := (some a0)) dX12_letter_44 rfl rfl ?_
        obtain ⟨c_4, h⟩ := x_chk_e h
        refine ev_get (C := RX12) (T := TX12) (k := 9) inX12 (xE_12 c_4) rfl (by decide) wd_156 (Or.inl rfl) rfl dX12_letter_45 ?_
        refine ev_aload_n (j := 1) (x := (some a0)) dX12_letter_48 rfl rfl ?_
        refine ev_iload_n (j := 3) (x := v2) dX12_letter_49 rfl rfl ?_
        rcases x_bind_e h with ⟨v_5, σ_6, h_7, h⟩ | ⟨E_11, σ_6, h_7, h⟩
        · have z9 := x_call (M := mX12_letter) (M' := mX12_of) (pc := 50) (st := [.int v2, va_rf (some a0), va_rf (σ.R 1109 a0), .int v3]) (rest := [va_rf (σ.R 1109 a0), .int v3]) (av := [va_rf (some a0), .int v2]) (x_linkV (M := mX12_letter) (M' := mX12_of) (As := [.int v2]) (index := 311) (C := RX12) (T := TX12) (xE_12 c_4) rfl wd_811 wd_812 (wG_in (List.mem_append_left _ (List.mem_of_getElem? (i := 86) rfl)) rfl) xw_X12_of rfl (by decide) rfl rfl dX12_letter_50) (ev_X12_of hO hP h_7) xw_X12_of rfl wd_198 dX12_letter_50 (by decide) (by decide) (by simp [x_cat, x_catI, x_catJ])
          refine x_callR z9 ?_
          refine ev_at (st' := [.int v_5, va_rf (σ.R 1109 a0), .int v3]) rfl rfl ?_
          obtain ⟨a_8, ea_8, h⟩ := x_some_e h
          refine ev_at (st' := [.int v_5, va_rf (some a_8), .int v3]) rfl (by rw [ea_8]) ?_
          obtain ⟨c_9, h⟩ := x_chk_e h
          refine ev_iald_31 c_9.1 c_9.2 dX12_letter_53 ?_
          by_cases c_10 : (σ_6.AI a_8 (Int32.toNatClampNeg v_5)) ≤ v3
          · rw [if_pos c_10] at h
            refine ev_icmp_ge (x := v3) (y := (σ_6.AI a_8 (Int32.toNatClampNeg v_5))) (tgt := 75) dX12_letter_54 (by decide) (fun _ => ?_) (fun q9 => absurd c_10 q9)
            exact ev_sub [1, 2, 3, 4, 5] rfl (ev_X12_letter_p75 hO hP h)
          · rw [if_neg c_10] at h
            refine ev_icmp_ge (x := v3) (y := (σ_6.AI a_8 (Int32.toNatClampNeg v_5))) (tgt := 75) dX12_letter_54 (by decide) (fun q9 => absurd q9 c_10) (fun _ => ?_)
            exact ev_sub [1, 2, 3, 4, 5] rfl (ev_X12_letter_p57 hO hP h)
        · have z9 := x_call (M := mX12_letter) (M' := mX12_of) (pc := 50) (st := [.int v2, va_rf (some a0), va_rf (σ.R 1109 a0), .int v3]) (rest := [va_rf (σ.R 1109 a0), .int v3]) (av := [va_rf (some a0), .int v2]) (x_linkV (M := mX12_letter) (M' := mX12_of) (As := [.int v2]) (index := 311) (C := RX12) (T := TX12) (xE_12 c_4) rfl wd_811 wd_812 (wG_in (List.mem_append_left _ (List.mem_of_getElem? (i := 86) rfl)) rfl) xw_X12_of rfl (by decide) rfl rfl dX12_letter_50) (ev_X12_of hO hP h_7) xw_X12_of rfl wd_198 dX12_letter_50 (by decide) (by decide) (by simp [x_cat, x_catI, x_catJ])
          cases h
          exact x_callX z9 (evX_out rfl)
    · rw [if_neg c_2] at h
      refine ev_icmp_ne (x := v1) (y := 1) (tgt := 57) dX12_letter_36 (by decide) (fun _ => ?_) (fun q9 => absurd q9 c_2)
      exact ev_sub [1, 2, 3, 4, 5] rfl (ev_X12_letter_p57 hO hP h)
set_option maxHeartbeats 4000000 in
set_option maxRecDepth 100000 in
theorem ev_X12_letter_p26 {l : Launch} {G : xG} (hO : x_OK l G) {P : xP} (hP : x_PG P G) {a0 : Nat} {v1 : Int32} {v2 : Int32} {v3 : Int32} {v4 : Int32} {σ σ' : xS} {rr : Int32 ⊕ String} (h : dm_X12_letter_p26 P a0 v1 v2 v3 v4 σ = some (rr, σ')) : Ev l G mX12_letter 26 [(0, va_rf (some a0)), (1, .int v1), (2, .int v2), (3, .int v3), (4, .int v4)] [] σ (xrI rr) σ' := by
  unfold dm_X12_letter_p26 at h
  refine ev_iconst (v := 0) dX12_letter_26 (by decide) ?_
  exact ev_sub [0, 1, 2, 3, 4] rfl (ev_X12_letter_p27 hO hP h)
set_option maxHeartbeats 4000000 in
set_option maxRecDepth 100000 in
theorem ev_X12_letter {l : Launch} {G : xG} (hO : x_OK l G) {P : xP} (hP : x_PG P G) {a0 : Nat} {v1 : Int32} {v2 : Int32} {v3 : Int32} {v4 : Int32} {σ σ' : xS} {rr : Int32 ⊕ String} (h : dm_X12_letter P a0 v1 v2 v3 v4 σ = some (rr, σ')) : EvM l G mX12_letter [va_rf (some a0), .int v1, .int v2, .int v3, .int v4] σ (xrI rr) σ' := by
  unfold dm_X12_letter at h
  refine evM_of hO (by decide +kernel) (x_lenI (by simp [x_cat, x_catI, x_catJ, mX12_letter, xM.maxL])) ?_
  refine Eq.mp (congrArg (fun z => Ev l G mX12_letter 0 z [] σ (xrI rr) σ') (show [(0, va_rf (some a0)), (1, .int v1), (2, .int v2), (3, .int v3), (4, .int v4)] = lv_args 0 [va_rf (some a0), .int v1, .int v2, .int v3, .int v4] by simp [lv_args, x_cat, x_catI, x_catJ])) ?_
  refine ev_aload_n (j := 0) (x := (some a0)) dX12_letter_0 rfl rfl ?_
  refine ev_iload_n (j := 2) (x := v2) dX12_letter_1 rfl rfl ?_
  obtain ⟨c_4, h⟩ := x_chk_e h
  rcases x_bind_e h with ⟨v_1, σ_2, h_3, h⟩ | ⟨E_9, σ_2, h_3, h⟩
  · have z9 := x_call (M := mX12_letter) (M' := mX12_isModule) (pc := 2) (st := [.int v2, va_rf (some a0)]) (rest := []) (av := [va_rf (some a0), .int v2]) (x_linkV (M := mX12_letter) (M' := mX12_isModule) (As := [.int v2]) (index := 308) (C := RX12) (T := TX12) (xE_12 c_4) rfl wd_808 wd_809 (wG_in (List.mem_append_left _ (List.mem_of_getElem? (i := 85) rfl)) rfl) xw_X12_isModule rfl (by decide) rfl rfl dX12_letter_2) (ev_X12_isModule hO hP h_3) xw_X12_isModule rfl wd_198 dX12_letter_2 (by decide) (by decide) (by simp [x_cat, x_catI, x_catJ])
    refine x_callR z9 ?_
    refine ev_at (st' := [.int v_1]) rfl rfl ?_
    by_cases c_5 : v_1 = 0
    · rw [if_pos c_5] at h
      refine ev_if_eq (x := v_1) (tgt := 26) dX12_letter_5 (by decide) (fun _ => ?_) (fun q9 => absurd c_5 q9)
      exact ev_sub [0, 1, 2, 3, 4] rfl (ev_X12_letter_p26 hO hP h)
    · rw [if_neg c_5] at h
      refine ev_if_eq (x := v_1) (tgt := 26) dX12_letter_5 (by decide) (fun q9 => absurd q9 c_5) (fun _ => ?_)
      refine ev_iload (j := 4) (x := v4) dX12_letter_8 rfl ?_
      by_cases c_6 : v4 < 0
      · rw [if_pos c_6] at h
        refine ev_if_lt (x := v4) (tgt := 26) dX12_letter_10 (by decide) (fun _ => ?_) (fun q9 => absurd c_6 q9)
        exact ev_sub [0, 1, 2, 3, 4] rfl (ev_X12_letter_p26 hO hP h)
      · rw [if_neg c_6] at h
        refine ev_if_lt (x := v4) (tgt := 26) dX12_letter_10 (by decide) (fun q9 => absurd q9 c_6) (fun _ => ?_)
        refine ev_iload_n (j := 1) (x := v1) dX12_letter_13 rfl rfl ?_
        by_cases c_7 : v1 < 0
        · rw [if_pos c_7] at h
          refine ev_if_lt (x := v1) (tgt := 26) dX12_letter_14 (by decide) (fun _ => ?_) (fun q9 => absurd c_7 q9)
          exact ev_sub [0, 1, 2, 3, 4] rfl (ev_X12_letter_p26 hO hP h)
        · rw [if_neg c_7] at h
          refine ev_if_lt (x := v1) (tgt := 26) dX12_letter_14 (by decide) (fun q9 => absurd q9 c_7) (fun _ => ?_)
          refine ev_iload_n (j := 1) (x := v1) dX12_letter_17 rfl rfl ?_
          refine ev_iconst (v := 3) dX12_letter_18 (by decide) ?_
          by_cases c_8 : 3 < v1
          · rw [if_pos c_8] at h
            refine ev_icmp_gt (x := v1) (y := 3) (tgt := 26) dX12_letter_19 (by decide) (fun _ => ?_) (fun q9 => absurd c_8 q9)
            exact ev_sub [0, 1, 2, 3, 4] rfl (ev_X12_letter_p26 hO hP h)
          · rw [if_neg c_8] at h
            refine ev_icmp_gt (x := v1) (y := 3) (tgt := 26) dX12_letter_19 (by decide) (fun q9 => absurd q9 c_8) (fun _ => ?_)
            refine ev_iconst (v := 1) dX12_letter_22 (by decide) ?_
            refine ev_goto (tgt := 27) dX12_letter_23 (by decide) ?_
            exact ev_sub [0, 1, 2, 3, 4] rfl (ev_X12_letter_p27 hO hP h)
  · have z9 := x_call (M := mX12_letter) (M' := mX12_isModule) (pc := 2) (st := [.int v2, va_rf (some a0)]) (rest := []) (av := [va_rf (some a0), .int v2]) (x_linkV (M := mX12_letter) (M' := mX12_isModule) (As := [.int v2]) (index := 308) (C := RX12) (T := TX12) (xE_12 c_4) rfl wd_808 wd_809 (wG_in (List.mem_append_left _ (List.mem_of_getElem? (i := 85) rfl)) rfl) xw_X12_isModule rfl (by decide) rfl rfl dX12_letter_2) (ev_X12_isModule hO hP h_3) xw_X12_isModule rfl wd_198 dX12_letter_2 (by decide) (by decide) (by simp [x_cat, x_catI, x_catJ])
    cases h
    exact x_callX z9 (evX_out rfl)
set_option maxHeartbeats 4000000 in
set_option maxRecDepth 100000 in
theorem ev_X7_put_p12 {l : Launch} {G : xG} (hO : x_OK l G) {P : xP} (hP : x_PG P G) {a0 : Nat} {σ σ' : xS} {rr : Unit ⊕ String} (h : dm_X7_put_p12 P a0 σ = some (rr, σ')) : Ev l G mX7_put 12 [(0, va_rf (some a0))] [] σ (xrV rr) σ' := by
  unfold dm_X7_put_p12 at h
  refine ev_aload_n (j := 0) (x := (some a0)) dX7_put_12 rfl rfl ?_
  refine ev_dup dX7_put_13 (x_cat _) ?_
  obtain ⟨c_1, h⟩ := x_chk_e h
  refine ev_get (C := RX7) (T := TX7) (k := 1) inX7 (xE_8 c_1) rfl (by decide) wd_108 (Or.inl rfl) rfl dX7_put_14 ?_
  refine ev_iconst (v := 1) dX7_put_17 (by decide) ?_
  refine ev_isub (x := (σ.I 701 a0)) (y := 1) dX7_put_18 ?_
  obtain ⟨c_2, h⟩ := x_chk_e h
  obtain ⟨σ_3, eσ_3, h⟩ := x_let_e h
  refine ev_put (σ2 := σ_3) (C := RX7) (T := TX7) (k := 1) inX7 tyX7 tyX7_ok nmX7 (xE_8 c_2.1) rfl (by decide) wd_108 (Or.inl rfl) rfl rfl rfl rfl (Nat.le_of_ble_eq_true rfl) (hP.2.2.2.1 ▸ c_2.2) (by rw [eσ_3]; exact xP_8_1 _ c_2.1) (by rw [eσ_3]; exact xPut_I) dX7_put_19 ?_
  cases h
  exact ev_vret rfl dX7_put_22
set_option maxHeartbeats 4000000 in
set_option maxRecDepth 100000 in
theorem ev_X7_put {l : Launch} {G : xG} (hO : x_OK l G) {P : xP} (hP : x_PG P G) {a0 : Nat} {v1 : Int32} {σ σ' : xS} {rr : Unit ⊕ String} (h : dm_X7_put P a0 v1 σ = some (rr, σ')) : EvM l G mX7_put [va_rf (some a0), .int v1] σ (xrV rr) σ' := by
  unfold dm_X7_put at h
  refine evM_of hO (by decide +kernel) (x_lenI (by simp [x_cat, x_catI, x_catJ, mX7_put, xM.maxL])) ?_
  refine Eq.mp (congrArg (fun z => Ev l G mX7_put 0 z [] σ (xrV rr) σ') (show [(0, va_rf (some a0)), (1, .int v1)] = lv_args 0 [va_rf (some a0), .int v1] by simp [lv_args, x_cat, x_catI, x_catJ])) ?_
  refine ev_aload_n (j := 0) (x := (some a0)) dX7_put_0 rfl rfl ?_
  obtain ⟨c_1, h⟩ := x_chk_e h
  refine ev_get (C := RX7) (T := TX7) (k := 1) inX7 (xE_8 c_1) rfl (by decide) wd_108 (Or.inl rfl) rfl dX7_put_1 ?_
  by_cases c_2 : (σ.I 701 a0) = 0
  · rw [if_pos c_2] at h
    refine ev_if_ne (x := (σ.I 701 a0)) (tgt := 12) dX7_put_4 (by decide) (fun q9 => absurd c_2 q9) (fun _ => ?_)
    refine ev_aload_n (j := 0) (x := (some a0)) dX7_put_7 rfl rfl ?_
    refine ev_iload_n (j := 1) (x := v1) dX7_put_8 rfl rfl ?_
    obtain ⟨c_3, h⟩ := x_chk_e h
    obtain ⟨σ_4, eσ_4, h⟩ := x_let_e h
    refine ev_put (σ2 := σ_4) (C := RX7) (T := TX7) (k := 2) inX7 tyX7 tyX7_ok nmX7 (xE_8 c_3.1) rfl (by decide) wd_109 (Or.inl rfl) rfl rfl rfl rfl (Nat.le_of_ble_eq_true rfl) (hP.2.2.2.1 ▸ c_3.2) (by rw [eσ_4]; exact xP_8_2 _ c_3.1) (by rw [eσ_4]; exact xPut_I) dX7_put_9 ?_
    exact ev_sub [0] rfl (ev_X7_put_p12 hO hP h)
  · rw [if_neg c_2] at h
    refine ev_if_ne (x := (σ.I 701 a0)) (tgt := 12) dX7_put_4 (by decide) (fun _ => ?_) (fun q9 => absurd q9 c_2)
    exact ev_sub [0] rfl (ev_X7_put_p12 hO hP h)
set_option maxHeartbeats 4000000 in
set_option maxRecDepth 100000 in
theorem ev_X7_putText_L2 {l : Launch} {G : xG} (hO : x_OK l G) {P : xP} (hP : x_PG P G) {a0 : Nat} : ∀ (n : Nat) {v1 : Option Nat} {v2 : Int32} {σ σ' : xS} {rr : Unit ⊕ String}, dm_X7_putText_L2 P a0 n v1 v2 σ = some (rr, σ') → Ev l G mX7_putText 2 [(0, va_rf (some a0)), (1, va_rf v1), (2, .int v2)] [] σ (xrV rr) σ' := by
  intro n
  induction n with
  | zero => intro v1 v2 σ σ' rr h; cases h
  | succ n ih =>
    intro v1 v2 σ σ' rr h
    rw [dm_X7_putText_L2] at h
    refine ev_iload_n (j := 2) (x := v2) dX7_putText_2 rfl rfl ?_
    refine ev_aload_n (j := 1) (x := v1) dX7_putText_3 rfl rfl ?_
    obtain ⟨a_1, ea_1, h⟩ := x_some_e h
    refine ev_at (st' := [va_rf (some a_1), .int v2]) rfl (by rw [ea_1]) ?_
    obtain ⟨c_5, h⟩ := x_chk_e h
    rcases x_bind_e h with ⟨v_2, σ_3, h_4, h⟩ | ⟨E_18, σ_3, h_4, h⟩
    · have z9 := x_call (M := mX7_putText) (M' := mJ0_length_8abf5) (pc := 4) (st := [va_rf (some a_1), .int v2]) (rest := [.int v2]) (av := [va_rf (some a_1)]) (x_linkStr (M := mX7_putText) (M' := mJ0_length_8abf5) (As := []) (index := 42) (b := a_1) c_5 wd_857 wd_208 wd_209 xw_J0_length_8abf5 rfl (by decide) rfl rfl dX7_putText_4) (ev_J0_length_8abf5 hO hP h_4) xw_J0_length_8abf5 rfl wd_210 dX7_putText_4 (by decide) (by decide) (by simp [x_cat, x_catI, x_catJ])
      refine x_callR z9 ?_
      refine ev_at (st' := [.int v_2, .int v2]) rfl rfl ?_
      by_cases c_6 : v_2 ≤ v2
      · rw [if_pos c_6] at h
        refine ev_icmp_ge (x := v2) (y := v_2) (tgt := 25) dX7_putText_7 (by decide) (fun _ => ?_) (fun q9 => absurd c_6 q9)
        cases h
        exact ev_vret rfl dX7_putText_25
      · rw [if_neg c_6] at h
        refine ev_icmp_ge (x := v2) (y := v_2) (tgt := 25) dX7_putText_7 (by decide) (fun q9 => absurd q9 c_6) (fun _ => ?_)
        refine ev_aload_n (j := 0) (x := (some a0)) dX7_putText_10 rfl rfl ?_
        refine ev_aload_n (j := 1) (x := v1) dX7_putText_11 rfl rfl ?_
        refine ev_iload_n (j := 2) (x := v2) dX7_putText_12 rfl rfl ?_
        refine ev_at (st' := [.int v2, va_rf (some a_1), va_rf (some a0)]) rfl (by rw [ea_1]) ?_
        obtain ⟨c_10, h⟩ := x_chk_e h
        rcases x_bind_e h with ⟨v_7, σ_8, h_9, h⟩ | ⟨E_17, σ_8, h_9, h⟩
        · have z9 := x_call (M := mX7_putText) (M' := mJ0_charAt_5068e) (pc := 13) (st := [.int v2, va_rf (some a_1), va_rf (some a0)]) (rest := [va_rf (some a0)]) (av := [va_rf (some a_1), .int v2]) (x_linkStr (M := mX7_putText) (M' := mJ0_charAt_5068e) (As := [.int v2]) (index := 48) (b := a_1) c_10 wd_858 wd_213 wd_214 xw_J0_charAt_5068e rfl (by decide) rfl rfl dX7_putText_13) (ev_J0_charAt_5068e hO hP h_9) xw_J0_charAt_5068e rfl wd_210 dX7_putText_13 (by decide) (by decide) (by simp [x_cat, x_catI, x_catJ])
          refine x_callR z9 ?_
          refine ev_at (st' := [.int v_7, va_rf (some a0)]) rfl rfl ?_
          obtain ⟨c_14, h⟩ := x_chk_e h
          rcases x_bind_e h with ⟨v_11, σ_12, h_13, h⟩ | ⟨E_16, σ_12, h_13, h⟩
          · have z9 := x_call (M := mX7_putText) (M' := mX7_put) (pc := 16) (st := [.int v_7, va_rf (some a0)]) (rest := []) (av := [va_rf (some a0), .int v_7]) (x_linkV (M := mX7_putText) (M' := mX7_put) (As := [.int v_7]) (index := 38) (C := RX7) (T := TX7) (xE_8 c_14) rfl wd_860 wd_861 (wG_in (List.mem_append_left _ (List.mem_of_getElem? (i := 24) rfl)) rfl) xw_X7_put rfl (by decide) rfl rfl dX7_putText_16) (ev_X7_put hO hP h_13) xw_X7_put rfl wd_138 dX7_putText_16 (by decide) (by decide) (by simp [x_cat, x_catI, x_catJ])
            refine x_callR z9 ?_
            refine ev_at (st' := []) rfl rfl ?_
            obtain ⟨v_15, ev_15, h⟩ := x_let_e h
            refine ev_iinc (j := 2) (x := v2) (v := v_15) (lv' := [(2, .int v_15), (0, va_rf (some a0)), (1, va_rf v1)]) dX7_putText_19 rfl (by rw [ev_15]; rfl) (by decide) (by simp [x_cat, x_catI, x_catJ]) ?_
            refine ev_goto (tgt := 2) dX7_putText_22 (by decide) ?_
            exact ev_sub [1, 2, 0] rfl (ih h)
          · have z9 := x_call (M := mX7_putText) (M' := mX7_put) (pc := 16) (st := [.int v_7, va_rf (some a0)]) (rest := []) (av := [va_rf (some a0), .int v_7]) (x_linkV (M := mX7_putText) (M' := mX7_put) (As := [.int v_7]) (index := 38) (C := RX7) (T := TX7) (xE_8 c_14) rfl wd_860 wd_861 (wG_in (List.mem_append_left _ (List.mem_of_getElem? (i := 24) rfl)) rfl) xw_X7_put rfl (by decide) rfl rfl dX7_putText_16) (ev_X7_put hO hP h_13) xw_X7_put rfl wd_138 dX7_putText_16 (by decide) (by decide) (by simp [x_cat, x_catI, x_catJ])
            cases h
            exact x_callX z9 (evX_out rfl)
        · have z9 := x_call (M := mX7_putText) (M' := mJ0_charAt_5068e) (pc := 13) (st := [.int v2, va_rf (some a_1), va_rf (some a0)]) (rest := [va_rf (some a0)]) (av := [va_rf (some a_1), .int v2]) (x_linkStr (M := mX7_putText) (M' := mJ0_charAt_5068e) (As := [.int v2]) (index := 48) (b := a_1) c_10 wd_858 wd_213 wd_214 xw_J0_charAt_5068e rfl (by decide) rfl rfl dX7_putText_13) (ev_J0_charAt_5068e hO hP h_9) xw_J0_charAt_5068e rfl wd_210 dX7_putText_13 (by decide) (by decide) (by simp [x_cat, x_catI, x_catJ])
          cases h
          exact x_callX z9 (evX_out rfl)
    · have z9 := x_call (M := mX7_putText) (M' := mJ0_length_8abf5) (pc := 4) (st := [va_rf (some a_1), .int v2]) (rest := [.int v2]) (av := [va_rf (some a_1)]) (x_linkStr (M := mX7_putText) (M' := mJ0_length_8abf5) (As := []) (index := 42) (b := a_1) c_5 wd_857 wd_208 wd_209 xw_J0_length_8abf5 rfl (by decide) rfl rfl dX7_putText_4) (ev_J0_length_8abf5 hO hP h_4) xw_J0_length_8abf5 rfl wd_210 dX7_putText_4 (by decide) (by decide) (by simp [x_cat, x_catI, x_catJ])
      cases h
      exact x_callX z9 (evX_out rfl)
set_option maxHeartbeats 4000000 in
set_option maxRecDepth 100000 in
theorem ev_X7_putText {l : Launch} {G : xG} (hO : x_OK l G) {P : xP} (hP : x_PG P G) {a0 : Nat} {v1 : Option Nat} {σ σ' : xS} {rr : Unit ⊕ String} (h : dm_X7_putText P a0 v1 σ = some (rr, σ')) : EvM l G mX7_putText [va_rf (some a0), va_rf v1] σ (xrV rr) σ' := by
  unfold dm_X7_putText at h
  refine evM_of hO (by decide +kernel) (x_lenI (by simp [x_cat, x_catI, x_catJ, mX7_putText, xM.maxL])) ?_
  refine Eq.mp (congrArg (fun z => Ev l G mX7_putText 0 z [] σ (xrV rr) σ') (show [(0, va_rf (some a0)), (1, va_rf v1)] = lv_args 0 [va_rf (some a0), va_rf v1] by simp [lv_args, x_cat, x_catI, x_catJ])) ?_
  refine ev_iconst (v := 0) dX7_putText_0 (by decide) ?_
  refine ev_istore_n (i := 2) (lv' := [(2, .int 0), (0, va_rf (some a0)), (1, va_rf v1)]) dX7_putText_1 rfl (by decide) (by simp [x_cat, x_catI, x_catJ]) ?_
  exact ev_sub [1, 2, 0] rfl (ev_X7_putText_L2 hO hP P.N h)
set_option maxHeartbeats 4000000 in
set_option maxRecDepth 100000 in
theorem ev_X7_putName_p32 {l : Launch} {G : xG} (hO : x_OK l G) {P : xP} (hP : x_PG P G) {a0 : Nat} {σ σ' : xS} {rr : Unit ⊕ String} (h : dm_X7_putName_p32 P a0 σ = some (rr, σ')) : Ev l G mX7_putName 32 [] [] σ (xrV rr) σ' := by
  unfold dm_X7_putName_p32 at h
  cases h
  exact ev_vret rfl dX7_putName_32
set_option maxHeartbeats 4000000 in
set_option maxRecDepth 100000 in
theorem ev_X7_putName_L2 {l : Launch} {G : xG} (hO : x_OK l G) {P : xP} (hP : x_PG P G) {a0 : Nat} : ∀ (n : Nat) {v1 : Int64} {v3 : Int32} {σ σ' : xS} {rr : Unit ⊕ String}, dm_X7_putName_L2 P a0 n v1 v3 σ = some (rr, σ') → Ev l G mX7_putName 2 [(0, va_rf (some a0)), (1, .long v1), (3, .int v3)] [] σ (xrV rr) σ' := by
  intro n
  induction n with
  | zero => intro v1 v3 σ σ' rr h; cases h
  | succ n ih =>
    intro v1 v3 σ σ' rr h
    rw [dm_X7_putName_L2] at h
    refine ev_iload_n (j := 2) (x := v3) dX7_putName_2 rfl rfl ?_
    refine ev_bipush (v := 8) dX7_putName_3 (by decide) ?_
    by_cases c_1 : 8 ≤ v3
    · rw [if_pos c_1] at h
      refine ev_icmp_ge (x := v3) (y := 8) (tgt := 32) dX7_putName_5 (by decide) (fun _ => ?_) (fun q9 => absurd c_1 q9)
      exact ev_sub [] rfl (ev_X7_putName_p32 hO hP h)
    · rw [if_neg c_1] at h
      refine ev_icmp_ge (x := v3) (y := 8) (tgt := 32) dX7_putName_5 (by decide) (fun q9 => absurd q9 c_1) (fun _ => ?_)
      refine ev_lload_n (j := 1) (x := v1) dX7_putName_8 rfl rfl ?_
      refine ev_iload_n (j := 2) (x := v3) dX7_putName_9 rfl rfl ?_
      rcases x_bind_e h with ⟨v_2, σ_3, h_4, h⟩ | ⟨E_16, σ_3, h_4, h⟩
      · have z9 := x_call (M := mX7_putName) (M' := mX10_letterOf) (pc := 10) (st := [.int v3, .long v1]) (rest := []) (av := [.long v1, .int v3]) (x_linkS (M := mX7_putName) (M' := mX10_letterOf) (As := [.long v1, .int v3]) (index := 54) wd_862 wd_371 wd_118 xw_X10_letterOf rfl ⟨_, _, _, Or.inl wd_369⟩ (by decide) rfl rfl dX7_putName_10) (ev_X10_letterOf hO hP h_4) xw_X10_letterOf rfl wd_118 dX7_putName_10 (by decide) (by decide) (by simp [x_cat, x_catI, x_catJ])
        refine x_callR z9 ?_
        refine ev_at (st' := [.int v_2]) rfl rfl ?_
        by_cases c_5 : v_2 = 0
        · rw [if_pos c_5] at h
          refine ev_if_eq (x := v_2) (tgt := 32) dX7_putName_13 (by decide) (fun _ => ?_) (fun q9 => absurd c_5 q9)
          exact ev_sub [] rfl (ev_X7_putName_p32 hO hP h)
        · rw [if_neg c_5] at h
          refine ev_if_eq (x := v_2) (tgt := 32) dX7_putName_13 (by decide) (fun q9 => absurd q9 c_5) (fun _ => ?_)
          refine ev_aload_n (j := 0) (x := (some a0)) dX7_putName_16 rfl rfl ?_
          refine ev_lload_n (j := 1) (x := v1) dX7_putName_17 rfl rfl ?_
          refine ev_iload_n (j := 2) (x := v3) dX7_putName_18 rfl rfl ?_
          rcases x_bind_e h with ⟨v_6, σ_7, h_8, h⟩ | ⟨E_15, σ_7, h_8, h⟩
          · have z9 := x_call (M := mX7_putName) (M' := mX10_letterOf) (pc := 19) (st := [.int v3, .long v1, va_rf (some a0)]) (rest := [va_rf (some a0)]) (av := [.long v1, .int v3]) (x_linkS (M := mX7_putName) (M' := mX10_letterOf) (As := [.long v1, .int v3]) (index := 54) wd_862 wd_371 wd_118 xw_X10_letterOf rfl ⟨_, _, _, Or.inl wd_369⟩ (by decide) rfl rfl dX7_putName_19) (ev_X10_letterOf hO hP h_8) xw_X10_letterOf rfl wd_118 dX7_putName_19 (by decide) (by decide) (by simp [x_cat, x_catI, x_catJ])
            refine x_callR z9 ?_
            refine ev_at (st' := [.int v_6, va_rf (some a0)]) rfl rfl ?_
            refine ev_i2c (x := v_6) dX7_putName_22 ?_
            obtain ⟨c_12, h⟩ := x_chk_e h
            rcases x_bind_e h with ⟨v_9, σ_10, h_11, h⟩ | ⟨E_14, σ_10, h_11, h⟩
            · have z9 := x_call (M := mX7_putName) (M' := mX7_put) (pc := 23) (st := [.int (UInt32.toInt32 (Int32.toUInt32 v_6 % 65536)), va_rf (some a0)]) (rest := []) (av := [va_rf (some a0), .int (UInt32.toInt32 (Int32.toUInt32 v_6 % 65536))]) (x_linkV (M := mX7_putName) (M' := mX7_put) (As := [.int (UInt32.toInt32 (Int32.toUInt32 v_6 % 65536))]) (index := 38) (C := RX7) (T := TX7) (xE_8 c_12) rfl wd_860 wd_861 (wG_in (List.mem_append_left _ (List.mem_of_getElem? (i := 24) rfl)) rfl) xw_X7_put rfl (by decide) rfl rfl dX7_putName_23) (ev_X7_put hO hP h_11) xw_X7_put rfl wd_138 dX7_putName_23 (by decide) (by decide) (by simp [x_cat, x_catI, x_catJ])
              refine x_callR z9 ?_
              refine ev_at (st' := []) rfl rfl ?_
              obtain ⟨v_13, ev_13, h⟩ := x_let_e h
              refine ev_iinc (j := 2) (x := v3) (v := v_13) (lv' := [(3, .int v_13), (0, va_rf (some a0)), (1, .long v1)]) dX7_putName_26 rfl (by rw [ev_13]; rfl) (by decide) rfl ?_
              refine ev_goto (tgt := 2) dX7_putName_29 (by decide) ?_
              exact ev_sub [1, 2, 0] rfl (ih h)
            · have z9 := x_call (M := mX7_putName) (M' := mX7_put) (pc := 23) (st := [.int (UInt32.toInt32 (Int32.toUInt32 v_6 % 65536)), va_rf (some a0)]) (rest := []) (av := [va_rf (some a0), .int (UInt32.toInt32 (Int32.toUInt32 v_6 % 65536))]) (x_linkV (M := mX7_putName) (M' := mX7_put) (As := [.int (UInt32.toInt32 (Int32.toUInt32 v_6 % 65536))]) (index := 38) (C := RX7) (T := TX7) (xE_8 c_12) rfl wd_860 wd_861 (wG_in (List.mem_append_left _ (List.mem_of_getElem? (i := 24) rfl)) rfl) xw_X7_put rfl (by decide) rfl rfl dX7_putName_23) (ev_X7_put hO hP h_11) xw_X7_put rfl wd_138 dX7_putName_23 (by decide) (by decide) (by simp [x_cat, x_catI, x_catJ])
              cases h
              exact x_callX z9 (evX_out rfl)
          · have z9 := x_call (M := mX7_putName) (M' := mX10_letterOf) (pc := 19) (st := [.int v3, .long v1, va_rf (some a0)]) (rest := [va_rf (some a0)]) (av := [.long v1, .int v3]) (x_linkS (M := mX7_putName) (M' := mX10_letterOf) (As := [.long v1, .int v3]) (index := 54) wd_862 wd_371 wd_118 xw_X10_letterOf rfl ⟨_, _, _, Or.inl wd_369⟩ (by decide) rfl rfl dX7_putName_19) (ev_X10_letterOf hO hP h_8) xw_X10_letterOf rfl wd_118 dX7_putName_19 (by decide) (by decide) (by simp [x_cat, x_catI, x_catJ])
            cases h
            exact x_callX z9 (evX_out rfl)
      · have z9 := x_call (M := mX7_putName) (M' := mX10_letterOf) (pc := 10) (st := [.int v3, .long v1]) (rest := []) (av := [.long v1, .int v3]) (x_linkS (M := mX7_putName) (M' := mX10_letterOf) (As := [.long v1, .int v3]) (index := 54) wd_862 wd_371 wd_118 xw_X10_letterOf rfl ⟨_, _, _, Or.inl wd_369⟩ (by decide) rfl rfl dX7_putName_10) (ev_X10_letterOf hO hP h_4) xw_X10_letterOf rfl wd_118 dX7_putName_10 (by decide) (by decide) (by simp [x_cat, x_catI, x_catJ])
        cases h
        exact x_callX z9 (evX_out rfl)
set_option maxHeartbeats 4000000 in
set_option maxRecDepth 100000 in
theorem ev_X7_putName {l : Launch} {G : xG} (hO : x_OK l G) {P : xP} (hP : x_PG P G) {a0 : Nat} {v1 : Int64} {σ σ' : xS} {rr : Unit ⊕ String} (h : dm_X7_putName P a0 v1 σ = some (rr, σ')) : EvM l G mX7_putName [va_rf (some a0), .long v1] σ (xrV rr) σ' := by
  unfold dm_X7_putName at h
  refine evM_of hO (by decide +kernel) (x_lenI (by simp [x_cat, x_catI, x_catJ, mX7_putName, xM.maxL])) ?_
  refine Eq.mp (congrArg (fun z => Ev l G mX7_putName 0 z [] σ (xrV rr) σ') (show [(0, va_rf (some a0)), (1, .long v1)] = lv_args 0 [va_rf (some a0), .long v1] by simp [lv_args, x_cat, x_catI, x_catJ])) ?_
  refine ev_iconst (v := 0) dX7_putName_0 (by decide) ?_
  refine ev_istore_n (i := 3) (lv' := [(3, .int 0), (0, va_rf (some a0)), (1, .long v1)]) dX7_putName_1 rfl (by decide) rfl ?_
  exact ev_sub [1, 2, 0] rfl (ev_X7_putName_L2 hO hP P.N h)
set_option maxHeartbeats 4000000 in
set_option maxRecDepth 100000 in
theorem ev_X7_putDigit {l : Launch} {G : xG} (hO : x_OK l G) {P : xP} (hP : x_PG P G) {a0 : Nat} {v1 : Int32} {σ σ' : xS} {rr : Unit ⊕ String} (h : dm_X7_putDigit P a0 v1 σ = some (rr, σ')) : EvM l G mX7_putDigit [va_rf (some a0), .int v1] σ (xrV rr) σ' := by
  unfold dm_X7_putDigit at h
  refine evM_of hO (by decide +kernel) (x_lenI (by simp [x_cat, x_catI, x_catJ, mX7_putDigit, xM.maxL])) ?_
  refine Eq.mp (congrArg (fun z => Ev l G mX7_putDigit 0 z [] σ (xrV rr) σ') (show [(0, va_rf (some a0)), (1, .int v1)] = lv_args 0 [va_rf (some a0), .int v1] by simp [lv_args, x_cat, x_catI, x_catJ])) ?_
  refine ev_aload_n (j := 0) (x := (some a0)) dX7_putDigit_0 rfl rfl ?_
  refine ev_bipush (v := 48) dX7_putDigit_1 (by decide) ?_
  refine ev_iload_n (j := 1) (x := v1) dX7_putDigit_3 rfl rfl ?_
  refine ev_iadd (x := 48) (y := v1) dX7_putDigit_4 ?_
  refine ev_i2c (x := (48 + v1)) dX7_putDigit_5 ?_
  obtain ⟨c_4, h⟩ := x_chk_e h
  rcases x_bind_e h with ⟨v_1, σ_2, h_3, h⟩ | ⟨E_5, σ_2, h_3, h⟩
  · have z9 := x_call (M := mX7_putDigit) (M' := mX7_put) (pc := 6) (st := [.int (UInt32.toInt32 (Int32.toUInt32 (48 + v1) % 65536)), va_rf (some a0)]) (rest := []) (av := [va_rf (some a0), .int (UInt32.toInt32 (Int32.toUInt32 (48 + v1) % 65536))]) (x_linkV (M := mX7_putDigit) (M' := mX7_put) (As := [.int (UInt32.toInt32 (Int32.toUInt32 (48 + v1) % 65536))]) (index := 38) (C := RX7) (T := TX7) (xE_8 c_4) rfl wd_860 wd_861 (wG_in (List.mem_append_left _ (List.mem_of_getElem? (i := 24) rfl)) rfl) xw_X7_put rfl (by decide) rfl rfl dX7_putDigit_6) (ev_X7_put hO hP h_3) xw_X7_put rfl wd_138 dX7_putDigit_6 (by decide) (by decide) (by simp [x_cat, x_catI, x_catJ])
    refine x_callR z9 ?_
    refine ev_at (st' := []) rfl rfl ?_
    cases h
    exact ev_vret rfl dX7_putDigit_9
  · have z9 := x_call (M := mX7_putDigit) (M' := mX7_put) (pc := 6) (st := [.int (UInt32.toInt32 (Int32.toUInt32 (48 + v1) % 65536)), va_rf (some a0)]) (rest := []) (av := [va_rf (some a0), .int (UInt32.toInt32 (Int32.toUInt32 (48 + v1) % 65536))]) (x_linkV (M := mX7_putDigit) (M' := mX7_put) (As := [.int (UInt32.toInt32 (Int32.toUInt32 (48 + v1) % 65536))]) (index := 38) (C := RX7) (T := TX7) (xE_8 c_4) rfl wd_860 wd_861 (wG_in (List.mem_append_left _ (List.mem_of_getElem? (i := 24) rfl)) rfl) xw_X7_put rfl (by decide) rfl rfl dX7_putDigit_6) (ev_X7_put hO hP h_3) xw_X7_put rfl wd_138 dX7_putDigit_6 (by decide) (by decide) (by simp [x_cat, x_catI, x_catJ])
    cases h
    exact x_callX z9 (evX_out rfl)
set_option maxHeartbeats 4000000 in
set_option maxRecDepth 100000 in
theorem ev_X7_printLongNet_p61 {l : Launch} {G : xG} (hO : x_OK l G) {P : xP} (hP : x_PG P G) {a0 : Nat} {v1 : Option Nat} {σ σ' : xS} {rr : Unit ⊕ String} (h : dm_X7_printLongNet_p61 P a0 v1 σ = some (rr, σ')) : Ev l G mX7_printLongNet 61 [(0, va_rf (some a0)), (1, va_rf v1)] [] σ (xrV rr) σ' := by
  unfold dm_X7_printLongNet_p61 at h
  refine ev_aload_n (j := 0) (x := (some a0)) dX7_printLongNet_61 rfl rfl ?_
  refine ev_aload_n (j := 1) (x := v1) dX7_printLongNet_62 rfl rfl ?_
  obtain ⟨a_1, ea_1, h⟩ := x_some_e h
  refine ev_at (st' := [va_rf (some a_1), va_rf (some a0)]) rfl (by rw [ea_1]) ?_
  obtain ⟨c_2, h⟩ := x_chk_e h
  refine ev_get (C := RX4) (T := TX4) (k := 0) inX4 (xE_5 c_2) rfl (by decide) wd_871 (Or.inl rfl) rfl dX7_printLongNet_63 ?_
  obtain ⟨c_6, h⟩ := x_chk_e h
  rcases x_bind_e h with ⟨v_3, σ_4, h_5, h⟩ | ⟨E_12, σ_4, h_5, h⟩
  · have z9 := x_call (M := mX7_printLongNet) (M' := mX7_putName) (pc := 66) (st := [.long (σ.J 400 a_1), va_rf (some a0)]) (rest := []) (av := [va_rf (some a0), .long (σ.J 400 a_1)]) (x_linkV (M := mX7_printLongNet) (M' := mX7_putName) (As := [.long (σ.J 400 a_1)]) (index := 70) (C := RX7) (T := TX7) (xE_8 c_6) rfl wd_873 wd_874 (wG_in (List.mem_append_left _ (List.mem_of_getElem? (i := 25) rfl)) rfl) xw_X7_putName rfl (by decide) rfl rfl dX7_printLongNet_66) (ev_X7_putName hO hP h_5) xw_X7_putName rfl wd_138 dX7_printLongNet_66 (by decide) (by decide) (by simp [x_cat, x_catI, x_catJ])
    refine x_callR z9 ?_
    refine ev_at (st' := []) rfl rfl ?_
    refine ev_aload_n (j := 0) (x := (some a0)) dX7_printLongNet_69 rfl rfl ?_
    refine ev_ldcS (q := ("NetlistForms$Printer", 113, ";\n", 4)) hP (List.mem_of_getElem? (i := 11) rfl) rfl dX7_printLongNet_70 ?_
    obtain ⟨c_10, h⟩ := x_chk_e h
    rcases x_bind_e h with ⟨v_7, σ_8, h_9, h⟩ | ⟨E_11, σ_8, h_9, h⟩
    · have z9 := x_call (M := mX7_printLongNet) (M' := mX7_putText) (pc := 72) (st := [va_rf (some (P.ad 4)), va_rf (some a0)]) (rest := []) (av := [va_rf (some a0), va_rf (some (P.ad 4))]) (x_linkV (M := mX7_printLongNet) (M' := mX7_putText) (As := [va_rf (some (P.ad 4))]) (index := 60) (C := RX7) (T := TX7) (xE_8 c_10) rfl wd_865 wd_866 (wG_in (List.mem_append_left _ (List.mem_of_getElem? (i := 23) rfl)) rfl) xw_X7_putText rfl (by decide) rfl rfl dX7_printLongNet_72) (ev_X7_putText hO hP h_9) xw_X7_putText rfl wd_138 dX7_printLongNet_72 (by decide) (by decide) (by simp [x_cat, x_catI, x_catJ])
      refine x_callR z9 ?_
      refine ev_at (st' := []) rfl rfl ?_
      cases h
      exact ev_vret rfl dX7_printLongNet_75
    · have z9 := x_call (M := mX7_printLongNet) (M' := mX7_putText) (pc := 72) (st := [va_rf (some (P.ad 4)), va_rf (some a0)]) (rest := []) (av := [va_rf (some a0), va_rf (some (P.ad 4))]) (x_linkV (M := mX7_printLongNet) (M' := mX7_putText) (As := [va_rf (some (P.ad 4))]) (index := 60) (C := RX7) (T := TX7) (xE_8 c_10) rfl wd_865 wd_866 (wG_in (List.mem_append_left _ (List.mem_of_getElem? (i := 23) rfl)) rfl) xw_X7_putText rfl (by decide) rfl rfl dX7_printLongNet_72) (ev_X7_putText hO hP h_9) xw_X7_putText rfl wd_138 dX7_printLongNet_72 (by decide) (by decide) (by simp [x_cat, x_catI, x_catJ])
      cases h
      exact x_callX z9 (evX_out rfl)
  · have z9 := x_call (M := mX7_printLongNet) (M' := mX7_putName) (pc := 66) (st := [.long (σ.J 400 a_1), va_rf (some a0)]) (rest := []) (av := [va_rf (some a0), .long (σ.J 400 a_1)]) (x_linkV (M := mX7_printLongNet) (M' := mX7_putName) (As := [.long (σ.J 400 a_1)]) (index := 70) (C := RX7) (T := TX7) (xE_8 c_6) rfl wd_873 wd_874 (wG_in (List.mem_append_left _ (List.mem_of_getElem? (i := 25) rfl)) rfl) xw_X7_putName rfl (by decide) rfl rfl dX7_printLongNet_66) (ev_X7_putName hO hP h_5) xw_X7_putName rfl wd_138 dX7_printLongNet_66 (by decide) (by decide) (by simp [x_cat, x_catI, x_catJ])
    cases h
    exact x_callX z9 (evX_out rfl)
set_option maxHeartbeats 4000000 in
set_option maxRecDepth 100000 in
theorem ev_X7_printLongNet_p28 {l : Launch} {G : xG} (hO : x_OK l G) {P : xP} (hP : x_PG P G) {a0 : Nat} {v1 : Option Nat} {s0 : Option Nat} {s1 : Option Nat} {σ σ' : xS} {rr : Unit ⊕ String} (h : dm_X7_printLongNet_p28 P a0 v1 s0 s1 σ = some (rr, σ')) : Ev l G mX7_printLongNet 28 [(0, va_rf (some a0)), (1, va_rf v1)] [va_rf s1, va_rf s0] σ (xrV rr) σ' := by
  unfold dm_X7_printLongNet_p28 at h
  obtain ⟨a_1, ea_1, h⟩ := x_some_e h
  refine ev_at (st' := [va_rf s1, va_rf (some a_1)]) rfl (by rw [ea_1]) ?_
  obtain ⟨c_5, h⟩ := x_chk_e h
  rcases x_bind_e h with ⟨v_2, σ_3, h_4, h⟩ | ⟨E_25, σ_3, h_4, h⟩
  · have z9 := x_call (M := mX7_printLongNet) (M' := mX7_putText) (pc := 28) (st := [va_rf s1, va_rf (some a_1)]) (rest := []) (av := [va_rf (some a_1), va_rf s1]) (x_linkV (M := mX7_printLongNet) (M' := mX7_putText) (As := [va_rf s1]) (index := 60) (C := RX7) (T := TX7) (xE_8 c_5) rfl wd_865 wd_866 (wG_in (List.mem_append_left _ (List.mem_of_getElem? (i := 23) rfl)) rfl) xw_X7_putText rfl (by decide) rfl rfl dX7_printLongNet_28) (ev_X7_putText hO hP h_4) xw_X7_putText rfl wd_138 dX7_printLongNet_28 (by decide) (by decide) (by simp [x_cat, x_catI, x_catJ])
    refine x_callR z9 ?_
    refine ev_at (st' := []) rfl rfl ?_
    refine ev_aload_n (j := 1) (x := v1) dX7_printLongNet_31 rfl rfl ?_
    obtain ⟨a_6, ea_6, h⟩ := x_some_e h
    refine ev_at (st' := [va_rf (some a_6)]) rfl (by rw [ea_6]) ?_
    obtain ⟨c_7, h⟩ := x_chk_e h
    refine ev_get (C := RX4) (T := TX4) (k := 2) inX4 (xE_5 c_7) rfl (by decide) wd_867 (Or.inl rfl) rfl dX7_printLongNet_32 ?_
    refine ev_iconst (v := 1) dX7_printLongNet_35 (by decide) ?_
    by_cases c_8 : (σ_3.I 402 a_6) ≤ 1
    · rw [if_pos c_8] at h
      refine ev_icmp_le (x := (σ_3.I 402 a_6)) (y := 1) (tgt := 61) dX7_printLongNet_36 (by decide) (fun _ => ?_) (fun q9 => absurd c_8 q9)
      exact ev_sub [0, 1] rfl (ev_X7_printLongNet_p61 hO hP h)
    · rw [if_neg c_8] at h
      refine ev_icmp_le (x := (σ_3.I 402 a_6)) (y := 1) (tgt := 61) dX7_printLongNet_36 (by decide) (fun q9 => absurd q9 c_8) (fun _ => ?_)
      refine ev_aload_n (j := 0) (x := (some a0)) dX7_printLongNet_39 rfl rfl ?_
      refine ev_bipush (v := 91) dX7_printLongNet_40 (by decide) ?_
      obtain ⟨c_12, h⟩ := x_chk_e h
      rcases x_bind_e h with ⟨v_9, σ_10, h_11, h⟩ | ⟨E_24, σ_10, h_11, h⟩
      · have z9 := x_call (M := mX7_printLongNet) (M' := mX7_put) (pc := 42) (st := [.int 91, va_rf (some a0)]) (rest := []) (av := [va_rf (some a0), .int 91]) (x_linkV (M := mX7_printLongNet) (M' := mX7_put) (As := [.int 91]) (index := 38) (C := RX7) (T := TX7) (xE_8 c_12) rfl wd_860 wd_861 (wG_in (List.mem_append_left _ (List.mem_of_getElem? (i := 24) rfl)) rfl) xw_X7_put rfl (by decide) rfl rfl dX7_printLongNet_42) (ev_X7_put hO hP h_11) xw_X7_put rfl wd_138 dX7_printLongNet_42 (by decide) (by decide) (by simp [x_cat, x_catI, x_catJ])
        refine x_callR z9 ?_
        refine ev_at (st' := []) rfl rfl ?_
        refine ev_aload_n (j := 0) (x := (some a0)) dX7_printLongNet_45 rfl rfl ?_
        refine ev_aload_n (j := 1) (x := v1) dX7_printLongNet_46 rfl rfl ?_
        refine ev_at (st' := [va_rf (some a_6), va_rf (some a0)]) rfl (by rw [ea_6]) ?_
        obtain ⟨c_13, h⟩ := x_chk_e h
        refine ev_get (C := RX4) (T := TX4) (k := 2) inX4 (xE_5 c_13) rfl (by decide) wd_867 (Or.inl rfl) rfl dX7_printLongNet_47 ?_
        refine ev_iconst (v := 1) dX7_printLongNet_50 (by decide) ?_
        refine ev_isub (x := (σ_10.I 402 a_6)) (y := 1) dX7_printLongNet_51 ?_
        obtain ⟨c_17, h⟩ := x_chk_e h
        rcases x_bind_e h with ⟨v_14, σ_15, h_16, h⟩ | ⟨E_23, σ_15, h_16, h⟩
        · have z9 := x_call (M := mX7_printLongNet) (M' := mX7_putDigit) (pc := 52) (st := [.int ((σ_10.I 402 a_6) - 1), va_rf (some a0)]) (rest := []) (av := [va_rf (some a0), .int ((σ_10.I 402 a_6) - 1)]) (x_linkV (M := mX7_printLongNet) (M' := mX7_putDigit) (As := [.int ((σ_10.I 402 a_6) - 1)]) (index := 140) (C := RX7) (T := TX7) (xE_8 c_17) rfl wd_869 wd_870 (wG_in (List.mem_append_left _ (List.mem_of_getElem? (i := 27) rfl)) rfl) xw_X7_putDigit rfl (by decide) rfl rfl dX7_printLongNet_52) (ev_X7_putDigit hO hP h_16) xw_X7_putDigit rfl wd_138 dX7_printLongNet_52 (by decide) (by decide) (by simp [x_cat, x_catI, x_catJ])
          refine x_callR z9 ?_
          refine ev_at (st' := []) rfl rfl ?_
          refine ev_aload_n (j := 0) (x := (some a0)) dX7_printLongNet_55 rfl rfl ?_
          refine ev_ldcS (q := ("NetlistForms$Printer", 144, ":0] ", 3)) hP (List.mem_of_getElem? (i := 16) rfl) rfl dX7_printLongNet_56 ?_
          obtain ⟨c_21, h⟩ := x_chk_e h
          rcases x_bind_e h with ⟨v_18, σ_19, h_20, h⟩ | ⟨E_22, σ_19, h_20, h⟩
          · have z9 := x_call (M := mX7_printLongNet) (M' := mX7_putText) (pc := 58) (st := [va_rf (some (P.ad 3)), va_rf (some a0)]) (rest := []) (av := [va_rf (some a0), va_rf (some (P.ad 3))]) (x_linkV (M := mX7_printLongNet) (M' := mX7_putText) (As := [va_rf (some (P.ad 3))]) (index := 60) (C := RX7) (T := TX7) (xE_8 c_21) rfl wd_865 wd_866 (wG_in (List.mem_append_left _ (List.mem_of_getElem? (i := 23) rfl)) rfl) xw_X7_putText rfl (by decide) rfl rfl dX7_printLongNet_58) (ev_X7_putText hO hP h_20) xw_X7_putText rfl wd_138 dX7_printLongNet_58 (by decide) (by decide) (by simp [x_cat, x_catI, x_catJ])
            refine x_callR z9 ?_
            refine ev_at (st' := []) rfl rfl ?_
            exact ev_sub [0, 1] rfl (ev_X7_printLongNet_p61 hO hP h)
          · have z9 := x_call (M := mX7_printLongNet) (M' := mX7_putText) (pc := 58) (st := [va_rf (some (P.ad 3)), va_rf (some a0)]) (rest := []) (av := [va_rf (some a0), va_rf (some (P.ad 3))]) (x_linkV (M := mX7_printLongNet) (M' := mX7_putText) (As := [va_rf (some (P.ad 3))]) (index := 60) (C := RX7) (T := TX7) (xE_8 c_21) rfl wd_865 wd_866 (wG_in (List.mem_append_left _ (List.mem_of_getElem? (i := 23) rfl)) rfl) xw_X7_putText rfl (by decide) rfl rfl dX7_printLongNet_58) (ev_X7_putText hO hP h_20) xw_X7_putText rfl wd_138 dX7_printLongNet_58 (by decide) (by decide) (by simp [x_cat, x_catI, x_catJ])
            cases h
            exact x_callX z9 (evX_out rfl)
        · have z9 := x_call (M := mX7_printLongNet) (M' := mX7_putDigit) (pc := 52) (st := [.int ((σ_10.I 402 a_6) - 1), va_rf (some a0)]) (rest := []) (av := [va_rf (some a0), .int ((σ_10.I 402 a_6) - 1)]) (x_linkV (M := mX7_printLongNet) (M' := mX7_putDigit) (As := [.int ((σ_10.I 402 a_6) - 1)]) (index := 140) (C := RX7) (T := TX7) (xE_8 c_17) rfl wd_869 wd_870 (wG_in (List.mem_append_left _ (List.mem_of_getElem? (i := 27) rfl)) rfl) xw_X7_putDigit rfl (by decide) rfl rfl dX7_printLongNet_52) (ev_X7_putDigit hO hP h_16) xw_X7_putDigit rfl wd_138 dX7_printLongNet_52 (by decide) (by decide) (by simp [x_cat, x_catI, x_catJ])
          cases h
          exact x_callX z9 (evX_out rfl)
      · have z9 := x_call (M := mX7_printLongNet) (M' := mX7_put) (pc := 42) (st := [.int 91, va_rf (some a0)]) (rest := []) (av := [va_rf (some a0), .int 91]) (x_linkV (M := mX7_printLongNet) (M' := mX7_put) (As := [.int 91]) (index := 38) (C := RX7) (T := TX7) (xE_8 c_12) rfl wd_860 wd_861 (wG_in (List.mem_append_left _ (List.mem_of_getElem? (i := 24) rfl)) rfl) xw_X7_put rfl (by decide) rfl rfl dX7_printLongNet_42) (ev_X7_put hO hP h_11) xw_X7_put rfl wd_138 dX7_printLongNet_42 (by decide) (by decide) (by simp [x_cat, x_catI, x_catJ])
        cases h
        exact x_callX z9 (evX_out rfl)
  · have z9 := x_call (M := mX7_printLongNet) (M' := mX7_putText) (pc := 28) (st := [va_rf s1, va_rf (some a_1)]) (rest := []) (av := [va_rf (some a_1), va_rf s1]) (x_linkV (M := mX7_printLongNet) (M' := mX7_putText) (As := [va_rf s1]) (index := 60) (C := RX7) (T := TX7) (xE_8 c_5) rfl wd_865 wd_866 (wG_in (List.mem_append_left _ (List.mem_of_getElem? (i := 23) rfl)) rfl) xw_X7_putText rfl (by decide) rfl rfl dX7_printLongNet_28) (ev_X7_putText hO hP h_4) xw_X7_putText rfl wd_138 dX7_printLongNet_28 (by decide) (by decide) (by simp [x_cat, x_catI, x_catJ])
    cases h
    exact x_callX z9 (evX_out rfl)
set_option maxHeartbeats 4000000 in
set_option maxRecDepth 100000 in
theorem ev_X7_printLongNet {l : Launch} {G : xG} (hO : x_OK l G) {P : xP} (hP : x_PG P G) {a0 : Nat} {v1 : Option Nat} {σ σ' : xS} {rr : Unit ⊕ String} (h : dm_X7_printLongNet P a0 v1 σ = some (rr, σ')) : EvM l G mX7_printLongNet [va_rf (some a0), va_rf v1] σ (xrV rr) σ' := by
  unfold dm_X7_printLongNet at h
  refine evM_of hO (by decide +kernel) (x_lenI (by simp [x_cat, x_catI, x_catJ, mX7_printLongNet, xM.maxL])) ?_
  refine Eq.mp (congrArg (fun z => Ev l G mX7_printLongNet 0 z [] σ (xrV rr) σ') (show [(0, va_rf (some a0)), (1, va_rf v1)] = lv_args 0 [va_rf (some a0), va_rf v1] by simp [lv_args, x_cat, x_catI, x_catJ])) ?_
  refine ev_aload_n (j := 0) (x := (some a0)) dX7_printLongNet_0 rfl rfl ?_
  refine ev_aload_n (j := 1) (x := v1) dX7_printLongNet_1 rfl rfl ?_
  obtain ⟨a_1, ea_1, h⟩ := x_some_e h
  refine ev_at (st' := [va_rf (some a_1), va_rf (some a0)]) rfl (by rw [ea_1]) ?_
  obtain ⟨c_2, h⟩ := x_chk_e h
  refine ev_get (C := RX4) (T := TX4) (k := 1) inX4 (xE_5 c_2) rfl (by decide) wd_863 (Or.inl rfl) rfl dX7_printLongNet_2 ?_
  by_cases c_3 : (σ.I 401 a_1) = 0
  · rw [if_pos c_3] at h
    refine ev_if_ne (x := (σ.I 401 a_1)) (tgt := 13) dX7_printLongNet_5 (by decide) (fun q9 => absurd c_3 q9) (fun _ => ?_)
    refine ev_ldcS (q := ("NetlistForms$Printer", 131, "input ", 16)) hP (List.mem_of_getElem? (i := 13) rfl) rfl dX7_printLongNet_8 ?_
    refine ev_goto (tgt := 28) dX7_printLongNet_10 (by decide) ?_
    exact ev_sub [0, 1] rfl (ev_X7_printLongNet_p28 hO hP h)
  · rw [if_neg c_3] at h
    refine ev_if_ne (x := (σ.I 401 a_1)) (tgt := 13) dX7_printLongNet_5 (by decide) (fun _ => ?_) (fun q9 => absurd q9 c_3)
    refine ev_aload_n (j := 1) (x := v1) dX7_printLongNet_13 rfl rfl ?_
    refine ev_at (st' := [va_rf (some a_1), va_rf (some a0)]) rfl (by rw [ea_1]) ?_
    refine ev_get (C := RX4) (T := TX4) (k := 1) inX4 (xE_5 c_2) rfl (by decide) wd_863 (Or.inl rfl) rfl dX7_printLongNet_14 ?_
    refine ev_iconst (v := 1) dX7_printLongNet_17 (by decide) ?_
    by_cases c_4 : (σ.I 401 a_1) = 1
    · rw [if_pos c_4] at h
      refine ev_icmp_ne (x := (σ.I 401 a_1)) (y := 1) (tgt := 26) dX7_printLongNet_18 (by decide) (fun q9 => absurd c_4 q9) (fun _ => ?_)
      refine ev_ldcS (q := ("NetlistForms$Printer", 133, "output ", 24)) hP (List.mem_of_getElem? (i := 14) rfl) rfl dX7_printLongNet_21 ?_
      refine ev_goto (tgt := 28) dX7_printLongNet_23 (by decide) ?_
      exact ev_sub [0, 1] rfl (ev_X7_printLongNet_p28 hO hP h)
    · rw [if_neg c_4] at h
      refine ev_icmp_ne (x := (σ.I 401 a_1)) (y := 1) (tgt := 26) dX7_printLongNet_18 (by decide) (fun _ => ?_) (fun q9 => absurd q9 c_4)
      refine ev_ldcS (q := ("NetlistForms$Printer", 135, "wire ", 30)) hP (List.mem_of_getElem? (i := 15) rfl) rfl dX7_printLongNet_26 ?_
      exact ev_sub [0, 1] rfl (ev_X7_printLongNet_p28 hO hP h)
set_option maxHeartbeats 4000000 in
set_option maxRecDepth 100000 in
theorem ev_X7_putConstant_p60 {l : Launch} {G : xG} (hO : x_OK l G) {P : xP} (hP : x_PG P G) {a0 : Nat} {k38 : Option Nat → Int32 → xS → xO Unit} (hk38 : ∀ {v1 : Option Nat} {v2 : Int32} {σ σ' : xS} {rr : Unit ⊕ String}, k38 v1 v2 σ = some (rr, σ') → Ev l G mX7_putConstant 38 [(0, va_rf (some a0)), (1, va_rf v1), (2, .int v2)] [] σ (xrV rr) σ') {v1 : Option Nat} {v2 : Int32} {s0 : Option Nat} {s1 : Int32} {σ σ' : xS} {rr : Unit ⊕ String} (h : dm_X7_putConstant_p60 P k38 a0 v1 v2 s0 s1 σ = some (rr, σ')) : Ev l G mX7_putConstant 60 [(0, va_rf (some a0)), (1, va_rf v1), (2, .int v2)] [.int s1, va_rf s0] σ (xrV rr) σ' := by
  unfold dm_X7_putConstant_p60 at h
  obtain ⟨a_1, ea_1, h⟩ := x_some_e h
  refine ev_at (st' := [.int s1, va_rf (some a_1)]) rfl (by rw [ea_1]) ?_
  obtain ⟨c_5, h⟩ := x_chk_e h
  rcases x_bind_e h with ⟨v_2, σ_3, h_4, h⟩ | ⟨E_7, σ_3, h_4, h⟩
  · have z9 := x_call (M := mX7_putConstant) (M' := mX7_put) (pc := 60) (st := [.int s1, va_rf (some a_1)]) (rest := []) (av := [va_rf (some a_1), .int s1]) (x_linkV (M := mX7_putConstant) (M' := mX7_put) (As := [.int s1]) (index := 38) (C := RX7) (T := TX7) (xE_8 c_5) rfl wd_860 wd_861 (wG_in (List.mem_append_left _ (List.mem_of_getElem? (i := 24) rfl)) rfl) xw_X7_put rfl (by decide) rfl rfl dX7_putConstant_60) (ev_X7_put hO hP h_4) xw_X7_put rfl wd_138 dX7_putConstant_60 (by decide) (by decide) (by simp [x_cat, x_catI, x_catJ])
    refine x_callR z9 ?_
    refine ev_at (st' := []) rfl rfl ?_
    obtain ⟨v_6, ev_6, h⟩ := x_let_e h
    refine ev_iinc (j := 2) (x := v2) (v := v_6) (lv' := [(2, .int v_6), (0, va_rf (some a0)), (1, va_rf v1)]) dX7_putConstant_63 rfl (by rw [ev_6]; rfl) (by decide) (by simp [x_cat, x_catI, x_catJ]) ?_
    refine ev_goto (tgt := 38) dX7_putConstant_66 (by decide) ?_
    exact ev_sub [1, 2, 0] rfl (hk38 h)
  · have z9 := x_call (M := mX7_putConstant) (M' := mX7_put) (pc := 60) (st := [.int s1, va_rf (some a_1)]) (rest := []) (av := [va_rf (some a_1), .int s1]) (x_linkV (M := mX7_putConstant) (M' := mX7_put) (As := [.int s1]) (index := 38) (C := RX7) (T := TX7) (xE_8 c_5) rfl wd_860 wd_861 (wG_in (List.mem_append_left _ (List.mem_of_getElem? (i := 24) rfl)) rfl) xw_X7_put rfl (by decide) rfl rfl dX7_putConstant_60) (ev_X7_put hO hP h_4) xw_X7_put rfl wd_138 dX7_putConstant_60 (by decide) (by decide) (by simp [x_cat, x_catI, x_catJ])
    cases h
    exact x_callX z9 (evX_out rfl)
set_option maxHeartbeats 4000000 in
set_option maxRecDepth 100000 in
theorem ev_X7_putConstant_L38 {l : Launch} {G : xG} (hO : x_OK l G) {P : xP} (hP : x_PG P G) {a0 : Nat} : ∀ (n : Nat) {v1 : Option Nat} {v2 : Int32} {σ σ' : xS} {rr : Unit ⊕ String}, dm_X7_putConstant_L38 P a0 n v1 v2 σ = some (rr, σ') → Ev l G mX7_putConstant 38 [(0, va_rf (some a0)), (1, va_rf v1), (2, .int v2)] [] σ (xrV rr) σ' := by
  intro n
  induction n with
  | zero => intro v1 v2 σ σ' rr h; cases h
  | succ n ih =>
    intro v1 v2 σ σ' rr h
    rw [dm_X7_putConstant_L38] at h
    refine ev_iload_n (j := 2) (x := v2) dX7_putConstant_38 rfl rfl ?_
    by_cases c_1 : v2 < 0
    · rw [if_pos c_1] at h
      refine ev_if_lt (x := v2) (tgt := 69) dX7_putConstant_39 (by decide) (fun _ => ?_) (fun q9 => absurd c_1 q9)
      cases h
      exact ev_vret rfl dX7_putConstant_69
    · rw [if_neg c_1] at h
      refine ev_if_lt (x := v2) (tgt := 69) dX7_putConstant_39 (by decide) (fun q9 => absurd q9 c_1) (fun _ => ?_)
      refine ev_aload_n (j := 0) (x := (some a0)) dX7_putConstant_42 rfl rfl ?_
      refine ev_aload_n (j := 1) (x := v1) dX7_putConstant_43 rfl rfl ?_
      refine ev_iload_n (j := 2) (x := v2) dX7_putConstant_44 rfl rfl ?_
      obtain ⟨a_2, ea_2, h⟩ := x_some_e h
      refine ev_at (st' := [.int v2, va_rf (some a_2), va_rf (some a0)]) rfl (by rw [ea_2]) ?_
      obtain ⟨c_6, h⟩ := x_chk_e h
      rcases x_bind_e h with ⟨v_3, σ_4, h_5, h⟩ | ⟨E_8, σ_4, h_5, h⟩
      · have z9 := x_call (M := mX7_putConstant) (M' := mX6_bitAt) (pc := 45) (st := [.int v2, va_rf (some a_2), va_rf (some a0)]) (rest := [va_rf (some a0)]) (av := [va_rf (some a_2), .int v2]) (x_linkV (M := mX7_putConstant) (M' := mX6_bitAt) (As := [.int v2]) (index := 217) (C := RX6) (T := TX6) (xE_7 c_6) rfl wd_876 wd_26 wd_24 xw_X6_bitAt rfl (by decide) rfl rfl dX7_putConstant_45) (ev_X6_bitAt hO hP h_5) xw_X6_bitAt rfl wd_22 dX7_putConstant_45 (by decide) (by decide) (by simp [x_cat, x_catI, x_catJ])
        refine x_callR z9 ?_
        refine ev_at (st' := [.int v_3, va_rf (some a0)]) rfl rfl ?_
        refine ev_bipush (v := -3) dX7_putConstant_48 (by decide) ?_
        by_cases c_7 : v_3 = (-3)
        · rw [if_pos c_7] at h
          refine ev_icmp_ne (x := v_3) (y := (-3)) (tgt := 58) dX7_putConstant_50 (by decide) (fun q9 => absurd c_7 q9) (fun _ => ?_)
          refine ev_bipush (v := 49) dX7_putConstant_53 (by decide) ?_
          refine ev_goto (tgt := 60) dX7_putConstant_55 (by decide) ?_
          exact ev_sub [0, 1, 2] rfl (ev_X7_putConstant_p60 hO hP ih h)
        · rw [if_neg c_7] at h
          refine ev_icmp_ne (x := v_3) (y := (-3)) (tgt := 58) dX7_putConstant_50 (by decide) (fun _ => ?_) (fun q9 => absurd q9 c_7)
          refine ev_bipush (v := 48) dX7_putConstant_58 (by decide) ?_
          exact ev_sub [0, 1, 2] rfl (ev_X7_putConstant_p60 hO hP ih h)
      · have z9 := x_call (M := mX7_putConstant) (M' := mX6_bitAt) (pc := 45) (st := [.int v2, va_rf (some a_2), va_rf (some a0)]) (rest := [va_rf (some a0)]) (av := [va_rf (some a_2), .int v2]) (x_linkV (M := mX7_putConstant) (M' := mX6_bitAt) (As := [.int v2]) (index := 217) (C := RX6) (T := TX6) (xE_7 c_6) rfl wd_876 wd_26 wd_24 xw_X6_bitAt rfl (by decide) rfl rfl dX7_putConstant_45) (ev_X6_bitAt hO hP h_5) xw_X6_bitAt rfl wd_22 dX7_putConstant_45 (by decide) (by decide) (by simp [x_cat, x_catI, x_catJ])
        cases h
        exact x_callX z9 (evX_out rfl)
set_option maxHeartbeats 4000000 in
set_option maxRecDepth 100000 in
theorem ev_X7_putConstant_p19 {l : Launch} {G : xG} (hO : x_OK l G) {P : xP} (hP : x_PG P G) {a0 : Nat} {v1 : Option Nat} {σ σ' : xS} {rr : Unit ⊕ String} (h : dm_X7_putConstant_p19 P a0 v1 σ = some (rr, σ')) : Ev l G mX7_putConstant 19 [(0, va_rf (some a0)), (1, va_rf v1)] [] σ (xrV rr) σ' := by
  unfold dm_X7_putConstant_p19 at h
  refine ev_aload_n (j := 0) (x := (some a0)) dX7_putConstant_19 rfl rfl ?_
  refine ev_bipush (v := 39) dX7_putConstant_20 (by decide) ?_
  obtain ⟨c_4, h⟩ := x_chk_e h
  rcases x_bind_e h with ⟨v_1, σ_2, h_3, h⟩ | ⟨E_17, σ_2, h_3, h⟩
  · have z9 := x_call (M := mX7_putConstant) (M' := mX7_put) (pc := 22) (st := [.int 39, va_rf (some a0)]) (rest := []) (av := [va_rf (some a0), .int 39]) (x_linkV (M := mX7_putConstant) (M' := mX7_put) (As := [.int 39]) (index := 38) (C := RX7) (T := TX7) (xE_8 c_4) rfl wd_860 wd_861 (wG_in (List.mem_append_left _ (List.mem_of_getElem? (i := 24) rfl)) rfl) xw_X7_put rfl (by decide) rfl rfl dX7_putConstant_22) (ev_X7_put hO hP h_3) xw_X7_put rfl wd_138 dX7_putConstant_22 (by decide) (by decide) (by simp [x_cat, x_catI, x_catJ])
    refine x_callR z9 ?_
    refine ev_at (st' := []) rfl rfl ?_
    refine ev_aload_n (j := 0) (x := (some a0)) dX7_putConstant_25 rfl rfl ?_
    refine ev_bipush (v := 98) dX7_putConstant_26 (by decide) ?_
    obtain ⟨c_8, h⟩ := x_chk_e h
    rcases x_bind_e h with ⟨v_5, σ_6, h_7, h⟩ | ⟨E_16, σ_6, h_7, h⟩
    · have z9 := x_call (M := mX7_putConstant) (M' := mX7_put) (pc := 28) (st := [.int 98, va_rf (some a0)]) (rest := []) (av := [va_rf (some a0), .int 98]) (x_linkV (M := mX7_putConstant) (M' := mX7_put) (As := [.int 98]) (index := 38) (C := RX7) (T := TX7) (xE_8 c_8) rfl wd_860 wd_861 (wG_in (List.mem_append_left _ (List.mem_of_getElem? (i := 24) rfl)) rfl) xw_X7_put rfl (by decide) rfl rfl dX7_putConstant_28) (ev_X7_put hO hP h_7) xw_X7_put rfl wd_138 dX7_putConstant_28 (by decide) (by decide) (by simp [x_cat, x_catI, x_catJ])
      refine x_callR z9 ?_
      refine ev_at (st' := []) rfl rfl ?_
      refine ev_aload_n (j := 1) (x := v1) dX7_putConstant_31 rfl rfl ?_
      obtain ⟨a_9, ea_9, h⟩ := x_some_e h
      refine ev_at (st' := [va_rf (some a_9)]) rfl (by rw [ea_9]) ?_
      obtain ⟨c_13, h⟩ := x_chk_e h
      rcases x_bind_e h with ⟨v_10, σ_11, h_12, h⟩ | ⟨E_15, σ_11, h_12, h⟩
      · have z9 := x_call (M := mX7_putConstant) (M' := mX6_width) (pc := 32) (st := [va_rf (some a_9)]) (rest := []) (av := [va_rf (some a_9)]) (x_linkV (M := mX7_putConstant) (M' := mX6_width) (As := []) (index := 215) (C := RX6) (T := TX6) (xE_7 c_13) rfl wd_875 wd_21 wd_19 xw_X6_width rfl (by decide) rfl rfl dX7_putConstant_32) (ev_X6_width hO hP h_12) xw_X6_width rfl wd_22 dX7_putConstant_32 (by decide) (by decide) (by simp [x_cat, x_catI, x_catJ])
        refine x_callR z9 ?_
        refine ev_at (st' := [.int v_10]) rfl rfl ?_
        refine ev_iconst (v := 1) dX7_putConstant_35 (by decide) ?_
        refine ev_isub (x := v_10) (y := 1) dX7_putConstant_36 ?_
        obtain ⟨v_14, ev_14, h⟩ := x_let_e h
        rw [← ev_14]
        refine ev_istore_n (i := 2) (lv' := [(2, .int v_14), (0, va_rf (some a0)), (1, va_rf v1)]) dX7_putConstant_37 rfl (by decide) (by simp [x_cat, x_catI, x_catJ]) ?_
        exact ev_sub [1, 2, 0] rfl (ev_X7_putConstant_L38 hO hP P.N h)
      · have z9 := x_call (M := mX7_putConstant) (M' := mX6_width) (pc := 32) (st := [va_rf (some a_9)]) (rest := []) (av := [va_rf (some a_9)]) (x_linkV (M := mX7_putConstant) (M' := mX6_width) (As := []) (index := 215) (C := RX6) (T := TX6) (xE_7 c_13) rfl wd_875 wd_21 wd_19 xw_X6_width rfl (by decide) rfl rfl dX7_putConstant_32) (ev_X6_width hO hP h_12) xw_X6_width rfl wd_22 dX7_putConstant_32 (by decide) (by decide) (by simp [x_cat, x_catI, x_catJ])
        cases h
        exact x_callX z9 (evX_out rfl)
    · have z9 := x_call (M := mX7_putConstant) (M' := mX7_put) (pc := 28) (st := [.int 98, va_rf (some a0)]) (rest := []) (av := [va_rf (some a0), .int 98]) (x_linkV (M := mX7_putConstant) (M' := mX7_put) (As := [.int 98]) (index := 38) (C := RX7) (T := TX7) (xE_8 c_8) rfl wd_860 wd_861 (wG_in (List.mem_append_left _ (List.mem_of_getElem? (i := 24) rfl)) rfl) xw_X7_put rfl (by decide) rfl rfl dX7_putConstant_28) (ev_X7_put hO hP h_7) xw_X7_put rfl wd_138 dX7_putConstant_28 (by decide) (by decide) (by simp [x_cat, x_catI, x_catJ])
      cases h
      exact x_callX z9 (evX_out rfl)
  · have z9 := x_call (M := mX7_putConstant) (M' := mX7_put) (pc := 22) (st := [.int 39, va_rf (some a0)]) (rest := []) (av := [va_rf (some a0), .int 39]) (x_linkV (M := mX7_putConstant) (M' := mX7_put) (As := [.int 39]) (index := 38) (C := RX7) (T := TX7) (xE_8 c_4) rfl wd_860 wd_861 (wG_in (List.mem_append_left _ (List.mem_of_getElem? (i := 24) rfl)) rfl) xw_X7_put rfl (by decide) rfl rfl dX7_putConstant_22) (ev_X7_put hO hP h_3) xw_X7_put rfl wd_138 dX7_putConstant_22 (by decide) (by decide) (by simp [x_cat, x_catI, x_catJ])
    cases h
    exact x_callX z9 (evX_out rfl)
set_option maxHeartbeats 4000000 in
set_option maxRecDepth 100000 in
theorem ev_X7_putConstant {l : Launch} {G : xG} (hO : x_OK l G) {P : xP} (hP : x_PG P G) {a0 : Nat} {v1 : Option Nat} {σ σ' : xS} {rr : Unit ⊕ String} (h : dm_X7_putConstant P a0 v1 σ = some (rr, σ')) : EvM l G mX7_putConstant [va_rf (some a0), va_rf v1] σ (xrV rr) σ' := by
  unfold dm_X7_putConstant at h
  refine evM_of hO (by decide +kernel) (x_lenI (by simp [x_cat, x_catI, x_catJ, mX7_putConstant, xM.maxL])) ?_
  refine Eq.mp (congrArg (fun z => Ev l G mX7_putConstant 0 z [] σ (xrV rr) σ') (show [(0, va_rf (some a0)), (1, va_rf v1)] = lv_args 0 [va_rf (some a0), va_rf v1] by simp [lv_args, x_cat, x_catI, x_catJ])) ?_
  refine ev_aload_n (j := 0) (x := (some a0)) dX7_putConstant_0 rfl rfl ?_
  obtain ⟨c_1, h⟩ := x_chk_e h
  refine ev_get (C := RX7) (T := TX7) (k := 0) inX7 (xE_8 c_1) rfl (by decide) wd_107 (Or.inl rfl) rfl dX7_putConstant_1 ?_
  by_cases c_2 : (σ.I 700 a0) = 0
  · rw [if_pos c_2] at h
    refine ev_if_eq (x := (σ.I 700 a0)) (tgt := 19) dX7_putConstant_4 (by decide) (fun _ => ?_) (fun q9 => absurd c_2 q9)
    exact ev_sub [0, 1] rfl (ev_X7_putConstant_p19 hO hP h)
  · rw [if_neg c_2] at h
    refine ev_if_eq (x := (σ.I 700 a0)) (tgt := 19) dX7_putConstant_4 (by decide) (fun q9 => absurd q9 c_2) (fun _ => ?_)
    refine ev_aload_n (j := 0) (x := (some a0)) dX7_putConstant_7 rfl rfl ?_
    refine ev_bipush (v := 48) dX7_putConstant_8 (by decide) ?_
    refine ev_aload_n (j := 1) (x := v1) dX7_putConstant_10 rfl rfl ?_
    obtain ⟨a_3, ea_3, h⟩ := x_some_e h
    refine ev_at (st' := [va_rf (some a_3), .int 48, va_rf (some a0)]) rfl (by rw [ea_3]) ?_
    obtain ⟨c_7, h⟩ := x_chk_e h
    rcases x_bind_e h with ⟨v_4, σ_5, h_6, h⟩ | ⟨E_13, σ_5, h_6, h⟩
    · have z9 := x_call (M := mX7_putConstant) (M' := mX6_width) (pc := 11) (st := [va_rf (some a_3), .int 48, va_rf (some a0)]) (rest := [.int 48, va_rf (some a0)]) (av := [va_rf (some a_3)]) (x_linkV (M := mX7_putConstant) (M' := mX6_width) (As := []) (index := 215) (C := RX6) (T := TX6) (xE_7 c_7) rfl wd_875 wd_21 wd_19 xw_X6_width rfl (by decide) rfl rfl dX7_putConstant_11) (ev_X6_width hO hP h_6) xw_X6_width rfl wd_22 dX7_putConstant_11 (by decide) (by decide) (by simp [x_cat, x_catI, x_catJ])
      refine x_callR z9 ?_
      refine ev_at (st' := [.int v_4, .int 48, va_rf (some a0)]) rfl rfl ?_
      refine ev_iadd (x := 48) (y := v_4) dX7_putConstant_14 ?_
      refine ev_i2c (x := (48 + v_4)) dX7_putConstant_15 ?_
      obtain ⟨c_11, h⟩ := x_chk_e h
      rcases x_bind_e h with ⟨v_8, σ_9, h_10, h⟩ | ⟨E_12, σ_9, h_10, h⟩
      · have z9 := x_call (M := mX7_putConstant) (M' := mX7_put) (pc := 16) (st := [.int (UInt32.toInt32 (Int32.toUInt32 (48 + v_4) % 65536)), va_rf (some a0)]) (rest := []) (av := [va_rf (some a0), .int (UInt32.toInt32 (Int32.toUInt32 (48 + v_4) % 65536))]) (x_linkV (M := mX7_putConstant) (M' := mX7_put) (As := [.int (UInt32.toInt32 (Int32.toUInt32 (48 + v_4) % 65536))]) (index := 38) (C := RX7) (T := TX7) (xE_8 c_11) rfl wd_860 wd_861 (wG_in (List.mem_append_left _ (List.mem_of_getElem? (i := 24) rfl)) rfl) xw_X7_put rfl (by decide) rfl rfl dX7_putConstant_16) (ev_X7_put hO hP h_10) xw_X7_put rfl wd_138 dX7_putConstant_16 (by decide) (by decide) (by simp [x_cat, x_catI, x_catJ])
        refine x_callR z9 ?_
        refine ev_at (st' := []) rfl rfl ?_
        exact ev_sub [0, 1] rfl (ev_X7_putConstant_p19 hO hP h)
      · have z9 := x_call (M := mX7_putConstant) (M' := mX7_put) (pc := 16) (st := [.int (UInt32.toInt32 (Int32.toUInt32 (48 + v_4) % 65536)), va_rf (some a0)]) (rest := []) (av := [va_rf (some a0), .int (UInt32.toInt32 (Int32.toUInt32 (48 + v_4) % 65536))]) (x_linkV (M := mX7_putConstant) (M' := mX7_put) (As := [.int (UInt32.toInt32 (Int32.toUInt32 (48 + v_4) % 65536))]) (index := 38) (C := RX7) (T := TX7) (xE_8 c_11) rfl wd_860 wd_861 (wG_in (List.mem_append_left _ (List.mem_of_getElem? (i := 24) rfl)) rfl) xw_X7_put rfl (by decide) rfl rfl dX7_putConstant_16) (ev_X7_put hO hP h_10) xw_X7_put rfl wd_138 dX7_putConstant_16 (by decide) (by decide) (by simp [x_cat, x_catI, x_catJ])
        cases h
        exact x_callX z9 (evX_out rfl)
    · have z9 := x_call (M := mX7_putConstant) (M' := mX6_width) (pc := 11) (st := [va_rf (some a_3), .int 48, va_rf (some a0)]) (rest := [.int 48, va_rf (some a0)]) (av := [va_rf (some a_3)]) (x_linkV (M := mX7_putConstant) (M' := mX6_width) (As := []) (index := 215) (C := RX6) (T := TX6) (xE_7 c_7) rfl wd_875 wd_21 wd_19 xw_X6_width rfl (by decide) rfl rfl dX7_putConstant_11) (ev_X6_width hO hP h_6) xw_X6_width rfl wd_22 dX7_putConstant_11 (by decide) (by decide) (by simp [x_cat, x_catI, x_catJ])
      cases h
      exact x_callX z9 (evX_out rfl)
set_option maxHeartbeats 4000000 in
set_option maxRecDepth 100000 in
theorem ev_X7_printPart_p105 {l : Launch} {G : xG} (hO : x_OK l G) {P : xP} (hP : x_PG P G) {a0 : Nat} {σ σ' : xS} {rr : Unit ⊕ String} (h : dm_X7_printPart_p105 P a0 σ = some (rr, σ')) : Ev l G mX7_printPart 105 [] [] σ (xrV rr) σ' := by
  unfold dm_X7_printPart_p105 at h
  cases h
  exact ev_vret rfl dX7_printPart_105
set_option maxHeartbeats 4000000 in
set_option maxRecDepth 100000 in
theorem ev_X7_printPart_p92 {l : Launch} {G : xG} (hO : x_OK l G) {P : xP} (hP : x_PG P G) {a0 : Nat} {σ σ' : xS} {rr : Unit ⊕ String} (h : dm_X7_printPart_p92 P a0 σ = some (rr, σ')) : Ev l G mX7_printPart 92 [(0, va_rf (some a0))] [] σ (xrV rr) σ' := by
  unfold dm_X7_printPart_p92 at h
  refine ev_aload_n (j := 0) (x := (some a0)) dX7_printPart_92 rfl rfl ?_
  obtain ⟨c_1, h⟩ := x_chk_e h
  refine ev_get (C := RX7) (T := TX7) (k := 0) inX7 (xE_8 c_1) rfl (by decide) wd_107 (Or.inl rfl) rfl dX7_printPart_93 ?_
  by_cases c_2 : (σ.I 700 a0) = 0
  · rw [if_pos c_2] at h
    refine ev_if_eq (x := (σ.I 700 a0)) (tgt := 105) dX7_printPart_96 (by decide) (fun _ => ?_) (fun q9 => absurd c_2 q9)
    exact ev_sub [] rfl (ev_X7_printPart_p105 hO hP h)
  · rw [if_neg c_2] at h
    refine ev_if_eq (x := (σ.I 700 a0)) (tgt := 105) dX7_printPart_96 (by decide) (fun q9 => absurd q9 c_2) (fun _ => ?_)
    refine ev_aload_n (j := 0) (x := (some a0)) dX7_printPart_99 rfl rfl ?_
    refine ev_bipush (v := 93) dX7_printPart_100 (by decide) ?_
    rcases x_bind_e h with ⟨v_3, σ_4, h_5, h⟩ | ⟨E_6, σ_4, h_5, h⟩
    · have z9 := x_call (M := mX7_printPart) (M' := mX7_put) (pc := 102) (st := [.int 93, va_rf (some a0)]) (rest := []) (av := [va_rf (some a0), .int 93]) (x_linkV (M := mX7_printPart) (M' := mX7_put) (As := [.int 93]) (index := 38) (C := RX7) (T := TX7) (xE_8 c_1) rfl wd_860 wd_861 (wG_in (List.mem_append_left _ (List.mem_of_getElem? (i := 24) rfl)) rfl) xw_X7_put rfl (by decide) rfl rfl dX7_printPart_102) (ev_X7_put hO hP h_5) xw_X7_put rfl wd_138 dX7_printPart_102 (by decide) (by decide) (by simp [x_cat, x_catI, x_catJ])
      refine x_callR z9 ?_
      refine ev_at (st' := []) rfl rfl ?_
      exact ev_sub [] rfl (ev_X7_printPart_p105 hO hP h)
    · have z9 := x_call (M := mX7_printPart) (M' := mX7_put) (pc := 102) (st := [.int 93, va_rf (some a0)]) (rest := []) (av := [va_rf (some a0), .int 93]) (x_linkV (M := mX7_printPart) (M' := mX7_put) (As := [.int 93]) (index := 38) (C := RX7) (T := TX7) (xE_8 c_1) rfl wd_860 wd_861 (wG_in (List.mem_append_left _ (List.mem_of_getElem? (i := 24) rfl)) rfl) xw_X7_put rfl (by decide) rfl rfl dX7_printPart_102) (ev_X7_put hO hP h_5) xw_X7_put rfl wd_138 dX7_printPart_102 (by decide) (by decide) (by simp [x_cat, x_catI, x_catJ])
      cases h
      exact x_callX z9 (evX_out rfl)
set_option maxHeartbeats 4000000 in
set_option maxRecDepth 100000 in
theorem ev_X7_printPart_p81 {l : Launch} {G : xG} (hO : x_OK l G) {P : xP} (hP : x_PG P G) {a0 : Nat} {v1 : Option Nat} {s0 : Option Nat} {s1 : Int32} {σ σ' : xS} {rr : Unit ⊕ String} (h : dm_X7_printPart_p81 P a0 v1 s0 s1 σ = some (rr, σ')) : Ev l G mX7_printPart 81 [(0, va_rf (some a0)), (1, va_rf v1)] [.int s1, va_rf s0] σ (xrV rr) σ' := by
  unfold dm_X7_printPart_p81 at h
  obtain ⟨a_1, ea_1, h⟩ := x_some_e h
  refine ev_at (st' := [.int s1, va_rf (some a_1)]) rfl (by rw [ea_1]) ?_
  obtain ⟨c_5, h⟩ := x_chk_e h
  rcases x_bind_e h with ⟨v_2, σ_3, h_4, h⟩ | ⟨E_13, σ_3, h_4, h⟩
  · have z9 := x_call (M := mX7_printPart) (M' := mX7_put) (pc := 81) (st := [.int s1, va_rf (some a_1)]) (rest := []) (av := [va_rf (some a_1), .int s1]) (x_linkV (M := mX7_printPart) (M' := mX7_put) (As := [.int s1]) (index := 38) (C := RX7) (T := TX7) (xE_8 c_5) rfl wd_860 wd_861 (wG_in (List.mem_append_left _ (List.mem_of_getElem? (i := 24) rfl)) rfl) xw_X7_put rfl (by decide) rfl rfl dX7_printPart_81) (ev_X7_put hO hP h_4) xw_X7_put rfl wd_138 dX7_printPart_81 (by decide) (by decide) (by simp [x_cat, x_catI, x_catJ])
    refine x_callR z9 ?_
    refine ev_at (st' := []) rfl rfl ?_
    refine ev_aload_n (j := 0) (x := (some a0)) dX7_printPart_84 rfl rfl ?_
    refine ev_aload_n (j := 1) (x := v1) dX7_printPart_85 rfl rfl ?_
    obtain ⟨a_6, ea_6, h⟩ := x_some_e h
    refine ev_at (st' := [va_rf (some a_6), va_rf (some a0)]) rfl (by rw [ea_6]) ?_
    obtain ⟨c_7, h⟩ := x_chk_e h
    refine ev_get (C := RX6) (T := TX6) (k := 4) inX6 (xE_7 c_7) rfl (by decide) wd_883 (Or.inl rfl) rfl dX7_printPart_86 ?_
    obtain ⟨c_11, h⟩ := x_chk_e h
    rcases x_bind_e h with ⟨v_8, σ_9, h_10, h⟩ | ⟨E_12, σ_9, h_10, h⟩
    · have z9 := x_call (M := mX7_printPart) (M' := mX7_putDigit) (pc := 89) (st := [.int (σ_3.I 604 a_6), va_rf (some a0)]) (rest := []) (av := [va_rf (some a0), .int (σ_3.I 604 a_6)]) (x_linkV (M := mX7_printPart) (M' := mX7_putDigit) (As := [.int (σ_3.I 604 a_6)]) (index := 140) (C := RX7) (T := TX7) (xE_8 c_11) rfl wd_869 wd_870 (wG_in (List.mem_append_left _ (List.mem_of_getElem? (i := 27) rfl)) rfl) xw_X7_putDigit rfl (by decide) rfl rfl dX7_printPart_89) (ev_X7_putDigit hO hP h_10) xw_X7_putDigit rfl wd_138 dX7_printPart_89 (by decide) (by decide) (by simp [x_cat, x_catI, x_catJ])
      refine x_callR z9 ?_
      refine ev_at (st' := []) rfl rfl ?_
      exact ev_sub [0] rfl (ev_X7_printPart_p92 hO hP h)
    · have z9 := x_call (M := mX7_printPart) (M' := mX7_putDigit) (pc := 89) (st := [.int (σ_3.I 604 a_6), va_rf (some a0)]) (rest := []) (av := [va_rf (some a0), .int (σ_3.I 604 a_6)]) (x_linkV (M := mX7_printPart) (M' := mX7_putDigit) (As := [.int (σ_3.I 604 a_6)]) (index := 140) (C := RX7) (T := TX7) (xE_8 c_11) rfl wd_869 wd_870 (wG_in (List.mem_append_left _ (List.mem_of_getElem? (i := 27) rfl)) rfl) xw_X7_putDigit rfl (by decide) rfl rfl dX7_printPart_89) (ev_X7_putDigit hO hP h_10) xw_X7_putDigit rfl wd_138 dX7_printPart_89 (by decide) (by decide) (by simp [x_cat, x_catI, x_catJ])
      cases h
      exact x_callX z9 (evX_out rfl)
  · have z9 := x_call (M := mX7_printPart) (M' := mX7_put) (pc := 81) (st := [.int s1, va_rf (some a_1)]) (rest := []) (av := [va_rf (some a_1), .int s1]) (x_linkV (M := mX7_printPart) (M' := mX7_put) (As := [.int s1]) (index := 38) (C := RX7) (T := TX7) (xE_8 c_5) rfl wd_860 wd_861 (wG_in (List.mem_append_left _ (List.mem_of_getElem? (i := 24) rfl)) rfl) xw_X7_put rfl (by decide) rfl rfl dX7_printPart_81) (ev_X7_put hO hP h_4) xw_X7_put rfl wd_138 dX7_printPart_81 (by decide) (by decide) (by simp [x_cat, x_catI, x_catJ])
    cases h
    exact x_callX z9 (evX_out rfl)
set_option maxHeartbeats 4000000 in
set_option maxRecDepth 100000 in
theorem ev_X7_printPart_p47 {l : Launch} {G : xG} (hO : x_OK l G) {P : xP} (hP : x_PG P G) {a0 : Nat} {v1 : Option Nat} {s0 : Option Nat} {s1 : Int32} {σ σ' : xS} {rr : Unit ⊕ String} (h : dm_X7_printPart_p47 P a0 v1 s0 s1 σ = some (rr, σ')) : Ev l G mX7_printPart 47 [(0, va_rf (some a0)), (1, va_rf v1)] [.int s1, va_rf s0] σ (xrV rr) σ' := by
  unfold dm_X7_printPart_p47 at h
  obtain ⟨a_1, ea_1, h⟩ := x_some_e h
  refine ev_at (st' := [.int s1, va_rf (some a_1)]) rfl (by rw [ea_1]) ?_
  obtain ⟨c_5, h⟩ := x_chk_e h
  rcases x_bind_e h with ⟨v_2, σ_3, h_4, h⟩ | ⟨E_17, σ_3, h_4, h⟩
  · have z9 := x_call (M := mX7_printPart) (M' := mX7_put) (pc := 47) (st := [.int s1, va_rf (some a_1)]) (rest := []) (av := [va_rf (some a_1), .int s1]) (x_linkV (M := mX7_printPart) (M' := mX7_put) (As := [.int s1]) (index := 38) (C := RX7) (T := TX7) (xE_8 c_5) rfl wd_860 wd_861 (wG_in (List.mem_append_left _ (List.mem_of_getElem? (i := 24) rfl)) rfl) xw_X7_put rfl (by decide) rfl rfl dX7_printPart_47) (ev_X7_put hO hP h_4) xw_X7_put rfl wd_138 dX7_printPart_47 (by decide) (by decide) (by simp [x_cat, x_catI, x_catJ])
    refine x_callR z9 ?_
    refine ev_at (st' := []) rfl rfl ?_
    refine ev_aload_n (j := 0) (x := (some a0)) dX7_printPart_50 rfl rfl ?_
    refine ev_aload_n (j := 1) (x := v1) dX7_printPart_51 rfl rfl ?_
    obtain ⟨a_6, ea_6, h⟩ := x_some_e h
    refine ev_at (st' := [va_rf (some a_6), va_rf (some a0)]) rfl (by rw [ea_6]) ?_
    obtain ⟨c_7, h⟩ := x_chk_e h
    refine ev_get (C := RX6) (T := TX6) (k := 3) inX6 (xE_7 c_7) rfl (by decide) wd_882 (Or.inl rfl) rfl dX7_printPart_52 ?_
    obtain ⟨c_11, h⟩ := x_chk_e h
    rcases x_bind_e h with ⟨v_8, σ_9, h_10, h⟩ | ⟨E_16, σ_9, h_10, h⟩
    · have z9 := x_call (M := mX7_printPart) (M' := mX7_putDigit) (pc := 55) (st := [.int (σ_3.I 603 a_6), va_rf (some a0)]) (rest := []) (av := [va_rf (some a0), .int (σ_3.I 603 a_6)]) (x_linkV (M := mX7_printPart) (M' := mX7_putDigit) (As := [.int (σ_3.I 603 a_6)]) (index := 140) (C := RX7) (T := TX7) (xE_8 c_11) rfl wd_869 wd_870 (wG_in (List.mem_append_left _ (List.mem_of_getElem? (i := 27) rfl)) rfl) xw_X7_putDigit rfl (by decide) rfl rfl dX7_printPart_55) (ev_X7_putDigit hO hP h_10) xw_X7_putDigit rfl wd_138 dX7_printPart_55 (by decide) (by decide) (by simp [x_cat, x_catI, x_catJ])
      refine x_callR z9 ?_
      refine ev_at (st' := []) rfl rfl ?_
      refine ev_aload_n (j := 1) (x := v1) dX7_printPart_58 rfl rfl ?_
      refine ev_at (st' := [va_rf (some a_6)]) rfl (by rw [ea_6]) ?_
      obtain ⟨c_12, h⟩ := x_chk_e h
      refine ev_get (C := RX6) (T := TX6) (k := 0) inX6 (xE_7 c_12) rfl (by decide) wd_878 (Or.inl rfl) rfl dX7_printPart_59 ?_
      refine ev_iconst (v := 2) dX7_printPart_62 (by decide) ?_
      by_cases c_13 : (σ_9.I 600 a_6) = 2
      · rw [if_pos c_13] at h
        refine ev_icmp_ne (x := (σ_9.I 600 a_6)) (y := 2) (tgt := 92) dX7_printPart_63 (by decide) (fun q9 => absurd c_13 q9) (fun _ => ?_)
        refine ev_aload_n (j := 0) (x := (some a0)) dX7_printPart_66 rfl rfl ?_
        refine ev_aload_n (j := 0) (x := (some a0)) dX7_printPart_67 rfl rfl ?_
        obtain ⟨c_14, h⟩ := x_chk_e h
        refine ev_get (C := RX7) (T := TX7) (k := 0) inX7 (xE_8 c_14) rfl (by decide) wd_107 (Or.inl rfl) rfl dX7_printPart_68 ?_
        by_cases c_15 : (σ_9.I 700 a0) = 0
        · rw [if_pos c_15] at h
          refine ev_if_eq (x := (σ_9.I 700 a0)) (tgt := 79) dX7_printPart_71 (by decide) (fun _ => ?_) (fun q9 => absurd c_15 q9)
          refine ev_bipush (v := 46) dX7_printPart_79 (by decide) ?_
          exact ev_sub [0, 1] rfl (ev_X7_printPart_p81 hO hP h)
        · rw [if_neg c_15] at h
          refine ev_if_eq (x := (σ_9.I 700 a0)) (tgt := 79) dX7_printPart_71 (by decide) (fun q9 => absurd q9 c_15) (fun _ => ?_)
          refine ev_bipush (v := 58) dX7_printPart_74 (by decide) ?_
          refine ev_goto (tgt := 81) dX7_printPart_76 (by decide) ?_
          exact ev_sub [0, 1] rfl (ev_X7_printPart_p81 hO hP h)
      · rw [if_neg c_13] at h
        refine ev_icmp_ne (x := (σ_9.I 600 a_6)) (y := 2) (tgt := 92) dX7_printPart_63 (by decide) (fun _ => ?_) (fun q9 => absurd q9 c_13)
        exact ev_sub [0] rfl (ev_X7_printPart_p92 hO hP h)
    · have z9 := x_call (M := mX7_printPart) (M' := mX7_putDigit) (pc := 55) (st := [.int (σ_3.I 603 a_6), va_rf (some a0)]) (rest := []) (av := [va_rf (some a0), .int (σ_3.I 603 a_6)]) (x_linkV (M := mX7_printPart) (M' := mX7_putDigit) (As := [.int (σ_3.I 603 a_6)]) (index := 140) (C := RX7) (T := TX7) (xE_8 c_11) rfl wd_869 wd_870 (wG_in (List.mem_append_left _ (List.mem_of_getElem? (i := 27) rfl)) rfl) xw_X7_putDigit rfl (by decide) rfl rfl dX7_printPart_55) (ev_X7_putDigit hO hP h_10) xw_X7_putDigit rfl wd_138 dX7_printPart_55 (by decide) (by decide) (by simp [x_cat, x_catI, x_catJ])
      cases h
      exact x_callX z9 (evX_out rfl)
  · have z9 := x_call (M := mX7_printPart) (M' := mX7_put) (pc := 47) (st := [.int s1, va_rf (some a_1)]) (rest := []) (av := [va_rf (some a_1), .int s1]) (x_linkV (M := mX7_printPart) (M' := mX7_put) (As := [.int s1]) (index := 38) (C := RX7) (T := TX7) (xE_8 c_5) rfl wd_860 wd_861 (wG_in (List.mem_append_left _ (List.mem_of_getElem? (i := 24) rfl)) rfl) xw_X7_put rfl (by decide) rfl rfl dX7_printPart_47) (ev_X7_put hO hP h_4) xw_X7_put rfl wd_138 dX7_printPart_47 (by decide) (by decide) (by simp [x_cat, x_catI, x_catJ])
    cases h
    exact x_callX z9 (evX_out rfl)
set_option maxHeartbeats 4000000 in
set_option maxRecDepth 100000 in
theorem ev_X7_printPart {l : Launch} {G : xG} (hO : x_OK l G) {P : xP} (hP : x_PG P G) {a0 : Nat} {v1 : Option Nat} {σ σ' : xS} {rr : Unit ⊕ String} (h : dm_X7_printPart P a0 v1 σ = some (rr, σ')) : EvM l G mX7_printPart [va_rf (some a0), va_rf v1] σ (xrV rr) σ' := by
  unfold dm_X7_printPart at h
  refine evM_of hO (by decide +kernel) (x_lenI (by simp [x_cat, x_catI, x_catJ, mX7_printPart, xM.maxL])) ?_
  refine Eq.mp (congrArg (fun z => Ev l G mX7_printPart 0 z [] σ (xrV rr) σ') (show [(0, va_rf (some a0)), (1, va_rf v1)] = lv_args 0 [va_rf (some a0), va_rf v1] by simp [lv_args, x_cat, x_catI, x_catJ])) ?_
  refine ev_aload_n (j := 1) (x := v1) dX7_printPart_0 rfl rfl ?_
  obtain ⟨a_1, ea_1, h⟩ := x_some_e h
  refine ev_at (st' := [va_rf (some a_1)]) rfl (by rw [ea_1]) ?_
  obtain ⟨c_2, h⟩ := x_chk_e h
  refine ev_get (C := RX6) (T := TX6) (k := 2) inX6 (xE_7 c_2) rfl (by decide) wd_877 (Or.inl rfl) rfl dX7_printPart_1 ?_
  by_cases c_3 : (σ.R 602 a_1) = none
  · rw [if_pos c_3] at h
    refine ev_ifnonnull (x := (σ.R 602 a_1)) (tgt := 13) dX7_printPart_4 (by decide) (fun q9 => absurd c_3 q9) (fun _ => ?_)
    refine ev_aload_n (j := 0) (x := (some a0)) dX7_printPart_7 rfl rfl ?_
    refine ev_aload_n (j := 1) (x := v1) dX7_printPart_8 rfl rfl ?_
    obtain ⟨c_18, h⟩ := x_chk_e h
    rcases x_bind_e h with ⟨v_15, σ_16, h_17, h⟩ | ⟨E_19, σ_16, h_17, h⟩
    · have z9 := x_call (M := mX7_printPart) (M' := mX7_putConstant) (pc := 9) (st := [va_rf v1, va_rf (some a0)]) (rest := []) (av := [va_rf (some a0), va_rf v1]) (x_linkV (M := mX7_printPart) (M' := mX7_putConstant) (As := [va_rf v1]) (index := 203) (C := RX7) (T := TX7) (xE_8 c_18) rfl wd_880 wd_881 (wG_in (List.mem_append_left _ (List.mem_of_getElem? (i := 29) rfl)) rfl) xw_X7_putConstant rfl (by decide) rfl rfl dX7_printPart_9) (ev_X7_putConstant hO hP h_17) xw_X7_putConstant rfl wd_138 dX7_printPart_9 (by decide) (by decide) (by simp [x_cat, x_catI, x_catJ])
      refine x_callR z9 ?_
      refine ev_at (st' := []) rfl rfl ?_
      cases h
      exact ev_vret rfl dX7_printPart_12
    · have z9 := x_call (M := mX7_printPart) (M' := mX7_putConstant) (pc := 9) (st := [va_rf v1, va_rf (some a0)]) (rest := []) (av := [va_rf (some a0), va_rf v1]) (x_linkV (M := mX7_printPart) (M' := mX7_putConstant) (As := [va_rf v1]) (index := 203) (C := RX7) (T := TX7) (xE_8 c_18) rfl wd_880 wd_881 (wG_in (List.mem_append_left _ (List.mem_of_getElem? (i := 29) rfl)) rfl) xw_X7_putConstant rfl (by decide) rfl rfl dX7_printPart_9) (ev_X7_putConstant hO hP h_17) xw_X7_putConstant rfl wd_138 dX7_printPart_9 (by decide) (by decide) (by simp [x_cat, x_catI, x_catJ])
      cases h
      exact x_callX z9 (evX_out rfl)
  · rw [if_neg c_3] at h
    refine ev_ifnonnull (x := (σ.R 602 a_1)) (tgt := 13) dX7_printPart_4 (by decide) (fun _ => ?_) (fun q9 => absurd q9 c_3)
    refine ev_aload_n (j := 0) (x := (some a0)) dX7_printPart_13 rfl rfl ?_
    refine ev_aload_n (j := 1) (x := v1) dX7_printPart_14 rfl rfl ?_
    refine ev_at (st' := [va_rf (some a_1), va_rf (some a0)]) rfl (by rw [ea_1]) ?_
    refine ev_get (C := RX6) (T := TX6) (k := 2) inX6 (xE_7 c_2) rfl (by decide) wd_877 (Or.inl rfl) rfl dX7_printPart_15 ?_
    obtain ⟨a_4, ea_4, h⟩ := x_some_e h
    refine ev_at (st' := [va_rf (some a_4), va_rf (some a0)]) rfl (by rw [ea_4]) ?_
    obtain ⟨c_5, h⟩ := x_chk_e h
    refine ev_get (C := RX4) (T := TX4) (k := 0) inX4 (xE_5 c_5) rfl (by decide) wd_871 (Or.inl rfl) rfl dX7_printPart_18 ?_
    obtain ⟨c_9, h⟩ := x_chk_e h
    rcases x_bind_e h with ⟨v_6, σ_7, h_8, h⟩ | ⟨E_14, σ_7, h_8, h⟩
    · have z9 := x_call (M := mX7_printPart) (M' := mX7_putName) (pc := 21) (st := [.long (σ.J 400 a_4), va_rf (some a0)]) (rest := []) (av := [va_rf (some a0), .long (σ.J 400 a_4)]) (x_linkV (M := mX7_printPart) (M' := mX7_putName) (As := [.long (σ.J 400 a_4)]) (index := 70) (C := RX7) (T := TX7) (xE_8 c_9) rfl wd_873 wd_874 (wG_in (List.mem_append_left _ (List.mem_of_getElem? (i := 25) rfl)) rfl) xw_X7_putName rfl (by decide) rfl rfl dX7_printPart_21) (ev_X7_putName hO hP h_8) xw_X7_putName rfl wd_138 dX7_printPart_21 (by decide) (by decide) (by simp [x_cat, x_catI, x_catJ])
      refine x_callR z9 ?_
      refine ev_at (st' := []) rfl rfl ?_
      refine ev_aload_n (j := 1) (x := v1) dX7_printPart_24 rfl rfl ?_
      refine ev_at (st' := [va_rf (some a_1)]) rfl (by rw [ea_1]) ?_
      obtain ⟨c_10, h⟩ := x_chk_e h
      refine ev_get (C := RX6) (T := TX6) (k := 0) inX6 (xE_7 c_10) rfl (by decide) wd_878 (Or.inl rfl) rfl dX7_printPart_25 ?_
      by_cases c_11 : (σ_7.I 600 a_1) = 0
      · rw [if_pos c_11] at h
        refine ev_if_ne (x := (σ_7.I 600 a_1)) (tgt := 32) dX7_printPart_28 (by decide) (fun q9 => absurd c_11 q9) (fun _ => ?_)
        cases h
        exact ev_vret rfl dX7_printPart_31
      · rw [if_neg c_11] at h
        refine ev_if_ne (x := (σ_7.I 600 a_1)) (tgt := 32) dX7_printPart_28 (by decide) (fun _ => ?_) (fun q9 => absurd q9 c_11)
        refine ev_aload_n (j := 0) (x := (some a0)) dX7_printPart_32 rfl rfl ?_
        refine ev_aload_n (j := 0) (x := (some a0)) dX7_printPart_33 rfl rfl ?_
        obtain ⟨c_12, h⟩ := x_chk_e h
        refine ev_get (C := RX7) (T := TX7) (k := 0) inX7 (xE_8 c_12) rfl (by decide) wd_107 (Or.inl rfl) rfl dX7_printPart_34 ?_
        by_cases c_13 : (σ_7.I 700 a0) = 0
        · rw [if_pos c_13] at h
          refine ev_if_eq (x := (σ_7.I 700 a0)) (tgt := 45) dX7_printPart_37 (by decide) (fun _ => ?_) (fun q9 => absurd c_13 q9)
          refine ev_bipush (v := 46) dX7_printPart_45 (by decide) ?_
          exact ev_sub [0, 1] rfl (ev_X7_printPart_p47 hO hP h)
        · rw [if_neg c_13] at h
          refine ev_if_eq (x := (σ_7.I 700 a0)) (tgt := 45) dX7_printPart_37 (by decide) (fun q9 => absurd q9 c_13) (fun _ => ?_)
          refine ev_bipush (v := 91) dX7_printPart_40 (by decide) ?_
          refine ev_goto (tgt := 47) dX7_printPart_42 (by decide) ?_
          exact ev_sub [0, 1] rfl (ev_X7_printPart_p47 hO hP h)
    · have z9 := x_call (M := mX7_printPart) (M' := mX7_putName) (pc := 21) (st := [.long (σ.J 400 a_4), va_rf (some a0)]) (rest := []) (av := [va_rf (some a0), .long (σ.J 400 a_4)]) (x_linkV (M := mX7_printPart) (M' := mX7_putName) (As := [.long (σ.J 400 a_4)]) (index := 70) (C := RX7) (T := TX7) (xE_8 c_9) rfl wd_873 wd_874 (wG_in (List.mem_append_left _ (List.mem_of_getElem? (i := 25) rfl)) rfl) xw_X7_putName rfl (by decide) rfl rfl dX7_printPart_21) (ev_X7_putName hO hP h_8) xw_X7_putName rfl wd_138 dX7_printPart_21 (by decide) (by decide) (by simp [x_cat, x_catI, x_catJ])
      cases h
      exact x_callX z9 (evX_out rfl)
set_option maxHeartbeats 4000000 in
set_option maxRecDepth 100000 in
theorem ev_X1_pinName_p31 {l : Launch} {G : xG} (hO : x_OK l G) {P : xP} (hP : x_PG P G) {a0 : Nat} {s0 : Int64} {σ σ' : xS} {rr : Int64 ⊕ String} (h : dm_X1_pinName_p31 P a0 s0 σ = some (rr, σ')) : Ev l G mX1_pinName 31 [] [.long s0] σ (xrJ rr) σ' := by
  unfold dm_X1_pinName_p31 at h
  cases h
  exact ev_lret rfl dX1_pinName_31
set_option maxHeartbeats 4000000 in
set_option maxRecDepth 100000 in
theorem ev_X1_pinName {l : Launch} {G : xG} (hO : x_OK l G) {P : xP} (hP : x_PG P G) {a0 : Nat} {v1 : Int32} {σ σ' : xS} {rr : Int64 ⊕ String} (h : dm_X1_pinName P a0 v1 σ = some (rr, σ')) : EvM l G mX1_pinName [va_rf (some a0), .int v1] σ (xrJ rr) σ' := by
  unfold dm_X1_pinName at h
  refine evM_of hO (by decide +kernel) (x_lenI (by simp [x_cat, x_catI, x_catJ, mX1_pinName, xM.maxL])) ?_
  refine Eq.mp (congrArg (fun z => Ev l G mX1_pinName 0 z [] σ (xrJ rr) σ') (show [(0, va_rf (some a0)), (1, .int v1)] = lv_args 0 [va_rf (some a0), .int v1] by simp [lv_args, x_cat, x_catI, x_catJ])) ?_
  refine ev_aload_n (j := 0) (x := (some a0)) dX1_pinName_0 rfl rfl ?_
  obtain ⟨c_1, h⟩ := x_chk_e h
  refine ev_get (C := RX1) (T := TX1) (k := 6) inX1 (xE_2 c_1) rfl (by decide) wd_41 (Or.inl rfl) rfl dX1_pinName_1 ?_
  by_cases c_2 : (σ.R 106 a0) = none
  · rw [if_pos c_2] at h
    refine ev_ifnonnull (x := (σ.R 106 a0)) (tgt := 19) dX1_pinName_4 (by decide) (fun q9 => absurd c_2 q9) (fun _ => ?_)
    refine ev_aload_n (j := 0) (x := (some a0)) dX1_pinName_7 rfl rfl ?_
    refine ev_get (C := RX1) (T := TX1) (k := 4) inX1 (xE_2 c_1) rfl (by decide) wd_60 (Or.inl rfl) rfl dX1_pinName_8 ?_
    refine ev_iload_n (j := 1) (x := v1) dX1_pinName_11 rfl rfl ?_
    obtain ⟨a_9, ea_9, h⟩ := x_some_e h
    refine ev_at (st' := [.int v1, va_rf (some a_9)]) rfl (by rw [ea_9]) ?_
    obtain ⟨c_10, h⟩ := x_chk_e h
    refine ev_aald_25 c_10.1 c_10.2 dX1_pinName_12 ?_
    obtain ⟨a_11, ea_11, h⟩ := x_some_e h
    refine ev_at (st' := [va_rf (some a_11)]) rfl (by rw [ea_11]) ?_
    obtain ⟨c_12, h⟩ := x_chk_e h
    refine ev_get (C := RX2) (T := TX2) (k := 0) inX2 (xE_3 c_12) rfl (by decide) wd_65 (Or.inl rfl) rfl dX1_pinName_13 ?_
    refine ev_goto (tgt := 31) dX1_pinName_16 (by decide) ?_
    exact ev_sub [] rfl (ev_X1_pinName_p31 hO hP h)
  · rw [if_neg c_2] at h
    refine ev_ifnonnull (x := (σ.R 106 a0)) (tgt := 19) dX1_pinName_4 (by decide) (fun _ => ?_) (fun q9 => absurd q9 c_2)
    refine ev_aload_n (j := 0) (x := (some a0)) dX1_pinName_19 rfl rfl ?_
    refine ev_get (C := RX1) (T := TX1) (k := 6) inX1 (xE_2 c_1) rfl (by decide) wd_41 (Or.inl rfl) rfl dX1_pinName_20 ?_
    obtain ⟨a_3, ea_3, h⟩ := x_some_e h
    refine ev_at (st' := [va_rf (some a_3)]) rfl (by rw [ea_3]) ?_
    obtain ⟨c_4, h⟩ := x_chk_e h
    refine ev_get (C := RX5) (T := TX5) (k := 3) inX5 (xE_6 c_4) rfl (by decide) wd_63 (Or.inl rfl) rfl dX1_pinName_23 ?_
    refine ev_iload_n (j := 1) (x := v1) dX1_pinName_26 rfl rfl ?_
    obtain ⟨a_5, ea_5, h⟩ := x_some_e h
    refine ev_at (st' := [.int v1, va_rf (some a_5)]) rfl (by rw [ea_5]) ?_
    obtain ⟨c_6, h⟩ := x_chk_e h
    refine ev_aald_26 c_6.1 c_6.2 dX1_pinName_27 ?_
    obtain ⟨a_7, ea_7, h⟩ := x_some_e h
    refine ev_at (st' := [va_rf (some a_7)]) rfl (by rw [ea_7]) ?_
    obtain ⟨c_8, h⟩ := x_chk_e h
    refine ev_get (C := RX4) (T := TX4) (k := 0) inX4 (xE_5 c_8) rfl (by decide) wd_67 (Or.inl rfl) rfl dX1_pinName_28 ?_
    exact ev_sub [] rfl (ev_X1_pinName_p31 hO hP h)
set_option maxHeartbeats 4000000 in
set_option maxRecDepth 100000 in
theorem ev_X7_printNamedLink_p26 {l : Launch} {G : xG} (hO : x_OK l G) {P : xP} (hP : x_PG P G) {a0 : Nat} {σ σ' : xS} {rr : Unit ⊕ String} (h : dm_X7_printNamedLink_p26 P a0 σ = some (rr, σ')) : Ev l G mX7_printNamedLink 26 [(0, va_rf (some a0))] [] σ (xrV rr) σ' := by
  unfold dm_X7_printNamedLink_p26 at h
  refine ev_aload_n (j := 0) (x := (some a0)) dX7_printNamedLink_26 rfl rfl ?_
  refine ev_bipush (v := 41) dX7_printNamedLink_27 (by decide) ?_
  obtain ⟨c_4, h⟩ := x_chk_e h
  rcases x_bind_e h with ⟨v_1, σ_2, h_3, h⟩ | ⟨E_5, σ_2, h_3, h⟩
  · have z9 := x_call (M := mX7_printNamedLink) (M' := mX7_put) (pc := 29) (st := [.int 41, va_rf (some a0)]) (rest := []) (av := [va_rf (some a0), .int 41]) (x_linkV (M := mX7_printNamedLink) (M' := mX7_put) (As := [.int 41]) (index := 38) (C := RX7) (T := TX7) (xE_8 c_4) rfl wd_860 wd_861 (wG_in (List.mem_append_left _ (List.mem_of_getElem? (i := 24) rfl)) rfl) xw_X7_put rfl (by decide) rfl rfl dX7_printNamedLink_29) (ev_X7_put hO hP h_3) xw_X7_put rfl wd_138 dX7_printNamedLink_29 (by decide) (by decide) (by simp [x_cat, x_catI, x_catJ])
    refine x_callR z9 ?_
    refine ev_at (st' := []) rfl rfl ?_
    cases h
    exact ev_vret rfl dX7_printNamedLink_32
  · have z9 := x_call (M := mX7_printNamedLink) (M' := mX7_put) (pc := 29) (st := [.int 41, va_rf (some a0)]) (rest := []) (av := [va_rf (some a0), .int 41]) (x_linkV (M := mX7_printNamedLink) (M' := mX7_put) (As := [.int 41]) (index := 38) (C := RX7) (T := TX7) (xE_8 c_4) rfl wd_860 wd_861 (wG_in (List.mem_append_left _ (List.mem_of_getElem? (i := 24) rfl)) rfl) xw_X7_put rfl (by decide) rfl rfl dX7_printNamedLink_29) (ev_X7_put hO hP h_3) xw_X7_put rfl wd_138 dX7_printNamedLink_29 (by decide) (by decide) (by simp [x_cat, x_catI, x_catJ])
    cases h
    exact x_callX z9 (evX_out rfl)
set_option maxHeartbeats 4000000 in
set_option maxRecDepth 100000 in
theorem ev_X7_printNamedLink {l : Launch} {G : xG} (hO : x_OK l G) {P : xP} (hP : x_PG P G) {a0 : Nat} {v1 : Int64} {v3 : Option Nat} {σ σ' : xS} {rr : Unit ⊕ String} (h : dm_X7_printNamedLink P a0 v1 v3 σ = some (rr, σ')) : EvM l G mX7_printNamedLink [va_rf (some a0), .long v1, va_rf v3] σ (xrV rr) σ' := by
  unfold dm_X7_printNamedLink at h
  refine evM_of hO (by decide +kernel) (x_lenI (by simp [x_cat, x_catI, x_catJ, mX7_printNamedLink, xM.maxL])) ?_
  refine Eq.mp (congrArg (fun z => Ev l G mX7_printNamedLink 0 z [] σ (xrV rr) σ') (show [(0, va_rf (some a0)), (1, .long v1), (3, va_rf v3)] = lv_args 0 [va_rf (some a0), .long v1, va_rf v3] by simp [lv_args, x_cat, x_catI, x_catJ])) ?_
  refine ev_aload_n (j := 0) (x := (some a0)) dX7_printNamedLink_0 rfl rfl ?_
  refine ev_bipush (v := 46) dX7_printNamedLink_1 (by decide) ?_
  obtain ⟨c_4, h⟩ := x_chk_e h
  rcases x_bind_e h with ⟨v_1, σ_2, h_3, h⟩ | ⟨E_21, σ_2, h_3, h⟩
  · have z9 := x_call (M := mX7_printNamedLink) (M' := mX7_put) (pc := 3) (st := [.int 46, va_rf (some a0)]) (rest := []) (av := [va_rf (some a0), .int 46]) (x_linkV (M := mX7_printNamedLink) (M' := mX7_put) (As := [.int 46]) (index := 38) (C := RX7) (T := TX7) (xE_8 c_4) rfl wd_860 wd_861 (wG_in (List.mem_append_left _ (List.mem_of_getElem? (i := 24) rfl)) rfl) xw_X7_put rfl (by decide) rfl rfl dX7_printNamedLink_3) (ev_X7_put hO hP h_3) xw_X7_put rfl wd_138 dX7_printNamedLink_3 (by decide) (by decide) (by simp [x_cat, x_catI, x_catJ])
    refine x_callR z9 ?_
    refine ev_at (st' := []) rfl rfl ?_
    refine ev_aload_n (j := 0) (x := (some a0)) dX7_printNamedLink_6 rfl rfl ?_
    refine ev_lload_n (j := 1) (x := v1) dX7_printNamedLink_7 rfl rfl ?_
    obtain ⟨c_8, h⟩ := x_chk_e h
    rcases x_bind_e h with ⟨v_5, σ_6, h_7, h⟩ | ⟨E_20, σ_6, h_7, h⟩
    · have z9 := x_call (M := mX7_printNamedLink) (M' := mX7_putName) (pc := 8) (st := [.long v1, va_rf (some a0)]) (rest := []) (av := [va_rf (some a0), .long v1]) (x_linkV (M := mX7_printNamedLink) (M' := mX7_putName) (As := [.long v1]) (index := 70) (C := RX7) (T := TX7) (xE_8 c_8) rfl wd_873 wd_874 (wG_in (List.mem_append_left _ (List.mem_of_getElem? (i := 25) rfl)) rfl) xw_X7_putName rfl (by decide) rfl rfl dX7_printNamedLink_8) (ev_X7_putName hO hP h_7) xw_X7_putName rfl wd_138 dX7_printNamedLink_8 (by decide) (by decide) (by simp [x_cat, x_catI, x_catJ])
      refine x_callR z9 ?_
      refine ev_at (st' := []) rfl rfl ?_
      refine ev_aload_n (j := 0) (x := (some a0)) dX7_printNamedLink_11 rfl rfl ?_
      refine ev_bipush (v := 40) dX7_printNamedLink_12 (by decide) ?_
      obtain ⟨c_12, h⟩ := x_chk_e h
      rcases x_bind_e h with ⟨v_9, σ_10, h_11, h⟩ | ⟨E_19, σ_10, h_11, h⟩
      · have z9 := x_call (M := mX7_printNamedLink) (M' := mX7_put) (pc := 14) (st := [.int 40, va_rf (some a0)]) (rest := []) (av := [va_rf (some a0), .int 40]) (x_linkV (M := mX7_printNamedLink) (M' := mX7_put) (As := [.int 40]) (index := 38) (C := RX7) (T := TX7) (xE_8 c_12) rfl wd_860 wd_861 (wG_in (List.mem_append_left _ (List.mem_of_getElem? (i := 24) rfl)) rfl) xw_X7_put rfl (by decide) rfl rfl dX7_printNamedLink_14) (ev_X7_put hO hP h_11) xw_X7_put rfl wd_138 dX7_printNamedLink_14 (by decide) (by decide) (by simp [x_cat, x_catI, x_catJ])
        refine x_callR z9 ?_
        refine ev_at (st' := []) rfl rfl ?_
        refine ev_aload_n (j := 2) (x := v3) dX7_printNamedLink_17 rfl rfl ?_
        by_cases c_13 : v3 = none
        · rw [if_pos c_13] at h
          refine ev_ifnull (x := v3) (tgt := 26) dX7_printNamedLink_18 (by decide) (fun _ => ?_) (fun q9 => absurd c_13 q9)
          exact ev_sub [0] rfl (ev_X7_printNamedLink_p26 hO hP h)
        · rw [if_neg c_13] at h
          refine ev_ifnull (x := v3) (tgt := 26) dX7_printNamedLink_18 (by decide) (fun q9 => absurd q9 c_13) (fun _ => ?_)
          refine ev_aload_n (j := 0) (x := (some a0)) dX7_printNamedLink_21 rfl rfl ?_
          refine ev_aload_n (j := 2) (x := v3) dX7_printNamedLink_22 rfl rfl ?_
          obtain ⟨c_17, h⟩ := x_chk_e h
          rcases x_bind_e h with ⟨v_14, σ_15, h_16, h⟩ | ⟨E_18, σ_15, h_16, h⟩
          · have z9 := x_call (M := mX7_printNamedLink) (M' := mX7_printPart) (pc := 23) (st := [va_rf v3, va_rf (some a0)]) (rest := []) (av := [va_rf (some a0), va_rf v3]) (x_linkV (M := mX7_printNamedLink) (M' := mX7_printPart) (As := [va_rf v3]) (index := 106) (C := RX7) (T := TX7) (xE_8 c_17) rfl wd_885 wd_886 (wG_in (List.mem_append_left _ (List.mem_of_getElem? (i := 28) rfl)) rfl) xw_X7_printPart rfl (by decide) rfl rfl dX7_printNamedLink_23) (ev_X7_printPart hO hP h_16) xw_X7_printPart rfl wd_138 dX7_printNamedLink_23 (by decide) (by decide) (by simp [x_cat, x_catI, x_catJ])
            refine x_callR z9 ?_
            refine ev_at (st' := []) rfl rfl ?_
            exact ev_sub [0] rfl (ev_X7_printNamedLink_p26 hO hP h)
          · have z9 := x_call (M := mX7_printNamedLink) (M' := mX7_printPart) (pc := 23) (st := [va_rf v3, va_rf (some a0)]) (rest := []) (av := [va_rf (some a0), va_rf v3]) (x_linkV (M := mX7_printNamedLink) (M' := mX7_printPart) (As := [va_rf v3]) (index := 106) (C := RX7) (T := TX7) (xE_8 c_17) rfl wd_885 wd_886 (wG_in (List.mem_append_left _ (List.mem_of_getElem? (i := 28) rfl)) rfl) xw_X7_printPart rfl (by decide) rfl rfl dX7_printNamedLink_23) (ev_X7_printPart hO hP h_16) xw_X7_printPart rfl wd_138 dX7_printNamedLink_23 (by decide) (by decide) (by simp [x_cat, x_catI, x_catJ])
            cases h
            exact x_callX z9 (evX_out rfl)
      · have z9 := x_call (M := mX7_printNamedLink) (M' := mX7_put) (pc := 14) (st := [.int 40, va_rf (some a0)]) (rest := []) (av := [va_rf (some a0), .int 40]) (x_linkV (M := mX7_printNamedLink) (M' := mX7_put) (As := [.int 40]) (index := 38) (C := RX7) (T := TX7) (xE_8 c_12) rfl wd_860 wd_861 (wG_in (List.mem_append_left _ (List.mem_of_getElem? (i := 24) rfl)) rfl) xw_X7_put rfl (by decide) rfl rfl dX7_printNamedLink_14) (ev_X7_put hO hP h_11) xw_X7_put rfl wd_138 dX7_printNamedLink_14 (by decide) (by decide) (by simp [x_cat, x_catI, x_catJ])
        cases h
        exact x_callX z9 (evX_out rfl)
    · have z9 := x_call (M := mX7_printNamedLink) (M' := mX7_putName) (pc := 8) (st := [.long v1, va_rf (some a0)]) (rest := []) (av := [va_rf (some a0), .long v1]) (x_linkV (M := mX7_printNamedLink) (M' := mX7_putName) (As := [.long v1]) (index := 70) (C := RX7) (T := TX7) (xE_8 c_8) rfl wd_873 wd_874 (wG_in (List.mem_append_left _ (List.mem_of_getElem? (i := 25) rfl)) rfl) xw_X7_putName rfl (by decide) rfl rfl dX7_printNamedLink_8) (ev_X7_putName hO hP h_7) xw_X7_putName rfl wd_138 dX7_printNamedLink_8 (by decide) (by decide) (by simp [x_cat, x_catI, x_catJ])
      cases h
      exact x_callX z9 (evX_out rfl)
  · have z9 := x_call (M := mX7_printNamedLink) (M' := mX7_put) (pc := 3) (st := [.int 46, va_rf (some a0)]) (rest := []) (av := [va_rf (some a0), .int 46]) (x_linkV (M := mX7_printNamedLink) (M' := mX7_put) (As := [.int 46]) (index := 38) (C := RX7) (T := TX7) (xE_8 c_4) rfl wd_860 wd_861 (wG_in (List.mem_append_left _ (List.mem_of_getElem? (i := 24) rfl)) rfl) xw_X7_put rfl (by decide) rfl rfl dX7_printNamedLink_3) (ev_X7_put hO hP h_3) xw_X7_put rfl wd_138 dX7_printNamedLink_3 (by decide) (by decide) (by simp [x_cat, x_catI, x_catJ])
    cases h
    exact x_callX z9 (evX_out rfl)
set_option maxHeartbeats 4000000 in
set_option maxRecDepth 100000 in
theorem ev_X7_printOrderedLink_p18 {l : Launch} {G : xG} (hO : x_OK l G) {P : xP} (hP : x_PG P G) {a0 : Nat} {σ σ' : xS} {rr : Unit ⊕ String} (h : dm_X7_printOrderedLink_p18 P a0 σ = some (rr, σ')) : Ev l G mX7_printOrderedLink 18 [] [] σ (xrV rr) σ' := by
  unfold dm_X7_printOrderedLink_p18 at h
  cases h
  exact ev_vret rfl dX7_printOrderedLink_18
set_option maxHeartbeats 4000000 in
set_option maxRecDepth 100000 in
theorem ev_X7_printOrderedLink {l : Launch} {G : xG} (hO : x_OK l G) {P : xP} (hP : x_PG P G) {a0 : Nat} {v1 : Option Nat} {σ σ' : xS} {rr : Unit ⊕ String} (h : dm_X7_printOrderedLink P a0 v1 σ = some (rr, σ')) : EvM l G mX7_printOrderedLink [va_rf (some a0), va_rf v1] σ (xrV rr) σ' := by
  unfold dm_X7_printOrderedLink at h
  refine evM_of hO (by decide +kernel) (x_lenI (by simp [x_cat, x_catI, x_catJ, mX7_printOrderedLink, xM.maxL])) ?_
  refine Eq.mp (congrArg (fun z => Ev l G mX7_printOrderedLink 0 z [] σ (xrV rr) σ') (show [(0, va_rf (some a0)), (1, va_rf v1)] = lv_args 0 [va_rf (some a0), va_rf v1] by simp [lv_args, x_cat, x_catI, x_catJ])) ?_
  refine ev_aload_n (j := 1) (x := v1) dX7_printOrderedLink_0 rfl rfl ?_
  by_cases c_1 : v1 = none
  · rw [if_pos c_1] at h
    refine ev_ifnonnull (x := v1) (tgt := 13) dX7_printOrderedLink_1 (by decide) (fun q9 => absurd c_1 q9) (fun _ => ?_)
    refine ev_aload_n (j := 0) (x := (some a0)) dX7_printOrderedLink_4 rfl rfl ?_
    refine ev_bipush (v := 45) dX7_printOrderedLink_5 (by decide) ?_
    obtain ⟨c_10, h⟩ := x_chk_e h
    rcases x_bind_e h with ⟨v_7, σ_8, h_9, h⟩ | ⟨E_11, σ_8, h_9, h⟩
    · have z9 := x_call (M := mX7_printOrderedLink) (M' := mX7_put) (pc := 7) (st := [.int 45, va_rf (some a0)]) (rest := []) (av := [va_rf (some a0), .int 45]) (x_linkV (M := mX7_printOrderedLink) (M' := mX7_put) (As := [.int 45]) (index := 38) (C := RX7) (T := TX7) (xE_8 c_10) rfl wd_860 wd_861 (wG_in (List.mem_append_left _ (List.mem_of_getElem? (i := 24) rfl)) rfl) xw_X7_put rfl (by decide) rfl rfl dX7_printOrderedLink_7) (ev_X7_put hO hP h_9) xw_X7_put rfl wd_138 dX7_printOrderedLink_7 (by decide) (by decide) (by simp [x_cat, x_catI, x_catJ])
      refine x_callR z9 ?_
      refine ev_at (st' := []) rfl rfl ?_
      refine ev_goto (tgt := 18) dX7_printOrderedLink_10 (by decide) ?_
      exact ev_sub [] rfl (ev_X7_printOrderedLink_p18 hO hP h)
    · have z9 := x_call (M := mX7_printOrderedLink) (M' := mX7_put) (pc := 7) (st := [.int 45, va_rf (some a0)]) (rest := []) (av := [va_rf (some a0), .int 45]) (x_linkV (M := mX7_printOrderedLink) (M' := mX7_put) (As := [.int 45]) (index := 38) (C := RX7) (T := TX7) (xE_8 c_10) rfl wd_860 wd_861 (wG_in (List.mem_append_left _ (List.mem_of_getElem? (i := 24) rfl)) rfl) xw_X7_put rfl (by decide) rfl rfl dX7_printOrderedLink_7) (ev_X7_put hO hP h_9) xw_X7_put rfl wd_138 dX7_printOrderedLink_7 (by decide) (by decide) (by simp [x_cat, x_catI, x_catJ])
      cases h
      exact x_callX z9 (evX_out rfl)
  · rw [if_neg c_1] at h
    refine ev_ifnonnull (x := v1) (tgt := 13) dX7_printOrderedLink_1 (by decide) (fun _ => ?_) (fun q9 => absurd q9 c_1)
    refine ev_aload_n (j := 0) (x := (some a0)) dX7_printOrderedLink_13 rfl rfl ?_
    refine ev_aload_n (j := 1) (x := v1) dX7_printOrderedLink_14 rfl rfl ?_
    obtain ⟨c_5, h⟩ := x_chk_e h
    rcases x_bind_e h with ⟨v_2, σ_3, h_4, h⟩ | ⟨E_6, σ_3, h_4, h⟩
    · have z9 := x_call (M := mX7_printOrderedLink) (M' := mX7_printPart) (pc := 15) (st := [va_rf v1, va_rf (some a0)]) (rest := []) (av := [va_rf (some a0), va_rf v1]) (x_linkV (M := mX7_printOrderedLink) (M' := mX7_printPart) (As := [va_rf v1]) (index := 106) (C := RX7) (T := TX7) (xE_8 c_5) rfl wd_885 wd_886 (wG_in (List.mem_append_left _ (List.mem_of_getElem? (i := 28) rfl)) rfl) xw_X7_printPart rfl (by decide) rfl rfl dX7_printOrderedLink_15) (ev_X7_printPart hO hP h_4) xw_X7_printPart rfl wd_138 dX7_printOrderedLink_15 (by decide) (by decide) (by simp [x_cat, x_catI, x_catJ])
      refine x_callR z9 ?_
      refine ev_at (st' := []) rfl rfl ?_
      exact ev_sub [] rfl (ev_X7_printOrderedLink_p18 hO hP h)
    · have z9 := x_call (M := mX7_printOrderedLink) (M' := mX7_printPart) (pc := 15) (st := [va_rf v1, va_rf (some a0)]) (rest := []) (av := [va_rf (some a0), va_rf v1]) (x_linkV (M := mX7_printOrderedLink) (M' := mX7_printPart) (As := [va_rf v1]) (index := 106) (C := RX7) (T := TX7) (xE_8 c_5) rfl wd_885 wd_886 (wG_in (List.mem_append_left _ (List.mem_of_getElem? (i := 28) rfl)) rfl) xw_X7_printPart rfl (by decide) rfl rfl dX7_printOrderedLink_15) (ev_X7_printPart hO hP h_4) xw_X7_printPart rfl wd_138 dX7_printOrderedLink_15 (by decide) (by decide) (by simp [x_cat, x_catI, x_catJ])
      cases h
      exact x_callX z9 (evX_out rfl)
set_option maxHeartbeats 4000000 in
set_option maxRecDepth 100000 in
theorem ev_X7_printLongInstance_p103 {l : Launch} {G : xG} (hO : x_OK l G) {P : xP} (hP : x_PG P G) {a0 : Nat} {k50 : Option Nat → Int32 → Int32 → xS → xO Unit} (hk50 : ∀ {v1 : Option Nat} {v2 : Int32} {v3 : Int32} {σ σ' : xS} {rr : Unit ⊕ String}, k50 v1 v2 v3 σ = some (rr, σ') → Ev l G mX7_printLongInstance 50 [(0, va_rf (some a0)), (1, va_rf v1), (2, .int v2), (3, .int v3)] [] σ (xrV rr) σ') {v1 : Option Nat} {v2 : Int32} {v3 : Int32} {σ σ' : xS} {rr : Unit ⊕ String} (h : dm_X7_printLongInstance_p103 P k50 a0 v1 v2 v3 σ = some (rr, σ')) : Ev l G mX7_printLongInstance 103 [(0, va_rf (some a0)), (1, va_rf v1), (2, .int v2), (3, .int v3)] [] σ (xrV rr) σ' := by
  unfold dm_X7_printLongInstance_p103 at h
  obtain ⟨v_1, ev_1, h⟩ := x_let_e h
  refine ev_iinc (j := 3) (x := v3) (v := v_1) (lv' := [(3, .int v_1), (0, va_rf (some a0)), (1, va_rf v1), (2, .int v2)]) dX7_printLongInstance_103 rfl (by rw [ev_1]; rfl) (by decide) rfl ?_
  refine ev_goto (tgt := 50) dX7_printLongInstance_106 (by decide) ?_
  exact ev_sub [1, 2, 3, 0] rfl (hk50 h)
set_option maxHeartbeats 4000000 in
set_option maxRecDepth 100000 in
theorem ev_X7_printLongInstance_p70 {l : Launch} {G : xG} (hO : x_OK l G) {P : xP} (hP : x_PG P G) {a0 : Nat} {k50 : Option Nat → Int32 → Int32 → xS → xO Unit} (hk50 : ∀ {v1 : Option Nat} {v2 : Int32} {v3 : Int32} {σ σ' : xS} {rr : Unit ⊕ String}, k50 v1 v2 v3 σ = some (rr, σ') → Ev l G mX7_printLongInstance 50 [(0, va_rf (some a0)), (1, va_rf v1), (2, .int v2), (3, .int v3)] [] σ (xrV rr) σ') {v1 : Option Nat} {v2 : Int32} {v3 : Int32} {s0 : Option Nat} {s1 : Option Nat} {σ σ' : xS} {rr : Unit ⊕ String} (h : dm_X7_printLongInstance_p70 P k50 a0 v1 v2 v3 s0 s1 σ = some (rr, σ')) : Ev l G mX7_printLongInstance 70 [(0, va_rf (some a0)), (1, va_rf v1), (2, .int v2), (3, .int v3)] [va_rf s1, va_rf s0] σ (xrV rr) σ' := by
  unfold dm_X7_printLongInstance_p70 at h
  obtain ⟨a_1, ea_1, h⟩ := x_some_e h
  refine ev_at (st' := [va_rf s1, va_rf (some a_1)]) rfl (by rw [ea_1]) ?_
  obtain ⟨c_5, h⟩ := x_chk_e h
  rcases x_bind_e h with ⟨v_2, σ_3, h_4, h⟩ | ⟨E_34, σ_3, h_4, h⟩
  · have z9 := x_call (M := mX7_printLongInstance) (M' := mX7_putText) (pc := 70) (st := [va_rf s1, va_rf (some a_1)]) (rest := []) (av := [va_rf (some a_1), va_rf s1]) (x_linkV (M := mX7_printLongInstance) (M' := mX7_putText) (As := [va_rf s1]) (index := 60) (C := RX7) (T := TX7) (xE_8 c_5) rfl wd_865 wd_866 (wG_in (List.mem_append_left _ (List.mem_of_getElem? (i := 23) rfl)) rfl) xw_X7_putText rfl (by decide) rfl rfl dX7_printLongInstance_70) (ev_X7_putText hO hP h_4) xw_X7_putText rfl wd_138 dX7_printLongInstance_70 (by decide) (by decide) (by simp [x_cat, x_catI, x_catJ])
    refine x_callR z9 ?_
    refine ev_at (st' := []) rfl rfl ?_
    refine ev_iload_n (j := 2) (x := v2) dX7_printLongInstance_73 rfl rfl ?_
    by_cases c_6 : v2 = 0
    · rw [if_pos c_6] at h
      refine ev_if_eq (x := v2) (tgt := 94) dX7_printLongInstance_74 (by decide) (fun _ => ?_) (fun q9 => absurd c_6 q9)
      refine ev_aload_n (j := 0) (x := (some a0)) dX7_printLongInstance_94 rfl rfl ?_
      refine ev_aload_n (j := 1) (x := v1) dX7_printLongInstance_95 rfl rfl ?_
      refine ev_iload_n (j := 3) (x := v3) dX7_printLongInstance_96 rfl rfl ?_
      obtain ⟨a_7, ea_7, h⟩ := x_some_e h
      refine ev_at (st' := [.int v3, va_rf (some a_7), va_rf (some a0)]) rfl (by rw [ea_7]) ?_
      obtain ⟨c_11, h⟩ := x_chk_e h
      rcases x_bind_e h with ⟨v_8, σ_9, h_10, h⟩ | ⟨E_17, σ_9, h_10, h⟩
      · have z9 := x_call (M := mX7_printLongInstance) (M' := mX1_partAt) (pc := 97) (st := [.int v3, va_rf (some a_7), va_rf (some a0)]) (rest := [va_rf (some a0)]) (av := [va_rf (some a_7), .int v3]) (x_linkV (M := mX7_printLongInstance) (M' := mX1_partAt) (As := [.int v3]) (index := 166) (C := RX1) (T := TX1) (xE_2 c_11) rfl wd_892 wd_79 wd_77 xw_X1_partAt rfl (by decide) rfl rfl dX7_printLongInstance_97) (ev_X1_partAt hO hP h_10) xw_X1_partAt rfl wd_53 dX7_printLongInstance_97 (by decide) (by decide) (by simp [x_cat, x_catI, x_catJ])
        refine x_callR z9 ?_
        refine ev_at (st' := [va_rf v_8, va_rf (some a0)]) rfl rfl ?_
        obtain ⟨c_15, h⟩ := x_chk_e h
        rcases x_bind_e h with ⟨v_12, σ_13, h_14, h⟩ | ⟨E_16, σ_13, h_14, h⟩
        · have z9 := x_call (M := mX7_printLongInstance) (M' := mX7_printOrderedLink) (pc := 100) (st := [va_rf v_8, va_rf (some a0)]) (rest := []) (av := [va_rf (some a0), va_rf v_8]) (x_linkV (M := mX7_printLongInstance) (M' := mX7_printOrderedLink) (As := [va_rf v_8]) (index := 174) (C := RX7) (T := TX7) (xE_8 c_15) rfl wd_894 wd_895 (wG_in (List.mem_append_left _ (List.mem_of_getElem? (i := 32) rfl)) rfl) xw_X7_printOrderedLink rfl (by decide) rfl rfl dX7_printLongInstance_100) (ev_X7_printOrderedLink hO hP h_14) xw_X7_printOrderedLink rfl wd_138 dX7_printLongInstance_100 (by decide) (by decide) (by simp [x_cat, x_catI, x_catJ])
          refine x_callR z9 ?_
          refine ev_at (st' := []) rfl rfl ?_
          exact ev_sub [0, 1, 2, 3] rfl (ev_X7_printLongInstance_p103 hO hP hk50 h)
        · have z9 := x_call (M := mX7_printLongInstance) (M' := mX7_printOrderedLink) (pc := 100) (st := [va_rf v_8, va_rf (some a0)]) (rest := []) (av := [va_rf (some a0), va_rf v_8]) (x_linkV (M := mX7_printLongInstance) (M' := mX7_printOrderedLink) (As := [va_rf v_8]) (index := 174) (C := RX7) (T := TX7) (xE_8 c_15) rfl wd_894 wd_895 (wG_in (List.mem_append_left _ (List.mem_of_getElem? (i := 32) rfl)) rfl) xw_X7_printOrderedLink rfl (by decide) rfl rfl dX7_printLongInstance_100) (ev_X7_printOrderedLink hO hP h_14) xw_X7_printOrderedLink rfl wd_138 dX7_printLongInstance_100 (by decide) (by decide) (by simp [x_cat, x_catI, x_catJ])
          cases h
          exact x_callX z9 (evX_out rfl)
      · have z9 := x_call (M := mX7_printLongInstance) (M' := mX1_partAt) (pc := 97) (st := [.int v3, va_rf (some a_7), va_rf (some a0)]) (rest := [va_rf (some a0)]) (av := [va_rf (some a_7), .int v3]) (x_linkV (M := mX7_printLongInstance) (M' := mX1_partAt) (As := [.int v3]) (index := 166) (C := RX1) (T := TX1) (xE_2 c_11) rfl wd_892 wd_79 wd_77 xw_X1_partAt rfl (by decide) rfl rfl dX7_printLongInstance_97) (ev_X1_partAt hO hP h_10) xw_X1_partAt rfl wd_53 dX7_printLongInstance_97 (by decide) (by decide) (by simp [x_cat, x_catI, x_catJ])
        cases h
        exact x_callX z9 (evX_out rfl)
    · rw [if_neg c_6] at h
      refine ev_if_eq (x := v2) (tgt := 94) dX7_printLongInstance_74 (by decide) (fun q9 => absurd q9 c_6) (fun _ => ?_)
      refine ev_aload_n (j := 0) (x := (some a0)) dX7_printLongInstance_77 rfl rfl ?_
      refine ev_aload_n (j := 1) (x := v1) dX7_printLongInstance_78 rfl rfl ?_
      refine ev_iload_n (j := 3) (x := v3) dX7_printLongInstance_79 rfl rfl ?_
      obtain ⟨a_18, ea_18, h⟩ := x_some_e h
      refine ev_at (st' := [.int v3, va_rf (some a_18), va_rf (some a0)]) rfl (by rw [ea_18]) ?_
      obtain ⟨c_22, h⟩ := x_chk_e h
      rcases x_bind_e h with ⟨v_19, σ_20, h_21, h⟩ | ⟨E_33, σ_20, h_21, h⟩
      · have z9 := x_call (M := mX7_printLongInstance) (M' := mX1_pinName) (pc := 80) (st := [.int v3, va_rf (some a_18), va_rf (some a0)]) (rest := [va_rf (some a0)]) (av := [va_rf (some a_18), .int v3]) (x_linkV (M := mX7_printLongInstance) (M' := mX1_pinName) (As := [.int v3]) (index := 162) (C := RX1) (T := TX1) (xE_2 c_22) rfl wd_898 wd_899 wd_897 xw_X1_pinName rfl (by decide) rfl rfl dX7_printLongInstance_80) (ev_X1_pinName hO hP h_21) xw_X1_pinName rfl wd_53 dX7_printLongInstance_80 (by decide) (by decide) (by simp [x_cat, x_catI, x_catJ])
        refine x_callR z9 ?_
        refine ev_at (st' := [.long v_19, va_rf (some a0)]) rfl rfl ?_
        refine ev_aload_n (j := 1) (x := v1) dX7_printLongInstance_83 rfl rfl ?_
        refine ev_iload_n (j := 3) (x := v3) dX7_printLongInstance_84 rfl rfl ?_
        refine ev_at (st' := [.int v3, va_rf (some a_18), .long v_19, va_rf (some a0)]) rfl (by rw [ea_18]) ?_
        obtain ⟨c_26, h⟩ := x_chk_e h
        rcases x_bind_e h with ⟨v_23, σ_24, h_25, h⟩ | ⟨E_32, σ_24, h_25, h⟩
        · have z9 := x_call (M := mX7_printLongInstance) (M' := mX1_partAt) (pc := 85) (st := [.int v3, va_rf (some a_18), .long v_19, va_rf (some a0)]) (rest := [.long v_19, va_rf (some a0)]) (av := [va_rf (some a_18), .int v3]) (x_linkV (M := mX7_printLongInstance) (M' := mX1_partAt) (As := [.int v3]) (index := 166) (C := RX1) (T := TX1) (xE_2 c_26) rfl wd_892 wd_79 wd_77 xw_X1_partAt rfl (by decide) rfl rfl dX7_printLongInstance_85) (ev_X1_partAt hO hP h_25) xw_X1_partAt rfl wd_53 dX7_printLongInstance_85 (by decide) (by decide) (by simp [x_cat, x_catI, x_catJ])
          refine x_callR z9 ?_
          refine ev_at (st' := [va_rf v_23, .long v_19, va_rf (some a0)]) rfl rfl ?_
          obtain ⟨c_30, h⟩ := x_chk_e h
          rcases x_bind_e h with ⟨v_27, σ_28, h_29, h⟩ | ⟨E_31, σ_28, h_29, h⟩
          · have z9 := x_call (M := mX7_printLongInstance) (M' := mX7_printNamedLink) (pc := 88) (st := [va_rf v_23, .long v_19, va_rf (some a0)]) (rest := []) (av := [va_rf (some a0), .long v_19, va_rf v_23]) (x_linkV (M := mX7_printLongInstance) (M' := mX7_printNamedLink) (As := [.long v_19, va_rf v_23]) (index := 170) (C := RX7) (T := TX7) (xE_8 c_30) rfl wd_901 wd_902 (wG_in (List.mem_append_left _ (List.mem_of_getElem? (i := 31) rfl)) rfl) xw_X7_printNamedLink rfl (by decide) rfl rfl dX7_printLongInstance_88) (ev_X7_printNamedLink hO hP h_29) xw_X7_printNamedLink rfl wd_138 dX7_printLongInstance_88 (by decide) (by decide) (by simp [x_cat, x_catI, x_catJ])
            refine x_callR z9 ?_
            refine ev_at (st' := []) rfl rfl ?_
            refine ev_goto (tgt := 103) dX7_printLongInstance_91 (by decide) ?_
            exact ev_sub [0, 1, 2, 3] rfl (ev_X7_printLongInstance_p103 hO hP hk50 h)
          · have z9 := x_call (M := mX7_printLongInstance) (M' := mX7_printNamedLink) (pc := 88) (st := [va_rf v_23, .long v_19, va_rf (some a0)]) (rest := []) (av := [va_rf (some a0), .long v_19, va_rf v_23]) (x_linkV (M := mX7_printLongInstance) (M' := mX7_printNamedLink) (As := [.long v_19, va_rf v_23]) (index := 170) (C := RX7) (T := TX7) (xE_8 c_30) rfl wd_901 wd_902 (wG_in (List.mem_append_left _ (List.mem_of_getElem? (i := 31) rfl)) rfl) xw_X7_printNamedLink rfl (by decide) rfl rfl dX7_printLongInstance_88) (ev_X7_printNamedLink hO hP h_29) xw_X7_printNamedLink rfl wd_138 dX7_printLongInstance_88 (by decide) (by decide) (by simp [x_cat, x_catI, x_catJ])
            cases h
            exact x_callX z9 (evX_out rfl)
        · have z9 := x_call (M := mX7_printLongInstance) (M' := mX1_partAt) (pc := 85) (st := [.int v3, va_rf (some a_18), .long v_19, va_rf (some a0)]) (rest := [.long v_19, va_rf (some a0)]) (av := [va_rf (some a_18), .int v3]) (x_linkV (M := mX7_printLongInstance) (M' := mX1_partAt) (As := [.int v3]) (index := 166) (C := RX1) (T := TX1) (xE_2 c_26) rfl wd_892 wd_79 wd_77 xw_X1_partAt rfl (by decide) rfl rfl dX7_printLongInstance_85) (ev_X1_partAt hO hP h_25) xw_X1_partAt rfl wd_53 dX7_printLongInstance_85 (by decide) (by decide) (by simp [x_cat, x_catI, x_catJ])
          cases h
          exact x_callX z9 (evX_out rfl)
      · have z9 := x_call (M := mX7_printLongInstance) (M' := mX1_pinName) (pc := 80) (st := [.int v3, va_rf (some a_18), va_rf (some a0)]) (rest := [va_rf (some a0)]) (av := [va_rf (some a_18), .int v3]) (x_linkV (M := mX7_printLongInstance) (M' := mX1_pinName) (As := [.int v3]) (index := 162) (C := RX1) (T := TX1) (xE_2 c_22) rfl wd_898 wd_899 wd_897 xw_X1_pinName rfl (by decide) rfl rfl dX7_printLongInstance_80) (ev_X1_pinName hO hP h_21) xw_X1_pinName rfl wd_53 dX7_printLongInstance_80 (by decide) (by decide) (by simp [x_cat, x_catI, x_catJ])
        cases h
        exact x_callX z9 (evX_out rfl)
  · have z9 := x_call (M := mX7_printLongInstance) (M' := mX7_putText) (pc := 70) (st := [va_rf s1, va_rf (some a_1)]) (rest := []) (av := [va_rf (some a_1), va_rf s1]) (x_linkV (M := mX7_printLongInstance) (M' := mX7_putText) (As := [va_rf s1]) (index := 60) (C := RX7) (T := TX7) (xE_8 c_5) rfl wd_865 wd_866 (wG_in (List.mem_append_left _ (List.mem_of_getElem? (i := 23) rfl)) rfl) xw_X7_putText rfl (by decide) rfl rfl dX7_printLongInstance_70) (ev_X7_putText hO hP h_4) xw_X7_putText rfl wd_138 dX7_printLongInstance_70 (by decide) (by decide) (by simp [x_cat, x_catI, x_catJ])
    cases h
    exact x_callX z9 (evX_out rfl)
set_option maxHeartbeats 4000000 in
set_option maxRecDepth 100000 in
theorem ev_X7_printLongInstance_L50 {l : Launch} {G : xG} (hO : x_OK l G) {P : xP} (hP : x_PG P G) {a0 : Nat} : ∀ (n : Nat) {v1 : Option Nat} {v2 : Int32} {v3 : Int32} {σ σ' : xS} {rr : Unit ⊕ String}, dm_X7_printLongInstance_L50 P a0 n v1 v2 v3 σ = some (rr, σ') → Ev l G mX7_printLongInstance 50 [(0, va_rf (some a0)), (1, va_rf v1), (2, .int v2), (3, .int v3)] [] σ (xrV rr) σ' := by
  intro n
  induction n with
  | zero => intro v1 v2 v3 σ σ' rr h; cases h
  | succ n ih =>
    intro v1 v2 v3 σ σ' rr h
    rw [dm_X7_printLongInstance_L50] at h
    refine ev_iload_n (j := 3) (x := v3) dX7_printLongInstance_50 rfl rfl ?_
    refine ev_aload_n (j := 1) (x := v1) dX7_printLongInstance_51 rfl rfl ?_
    obtain ⟨a_1, ea_1, h⟩ := x_some_e h
    refine ev_at (st' := [va_rf (some a_1), .int v3]) rfl (by rw [ea_1]) ?_
    obtain ⟨c_5, h⟩ := x_chk_e h
    rcases x_bind_e h with ⟨v_2, σ_3, h_4, h⟩ | ⟨E_13, σ_3, h_4, h⟩
    · have z9 := x_call (M := mX7_printLongInstance) (M' := mX1_pinCount) (pc := 52) (st := [va_rf (some a_1), .int v3]) (rest := [.int v3]) (av := [va_rf (some a_1)]) (x_linkV (M := mX7_printLongInstance) (M' := mX1_pinCount) (As := []) (index := 159) (C := RX1) (T := TX1) (xE_2 c_5) rfl wd_891 wd_52 wd_50 xw_X1_pinCount rfl (by decide) rfl rfl dX7_printLongInstance_52) (ev_X1_pinCount hO hP h_4) xw_X1_pinCount rfl wd_53 dX7_printLongInstance_52 (by decide) (by decide) (by simp [x_cat, x_catI, x_catJ])
      refine x_callR z9 ?_
      refine ev_at (st' := [.int v_2, .int v3]) rfl rfl ?_
      by_cases c_6 : v_2 ≤ v3
      · rw [if_pos c_6] at h
        refine ev_icmp_ge (x := v3) (y := v_2) (tgt := 109) dX7_printLongInstance_55 (by decide) (fun _ => ?_) (fun q9 => absurd c_6 q9)
        refine ev_aload_n (j := 0) (x := (some a0)) dX7_printLongInstance_109 rfl rfl ?_
        refine ev_ldcS (q := ("NetlistForms$Printer", 88, ");\n", 1)) hP (List.mem_of_getElem? (i := 9) rfl) rfl dX7_printLongInstance_110 ?_
        obtain ⟨c_10, h⟩ := x_chk_e h
        rcases x_bind_e h with ⟨v_7, σ_8, h_9, h⟩ | ⟨E_11, σ_8, h_9, h⟩
        · have z9 := x_call (M := mX7_printLongInstance) (M' := mX7_putText) (pc := 112) (st := [va_rf (some (P.ad 1)), va_rf (some a0)]) (rest := []) (av := [va_rf (some a0), va_rf (some (P.ad 1))]) (x_linkV (M := mX7_printLongInstance) (M' := mX7_putText) (As := [va_rf (some (P.ad 1))]) (index := 60) (C := RX7) (T := TX7) (xE_8 c_10) rfl wd_865 wd_866 (wG_in (List.mem_append_left _ (List.mem_of_getElem? (i := 23) rfl)) rfl) xw_X7_putText rfl (by decide) rfl rfl dX7_printLongInstance_112) (ev_X7_putText hO hP h_9) xw_X7_putText rfl wd_138 dX7_printLongInstance_112 (by decide) (by decide) (by simp [x_cat, x_catI, x_catJ])
          refine x_callR z9 ?_
          refine ev_at (st' := []) rfl rfl ?_
          cases h
          exact ev_vret rfl dX7_printLongInstance_115
        · have z9 := x_call (M := mX7_printLongInstance) (M' := mX7_putText) (pc := 112) (st := [va_rf (some (P.ad 1)), va_rf (some a0)]) (rest := []) (av := [va_rf (some a0), va_rf (some (P.ad 1))]) (x_linkV (M := mX7_printLongInstance) (M' := mX7_putText) (As := [va_rf (some (P.ad 1))]) (index := 60) (C := RX7) (T := TX7) (xE_8 c_10) rfl wd_865 wd_866 (wG_in (List.mem_append_left _ (List.mem_of_getElem? (i := 23) rfl)) rfl) xw_X7_putText rfl (by decide) rfl rfl dX7_printLongInstance_112) (ev_X7_putText hO hP h_9) xw_X7_putText rfl wd_138 dX7_printLongInstance_112 (by decide) (by decide) (by simp [x_cat, x_catI, x_catJ])
          cases h
          exact x_callX z9 (evX_out rfl)
      · rw [if_neg c_6] at h
        refine ev_icmp_ge (x := v3) (y := v_2) (tgt := 109) dX7_printLongInstance_55 (by decide) (fun q9 => absurd q9 c_6) (fun _ => ?_)
        refine ev_aload_n (j := 0) (x := (some a0)) dX7_printLongInstance_58 rfl rfl ?_
        refine ev_iload_n (j := 3) (x := v3) dX7_printLongInstance_59 rfl rfl ?_
        by_cases c_12 : v3 = 0
        · rw [if_pos c_12] at h
          refine ev_if_ne (x := v3) (tgt := 68) dX7_printLongInstance_60 (by decide) (fun q9 => absurd c_12 q9) (fun _ => ?_)
          refine ev_ldcS (q := ("NetlistForms$Printer", 77, "", 0)) hP (List.mem_of_getElem? (i := 7) rfl) rfl dX7_printLongInstance_63 ?_
          refine ev_goto (tgt := 70) dX7_printLongInstance_65 (by decide) ?_
          exact ev_sub [0, 1, 2, 3] rfl (ev_X7_printLongInstance_p70 hO hP ih h)
        · rw [if_neg c_12] at h
          refine ev_if_ne (x := v3) (tgt := 68) dX7_printLongInstance_60 (by decide) (fun _ => ?_) (fun q9 => absurd q9 c_12)
          refine ev_ldcS (q := ("NetlistForms$Printer", 79, ",", 2)) hP (List.mem_of_getElem? (i := 8) rfl) rfl dX7_printLongInstance_68 ?_
          exact ev_sub [0, 1, 2, 3] rfl (ev_X7_printLongInstance_p70 hO hP ih h)
    · have z9 := x_call (M := mX7_printLongInstance) (M' := mX1_pinCount) (pc := 52) (st := [va_rf (some a_1), .int v3]) (rest := [.int v3]) (av := [va_rf (some a_1)]) (x_linkV (M := mX7_printLongInstance) (M' := mX1_pinCount) (As := []) (index := 159) (C := RX1) (T := TX1) (xE_2 c_5) rfl wd_891 wd_52 wd_50 xw_X1_pinCount rfl (by decide) rfl rfl dX7_printLongInstance_52) (ev_X1_pinCount hO hP h_4) xw_X1_pinCount rfl wd_53 dX7_printLongInstance_52 (by decide) (by decide) (by simp [x_cat, x_catI, x_catJ])
      cases h
      exact x_callX z9 (evX_out rfl)
set_option maxHeartbeats 4000000 in
set_option maxRecDepth 100000 in
theorem ev_X7_printLongInstance_p19 {l : Launch} {G : xG} (hO : x_OK l G) {P : xP} (hP : x_PG P G) {a0 : Nat} {v1 : Option Nat} {s0 : Int32} {σ σ' : xS} {rr : Unit ⊕ String} (h : dm_X7_printLongInstance_p19 P a0 v1 s0 σ = some (rr, σ')) : Ev l G mX7_printLongInstance 19 [(0, va_rf (some a0)), (1, va_rf v1)] [.int s0] σ (xrV rr) σ' := by
  unfold dm_X7_printLongInstance_p19 at h
  refine ev_istore_n (i := 2) (lv' := [(2, .int s0), (0, va_rf (some a0)), (1, va_rf v1)]) dX7_printLongInstance_19 rfl (by decide) (by simp [x_cat, x_catI, x_catJ]) ?_
  refine ev_aload_n (j := 1) (x := (some a0)) dX7_printLongInstance_20 rfl rfl ?_
  refine ev_aload_n (j := 2) (x := v1) dX7_printLongInstance_21 rfl rfl ?_
  obtain ⟨a_1, ea_1, h⟩ := x_some_e h
  refine ev_at (st' := [va_rf (some a_1), va_rf (some a0)]) rfl (by rw [ea_1]) ?_
  obtain ⟨c_2, h⟩ := x_chk_e h
  refine ev_get (C := RX1) (T := TX1) (k := 0) inX1 (xE_2 c_2) rfl (by decide) wd_889 (Or.inl rfl) rfl dX7_printLongInstance_22 ?_
  obtain ⟨c_6, h⟩ := x_chk_e h
  rcases x_bind_e h with ⟨v_3, σ_4, h_5, h⟩ | ⟨E_23, σ_4, h_5, h⟩
  · have z9 := x_call (M := mX7_printLongInstance) (M' := mX7_putName) (pc := 25) (st := [.long (σ.J 100 a_1), va_rf (some a0)]) (rest := []) (av := [va_rf (some a0), .long (σ.J 100 a_1)]) (x_linkV (M := mX7_printLongInstance) (M' := mX7_putName) (As := [.long (σ.J 100 a_1)]) (index := 70) (C := RX7) (T := TX7) (xE_8 c_6) rfl wd_873 wd_874 (wG_in (List.mem_append_left _ (List.mem_of_getElem? (i := 25) rfl)) rfl) xw_X7_putName rfl (by decide) rfl rfl dX7_printLongInstance_25) (ev_X7_putName hO hP h_5) xw_X7_putName rfl wd_138 dX7_printLongInstance_25 (by decide) (by decide) (by simp [x_cat, x_catI, x_catJ])
    refine x_callR z9 ?_
    refine ev_at (st' := []) rfl rfl ?_
    refine ev_aload_n (j := 1) (x := (some a0)) dX7_printLongInstance_28 rfl rfl ?_
    refine ev_bipush (v := 32) dX7_printLongInstance_29 (by decide) ?_
    obtain ⟨c_10, h⟩ := x_chk_e h
    rcases x_bind_e h with ⟨v_7, σ_8, h_9, h⟩ | ⟨E_22, σ_8, h_9, h⟩
    · have z9 := x_call (M := mX7_printLongInstance) (M' := mX7_put) (pc := 31) (st := [.int 32, va_rf (some a0)]) (rest := []) (av := [va_rf (some a0), .int 32]) (x_linkV (M := mX7_printLongInstance) (M' := mX7_put) (As := [.int 32]) (index := 38) (C := RX7) (T := TX7) (xE_8 c_10) rfl wd_860 wd_861 (wG_in (List.mem_append_left _ (List.mem_of_getElem? (i := 24) rfl)) rfl) xw_X7_put rfl (by decide) rfl rfl dX7_printLongInstance_31) (ev_X7_put hO hP h_9) xw_X7_put rfl wd_138 dX7_printLongInstance_31 (by decide) (by decide) (by simp [x_cat, x_catI, x_catJ])
      refine x_callR z9 ?_
      refine ev_at (st' := []) rfl rfl ?_
      refine ev_aload_n (j := 1) (x := (some a0)) dX7_printLongInstance_34 rfl rfl ?_
      refine ev_aload_n (j := 2) (x := v1) dX7_printLongInstance_35 rfl rfl ?_
      refine ev_at (st' := [va_rf (some a_1), va_rf (some a0)]) rfl (by rw [ea_1]) ?_
      obtain ⟨c_11, h⟩ := x_chk_e h
      refine ev_get (C := RX1) (T := TX1) (k := 1) inX1 (xE_2 c_11) rfl (by decide) wd_890 (Or.inl rfl) rfl dX7_printLongInstance_36 ?_
      obtain ⟨c_15, h⟩ := x_chk_e h
      rcases x_bind_e h with ⟨v_12, σ_13, h_14, h⟩ | ⟨E_21, σ_13, h_14, h⟩
      · have z9 := x_call (M := mX7_printLongInstance) (M' := mX7_putName) (pc := 39) (st := [.long (σ_8.J 101 a_1), va_rf (some a0)]) (rest := []) (av := [va_rf (some a0), .long (σ_8.J 101 a_1)]) (x_linkV (M := mX7_printLongInstance) (M' := mX7_putName) (As := [.long (σ_8.J 101 a_1)]) (index := 70) (C := RX7) (T := TX7) (xE_8 c_15) rfl wd_873 wd_874 (wG_in (List.mem_append_left _ (List.mem_of_getElem? (i := 25) rfl)) rfl) xw_X7_putName rfl (by decide) rfl rfl dX7_printLongInstance_39) (ev_X7_putName hO hP h_14) xw_X7_putName rfl wd_138 dX7_printLongInstance_39 (by decide) (by decide) (by simp [x_cat, x_catI, x_catJ])
        refine x_callR z9 ?_
        refine ev_at (st' := []) rfl rfl ?_
        refine ev_aload_n (j := 1) (x := (some a0)) dX7_printLongInstance_42 rfl rfl ?_
        refine ev_bipush (v := 40) dX7_printLongInstance_43 (by decide) ?_
        obtain ⟨c_19, h⟩ := x_chk_e h
        rcases x_bind_e h with ⟨v_16, σ_17, h_18, h⟩ | ⟨E_20, σ_17, h_18, h⟩
        · have z9 := x_call (M := mX7_printLongInstance) (M' := mX7_put) (pc := 45) (st := [.int 40, va_rf (some a0)]) (rest := []) (av := [va_rf (some a0), .int 40]) (x_linkV (M := mX7_printLongInstance) (M' := mX7_put) (As := [.int 40]) (index := 38) (C := RX7) (T := TX7) (xE_8 c_19) rfl wd_860 wd_861 (wG_in (List.mem_append_left _ (List.mem_of_getElem? (i := 24) rfl)) rfl) xw_X7_put rfl (by decide) rfl rfl dX7_printLongInstance_45) (ev_X7_put hO hP h_18) xw_X7_put rfl wd_138 dX7_printLongInstance_45 (by decide) (by decide) (by simp [x_cat, x_catI, x_catJ])
          refine x_callR z9 ?_
          refine ev_at (st' := []) rfl rfl ?_
          refine ev_iconst (v := 0) dX7_printLongInstance_48 (by decide) ?_
          refine ev_istore_n (i := 3) (lv' := [(3, .int 0), (2, .int s0), (0, va_rf (some a0)), (1, va_rf v1)]) dX7_printLongInstance_49 rfl (by decide) rfl ?_
          exact ev_sub [2, 3, 1, 0] rfl (ev_X7_printLongInstance_L50 hO hP P.N h)
        · have z9 := x_call (M := mX7_printLongInstance) (M' := mX7_put) (pc := 45) (st := [.int 40, va_rf (some a0)]) (rest := []) (av := [va_rf (some a0), .int 40]) (x_linkV (M := mX7_printLongInstance) (M' := mX7_put) (As := [.int 40]) (index := 38) (C := RX7) (T := TX7) (xE_8 c_19) rfl wd_860 wd_861 (wG_in (List.mem_append_left _ (List.mem_of_getElem? (i := 24) rfl)) rfl) xw_X7_put rfl (by decide) rfl rfl dX7_printLongInstance_45) (ev_X7_put hO hP h_18) xw_X7_put rfl wd_138 dX7_printLongInstance_45 (by decide) (by decide) (by simp [x_cat, x_catI, x_catJ])
          cases h
          exact x_callX z9 (evX_out rfl)
      · have z9 := x_call (M := mX7_printLongInstance) (M' := mX7_putName) (pc := 39) (st := [.long (σ_8.J 101 a_1), va_rf (some a0)]) (rest := []) (av := [va_rf (some a0), .long (σ_8.J 101 a_1)]) (x_linkV (M := mX7_printLongInstance) (M' := mX7_putName) (As := [.long (σ_8.J 101 a_1)]) (index := 70) (C := RX7) (T := TX7) (xE_8 c_15) rfl wd_873 wd_874 (wG_in (List.mem_append_left _ (List.mem_of_getElem? (i := 25) rfl)) rfl) xw_X7_putName rfl (by decide) rfl rfl dX7_printLongInstance_39) (ev_X7_putName hO hP h_14) xw_X7_putName rfl wd_138 dX7_printLongInstance_39 (by decide) (by decide) (by simp [x_cat, x_catI, x_catJ])
        cases h
        exact x_callX z9 (evX_out rfl)
    · have z9 := x_call (M := mX7_printLongInstance) (M' := mX7_put) (pc := 31) (st := [.int 32, va_rf (some a0)]) (rest := []) (av := [va_rf (some a0), .int 32]) (x_linkV (M := mX7_printLongInstance) (M' := mX7_put) (As := [.int 32]) (index := 38) (C := RX7) (T := TX7) (xE_8 c_10) rfl wd_860 wd_861 (wG_in (List.mem_append_left _ (List.mem_of_getElem? (i := 24) rfl)) rfl) xw_X7_put rfl (by decide) rfl rfl dX7_printLongInstance_31) (ev_X7_put hO hP h_9) xw_X7_put rfl wd_138 dX7_printLongInstance_31 (by decide) (by decide) (by simp [x_cat, x_catI, x_catJ])
      cases h
      exact x_callX z9 (evX_out rfl)
  · have z9 := x_call (M := mX7_printLongInstance) (M' := mX7_putName) (pc := 25) (st := [.long (σ.J 100 a_1), va_rf (some a0)]) (rest := []) (av := [va_rf (some a0), .long (σ.J 100 a_1)]) (x_linkV (M := mX7_printLongInstance) (M' := mX7_putName) (As := [.long (σ.J 100 a_1)]) (index := 70) (C := RX7) (T := TX7) (xE_8 c_6) rfl wd_873 wd_874 (wG_in (List.mem_append_left _ (List.mem_of_getElem? (i := 25) rfl)) rfl) xw_X7_putName rfl (by decide) rfl rfl dX7_printLongInstance_25) (ev_X7_putName hO hP h_5) xw_X7_putName rfl wd_138 dX7_printLongInstance_25 (by decide) (by decide) (by simp [x_cat, x_catI, x_catJ])
    cases h
    exact x_callX z9 (evX_out rfl)
set_option maxHeartbeats 4000000 in
set_option maxRecDepth 100000 in
theorem ev_X7_printLongInstance_p14 {l : Launch} {G : xG} (hO : x_OK l G) {P : xP} (hP : x_PG P G) {a0 : Nat} {v1 : Option Nat} {σ σ' : xS} {rr : Unit ⊕ String} (h : dm_X7_printLongInstance_p14 P a0 v1 σ = some (rr, σ')) : Ev l G mX7_printLongInstance 14 [(0, va_rf (some a0)), (1, va_rf v1)] [] σ (xrV rr) σ' := by
  unfold dm_X7_printLongInstance_p14 at h
  refine ev_iconst (v := 1) dX7_printLongInstance_14 (by decide) ?_
  refine ev_goto (tgt := 19) dX7_printLongInstance_15 (by decide) ?_
  exact ev_sub [0, 1] rfl (ev_X7_printLongInstance_p19 hO hP h)
set_option maxHeartbeats 4000000 in
set_option maxRecDepth 100000 in
theorem ev_X7_printLongInstance {l : Launch} {G : xG} (hO : x_OK l G) {P : xP} (hP : x_PG P G) {a0 : Nat} {v1 : Option Nat} {σ σ' : xS} {rr : Unit ⊕ String} (h : dm_X7_printLongInstance P a0 v1 σ = some (rr, σ')) : EvM l G mX7_printLongInstance [va_rf (some a0), va_rf v1] σ (xrV rr) σ' := by
  unfold dm_X7_printLongInstance at h
  refine evM_of hO (by decide +kernel) (x_lenI (by simp [x_cat, x_catI, x_catJ, mX7_printLongInstance, xM.maxL])) ?_
  refine Eq.mp (congrArg (fun z => Ev l G mX7_printLongInstance 0 z [] σ (xrV rr) σ') (show [(0, va_rf (some a0)), (1, va_rf v1)] = lv_args 0 [va_rf (some a0), va_rf v1] by simp [lv_args, x_cat, x_catI, x_catJ])) ?_
  refine ev_aload_n (j := 1) (x := v1) dX7_printLongInstance_0 rfl rfl ?_
  obtain ⟨a_1, ea_1, h⟩ := x_some_e h
  refine ev_at (st' := [va_rf (some a_1)]) rfl (by rw [ea_1]) ?_
  obtain ⟨c_2, h⟩ := x_chk_e h
  refine ev_get (C := RX1) (T := TX1) (k := 6) inX1 (xE_2 c_2) rfl (by decide) wd_887 (Or.inl rfl) rfl dX7_printLongInstance_1 ?_
  by_cases c_3 : (σ.R 106 a_1) = none
  · rw [if_pos c_3] at h
    refine ev_ifnonnull (x := (σ.R 106 a_1)) (tgt := 14) dX7_printLongInstance_4 (by decide) (fun q9 => absurd c_3 q9) (fun _ => ?_)
    refine ev_aload_n (j := 1) (x := v1) dX7_printLongInstance_7 rfl rfl ?_
    refine ev_at (st' := [va_rf (some a_1)]) rfl (by rw [ea_1]) ?_
    refine ev_get (C := RX1) (T := TX1) (k := 3) inX1 (xE_2 c_2) rfl (by decide) wd_888 (Or.inl rfl) rfl dX7_printLongInstance_8 ?_
    by_cases c_4 : (σ.I 103 a_1) = 0
    · rw [if_pos c_4] at h
      refine ev_if_eq (x := (σ.I 103 a_1)) (tgt := 18) dX7_printLongInstance_11 (by decide) (fun _ => ?_) (fun q9 => absurd c_4 q9)
      refine ev_iconst (v := 0) dX7_printLongInstance_18 (by decide) ?_
      exact ev_sub [0, 1] rfl (ev_X7_printLongInstance_p19 hO hP h)
    · rw [if_neg c_4] at h
      refine ev_if_eq (x := (σ.I 103 a_1)) (tgt := 18) dX7_printLongInstance_11 (by decide) (fun q9 => absurd q9 c_4) (fun _ => ?_)
      exact ev_sub [0, 1] rfl (ev_X7_printLongInstance_p14 hO hP h)
  · rw [if_neg c_3] at h
    refine ev_ifnonnull (x := (σ.R 106 a_1)) (tgt := 14) dX7_printLongInstance_4 (by decide) (fun _ => ?_) (fun q9 => absurd q9 c_3)
    exact ev_sub [0, 1] rfl (ev_X7_printLongInstance_p14 hO hP h)
set_option maxHeartbeats 4000000 in
set_option maxRecDepth 100000 in
theorem ev_X7_printLong_p42 {l : Launch} {G : xG} (hO : x_OK l G) {P : xP} (hP : x_PG P G) {a0 : Nat} {k22 : Option Nat → Int32 → xS → xO Unit} (hk22 : ∀ {v1 : Option Nat} {v2 : Int32} {σ σ' : xS} {rr : Unit ⊕ String}, k22 v1 v2 σ = some (rr, σ') → Ev l G mX7_printLong 22 [(0, va_rf (some a0)), (1, va_rf v1), (2, .int v2)] [] σ (xrV rr) σ') {v1 : Option Nat} {v2 : Int32} {s0 : Option Nat} {s1 : Option Nat} {σ σ' : xS} {rr : Unit ⊕ String} (h : dm_X7_printLong_p42 P k22 a0 v1 v2 s0 s1 σ = some (rr, σ')) : Ev l G mX7_printLong 42 [(0, va_rf (some a0)), (1, va_rf v1), (2, .int v2)] [va_rf s1, va_rf s0] σ (xrV rr) σ' := by
  unfold dm_X7_printLong_p42 at h
  obtain ⟨a_1, ea_1, h⟩ := x_some_e h
  refine ev_at (st' := [va_rf s1, va_rf (some a_1)]) rfl (by rw [ea_1]) ?_
  obtain ⟨c_5, h⟩ := x_chk_e h
  rcases x_bind_e h with ⟨v_2, σ_3, h_4, h⟩ | ⟨E_18, σ_3, h_4, h⟩
  · have z9 := x_call (M := mX7_printLong) (M' := mX7_putText) (pc := 42) (st := [va_rf s1, va_rf (some a_1)]) (rest := []) (av := [va_rf (some a_1), va_rf s1]) (x_linkV (M := mX7_printLong) (M' := mX7_putText) (As := [va_rf s1]) (index := 60) (C := RX7) (T := TX7) (xE_8 c_5) rfl wd_865 wd_866 (wG_in (List.mem_append_left _ (List.mem_of_getElem? (i := 23) rfl)) rfl) xw_X7_putText rfl (by decide) rfl rfl dX7_printLong_42) (ev_X7_putText hO hP h_4) xw_X7_putText rfl wd_138 dX7_printLong_42 (by decide) (by decide) (by simp [x_cat, x_catI, x_catJ])
    refine x_callR z9 ?_
    refine ev_at (st' := []) rfl rfl ?_
    refine ev_aload_n (j := 0) (x := (some a0)) dX7_printLong_45 rfl rfl ?_
    refine ev_aload_n (j := 1) (x := v1) dX7_printLong_46 rfl rfl ?_
    obtain ⟨a_6, ea_6, h⟩ := x_some_e h
    refine ev_at (st' := [va_rf (some a_6), va_rf (some a0)]) rfl (by rw [ea_6]) ?_
    obtain ⟨c_7, h⟩ := x_chk_e h
    refine ev_get (C := RX5) (T := TX5) (k := 3) inX5 (xE_6 c_7) rfl (by decide) wd_906 (Or.inl rfl) rfl dX7_printLong_47 ?_
    refine ev_iload_n (j := 2) (x := v2) dX7_printLong_50 rfl rfl ?_
    obtain ⟨a_8, ea_8, h⟩ := x_some_e h
    refine ev_at (st' := [.int v2, va_rf (some a_8), va_rf (some a0)]) rfl (by rw [ea_8]) ?_
    obtain ⟨c_9, h⟩ := x_chk_e h
    refine ev_aald_26 c_9.1 c_9.2 dX7_printLong_51 ?_
    obtain ⟨a_10, ea_10, h⟩ := x_some_e h
    refine ev_at (st' := [va_rf (some a_10), va_rf (some a0)]) rfl (by rw [ea_10]) ?_
    obtain ⟨c_11, h⟩ := x_chk_e h
    refine ev_get (C := RX4) (T := TX4) (k := 0) inX4 (xE_5 c_11) rfl (by decide) wd_871 (Or.inl rfl) rfl dX7_printLong_52 ?_
    obtain ⟨c_15, h⟩ := x_chk_e h
    rcases x_bind_e h with ⟨v_12, σ_13, h_14, h⟩ | ⟨E_17, σ_13, h_14, h⟩
    · have z9 := x_call (M := mX7_printLong) (M' := mX7_putName) (pc := 55) (st := [.long (σ_3.J 400 a_10), va_rf (some a0)]) (rest := []) (av := [va_rf (some a0), .long (σ_3.J 400 a_10)]) (x_linkV (M := mX7_printLong) (M' := mX7_putName) (As := [.long (σ_3.J 400 a_10)]) (index := 70) (C := RX7) (T := TX7) (xE_8 c_15) rfl wd_873 wd_874 (wG_in (List.mem_append_left _ (List.mem_of_getElem? (i := 25) rfl)) rfl) xw_X7_putName rfl (by decide) rfl rfl dX7_printLong_55) (ev_X7_putName hO hP h_14) xw_X7_putName rfl wd_138 dX7_printLong_55 (by decide) (by decide) (by simp [x_cat, x_catI, x_catJ])
      refine x_callR z9 ?_
      refine ev_at (st' := []) rfl rfl ?_
      obtain ⟨v_16, ev_16, h⟩ := x_let_e h
      refine ev_iinc (j := 2) (x := v2) (v := v_16) (lv' := [(2, .int v_16), (0, va_rf (some a0)), (1, va_rf v1)]) dX7_printLong_58 rfl (by rw [ev_16]; rfl) (by decide) (by simp [x_cat, x_catI, x_catJ]) ?_
      refine ev_goto (tgt := 22) dX7_printLong_61 (by decide) ?_
      exact ev_sub [1, 2, 0] rfl (hk22 h)
    · have z9 := x_call (M := mX7_printLong) (M' := mX7_putName) (pc := 55) (st := [.long (σ_3.J 400 a_10), va_rf (some a0)]) (rest := []) (av := [va_rf (some a0), .long (σ_3.J 400 a_10)]) (x_linkV (M := mX7_printLong) (M' := mX7_putName) (As := [.long (σ_3.J 400 a_10)]) (index := 70) (C := RX7) (T := TX7) (xE_8 c_15) rfl wd_873 wd_874 (wG_in (List.mem_append_left _ (List.mem_of_getElem? (i := 25) rfl)) rfl) xw_X7_putName rfl (by decide) rfl rfl dX7_printLong_55) (ev_X7_putName hO hP h_14) xw_X7_putName rfl wd_138 dX7_printLong_55 (by decide) (by decide) (by simp [x_cat, x_catI, x_catJ])
      cases h
      exact x_callX z9 (evX_out rfl)
  · have z9 := x_call (M := mX7_printLong) (M' := mX7_putText) (pc := 42) (st := [va_rf s1, va_rf (some a_1)]) (rest := []) (av := [va_rf (some a_1), va_rf s1]) (x_linkV (M := mX7_printLong) (M' := mX7_putText) (As := [va_rf s1]) (index := 60) (C := RX7) (T := TX7) (xE_8 c_5) rfl wd_865 wd_866 (wG_in (List.mem_append_left _ (List.mem_of_getElem? (i := 23) rfl)) rfl) xw_X7_putText rfl (by decide) rfl rfl dX7_printLong_42) (ev_X7_putText hO hP h_4) xw_X7_putText rfl wd_138 dX7_printLong_42 (by decide) (by decide) (by simp [x_cat, x_catI, x_catJ])
    cases h
    exact x_callX z9 (evX_out rfl)
set_option maxHeartbeats 4000000 in
set_option maxRecDepth 100000 in
theorem ev_X7_printLong_L152 {l : Launch} {G : xG} (hO : x_OK l G) {P : xP} (hP : x_PG P G) {a0 : Nat} : ∀ (n : Nat) {v1 : Option Nat} {v2 : Int32} {σ σ' : xS} {rr : Unit ⊕ String}, dm_X7_printLong_L152 P a0 n v1 v2 σ = some (rr, σ') → Ev l G mX7_printLong 152 [(0, va_rf (some a0)), (1, va_rf v1), (2, .int v2)] [] σ (xrV rr) σ' := by
  intro n
  induction n with
  | zero => intro v1 v2 σ σ' rr h; cases h
  | succ n ih =>
    intro v1 v2 σ σ' rr h
    rw [dm_X7_printLong_L152] at h
    refine ev_iload_n (j := 2) (x := v2) dX7_printLong_152 rfl rfl ?_
    refine ev_aload_n (j := 1) (x := v1) dX7_printLong_153 rfl rfl ?_
    obtain ⟨a_1, ea_1, h⟩ := x_some_e h
    refine ev_at (st' := [va_rf (some a_1), .int v2]) rfl (by rw [ea_1]) ?_
    obtain ⟨c_2, h⟩ := x_chk_e h
    refine ev_get (C := RX5) (T := TX5) (k := 11) inX5 (xE_6 c_2) rfl (by decide) wd_913 (Or.inl rfl) rfl dX7_printLong_154 ?_
    by_cases c_3 : (σ.I 511 a_1) ≤ v2
    · rw [if_pos c_3] at h
      refine ev_icmp_ge (x := v2) (y := (σ.I 511 a_1)) (tgt := 176) dX7_printLong_157 (by decide) (fun _ => ?_) (fun q9 => absurd c_3 q9)
      refine ev_aload_n (j := 0) (x := (some a0)) dX7_printLong_176 rfl rfl ?_
      refine ev_ldcS (q := ("NetlistForms$Printer", 126, "end\n", 12)) hP (List.mem_of_getElem? (i := 12) rfl) rfl dX7_printLong_177 ?_
      obtain ⟨c_7, h⟩ := x_chk_e h
      rcases x_bind_e h with ⟨v_4, σ_5, h_6, h⟩ | ⟨E_8, σ_5, h_6, h⟩
      · have z9 := x_call (M := mX7_printLong) (M' := mX7_putText) (pc := 179) (st := [va_rf (some (P.ad 12)), va_rf (some a0)]) (rest := []) (av := [va_rf (some a0), va_rf (some (P.ad 12))]) (x_linkV (M := mX7_printLong) (M' := mX7_putText) (As := [va_rf (some (P.ad 12))]) (index := 60) (C := RX7) (T := TX7) (xE_8 c_7) rfl wd_865 wd_866 (wG_in (List.mem_append_left _ (List.mem_of_getElem? (i := 23) rfl)) rfl) xw_X7_putText rfl (by decide) rfl rfl dX7_printLong_179) (ev_X7_putText hO hP h_6) xw_X7_putText rfl wd_138 dX7_printLong_179 (by decide) (by decide) (by simp [x_cat, x_catI, x_catJ])
        refine x_callR z9 ?_
        refine ev_at (st' := []) rfl rfl ?_
        cases h
        exact ev_vret rfl dX7_printLong_182
      · have z9 := x_call (M := mX7_printLong) (M' := mX7_putText) (pc := 179) (st := [va_rf (some (P.ad 12)), va_rf (some a0)]) (rest := []) (av := [va_rf (some a0), va_rf (some (P.ad 12))]) (x_linkV (M := mX7_printLong) (M' := mX7_putText) (As := [va_rf (some (P.ad 12))]) (index := 60) (C := RX7) (T := TX7) (xE_8 c_7) rfl wd_865 wd_866 (wG_in (List.mem_append_left _ (List.mem_of_getElem? (i := 23) rfl)) rfl) xw_X7_putText rfl (by decide) rfl rfl dX7_printLong_179) (ev_X7_putText hO hP h_6) xw_X7_putText rfl wd_138 dX7_printLong_179 (by decide) (by decide) (by simp [x_cat, x_catI, x_catJ])
        cases h
        exact x_callX z9 (evX_out rfl)
    · rw [if_neg c_3] at h
      refine ev_icmp_ge (x := v2) (y := (σ.I 511 a_1)) (tgt := 176) dX7_printLong_157 (by decide) (fun q9 => absurd q9 c_3) (fun _ => ?_)
      refine ev_aload_n (j := 0) (x := (some a0)) dX7_printLong_160 rfl rfl ?_
      refine ev_aload_n (j := 1) (x := v1) dX7_printLong_161 rfl rfl ?_
      refine ev_at (st' := [va_rf (some a_1), va_rf (some a0)]) rfl (by rw [ea_1]) ?_
      refine ev_get (C := RX5) (T := TX5) (k := 10) inX5 (xE_6 c_2) rfl (by decide) wd_914 (Or.inl rfl) rfl dX7_printLong_162 ?_
      refine ev_iload_n (j := 2) (x := v2) dX7_printLong_165 rfl rfl ?_
      obtain ⟨a_9, ea_9, h⟩ := x_some_e h
      refine ev_at (st' := [.int v2, va_rf (some a_9), va_rf (some a0)]) rfl (by rw [ea_9]) ?_
      obtain ⟨c_10, h⟩ := x_chk_e h
      refine ev_aald_24 c_10.1 c_10.2 dX7_printLong_166 ?_
      obtain ⟨c_14, h⟩ := x_chk_e h
      rcases x_bind_e h with ⟨v_11, σ_12, h_13, h⟩ | ⟨E_16, σ_12, h_13, h⟩
      · have z9 := x_call (M := mX7_printLong) (M' := mX7_printLongInstance) (pc := 167) (st := [va_rf (σ.AR a_9 (Int32.toNatClampNeg v2)), va_rf (some a0)]) (rest := []) (av := [va_rf (some a0), va_rf (σ.AR a_9 (Int32.toNatClampNeg v2))]) (x_linkV (M := mX7_printLong) (M' := mX7_printLongInstance) (As := [va_rf (σ.AR a_9 (Int32.toNatClampNeg v2))]) (index := 122) (C := RX7) (T := TX7) (xE_8 c_14) rfl wd_916 wd_917 (wG_in (List.mem_append_left _ (List.mem_of_getElem? (i := 30) rfl)) rfl) xw_X7_printLongInstance rfl (by decide) rfl rfl dX7_printLong_167) (ev_X7_printLongInstance hO hP h_13) xw_X7_printLongInstance rfl wd_138 dX7_printLong_167 (by decide) (by decide) (by simp [x_cat, x_catI, x_catJ])
        refine x_callR z9 ?_
        refine ev_at (st' := []) rfl rfl ?_
        obtain ⟨v_15, ev_15, h⟩ := x_let_e h
        refine ev_iinc (j := 2) (x := v2) (v := v_15) (lv' := [(2, .int v_15), (0, va_rf (some a0)), (1, va_rf v1)]) dX7_printLong_170 rfl (by rw [ev_15]; rfl) (by decide) (by simp [x_cat, x_catI, x_catJ]) ?_
        refine ev_goto (tgt := 152) dX7_printLong_173 (by decide) ?_
        exact ev_sub [1, 2, 0] rfl (ih h)
      · have z9 := x_call (M := mX7_printLong) (M' := mX7_printLongInstance) (pc := 167) (st := [va_rf (σ.AR a_9 (Int32.toNatClampNeg v2)), va_rf (some a0)]) (rest := []) (av := [va_rf (some a0), va_rf (σ.AR a_9 (Int32.toNatClampNeg v2))]) (x_linkV (M := mX7_printLong) (M' := mX7_printLongInstance) (As := [va_rf (σ.AR a_9 (Int32.toNatClampNeg v2))]) (index := 122) (C := RX7) (T := TX7) (xE_8 c_14) rfl wd_916 wd_917 (wG_in (List.mem_append_left _ (List.mem_of_getElem? (i := 30) rfl)) rfl) xw_X7_printLongInstance rfl (by decide) rfl rfl dX7_printLong_167) (ev_X7_printLongInstance hO hP h_13) xw_X7_printLongInstance rfl wd_138 dX7_printLong_167 (by decide) (by decide) (by simp [x_cat, x_catI, x_catJ])
        cases h
        exact x_callX z9 (evX_out rfl)
set_option maxHeartbeats 4000000 in
set_option maxRecDepth 100000 in
theorem ev_X7_printLong_L98 {l : Launch} {G : xG} (hO : x_OK l G) {P : xP} (hP : x_PG P G) {a0 : Nat} : ∀ (n : Nat) {v1 : Option Nat} {v2 : Int32} {σ σ' : xS} {rr : Unit ⊕ String}, dm_X7_printLong_L98 P a0 n v1 v2 σ = some (rr, σ') → Ev l G mX7_printLong 98 [(0, va_rf (some a0)), (1, va_rf v1), (2, .int v2)] [] σ (xrV rr) σ' := by
  intro n
  induction n with
  | zero => intro v1 v2 σ σ' rr h; cases h
  | succ n ih =>
    intro v1 v2 σ σ' rr h
    rw [dm_X7_printLong_L98] at h
    refine ev_iload_n (j := 2) (x := v2) dX7_printLong_98 rfl rfl ?_
    refine ev_aload_n (j := 1) (x := v1) dX7_printLong_99 rfl rfl ?_
    obtain ⟨a_1, ea_1, h⟩ := x_some_e h
    refine ev_at (st' := [va_rf (some a_1), .int v2]) rfl (by rw [ea_1]) ?_
    obtain ⟨c_2, h⟩ := x_chk_e h
    refine ev_get (C := RX5) (T := TX5) (k := 9) inX5 (xE_6 c_2) rfl (by decide) wd_910 (Or.inl rfl) rfl dX7_printLong_100 ?_
    by_cases c_3 : (σ.I 509 a_1) ≤ v2
    · rw [if_pos c_3] at h
      refine ev_icmp_ge (x := v2) (y := (σ.I 509 a_1)) (tgt := 150) dX7_printLong_103 (by decide) (fun _ => ?_) (fun q9 => absurd c_3 q9)
      refine ev_iconst (v := 0) dX7_printLong_150 (by decide) ?_
      refine ev_istore_n (i := 2) (lv' := [(2, .int 0), (0, va_rf (some a0)), (1, va_rf v1)]) dX7_printLong_151 rfl (by decide) (by simp [x_cat, x_catI, x_catJ]) ?_
      exact ev_sub [1, 2, 0] rfl (ev_X7_printLong_L152 hO hP P.N h)
    · rw [if_neg c_3] at h
      refine ev_icmp_ge (x := v2) (y := (σ.I 509 a_1)) (tgt := 150) dX7_printLong_103 (by decide) (fun q9 => absurd q9 c_3) (fun _ => ?_)
      refine ev_aload_n (j := 0) (x := (some a0)) dX7_printLong_106 rfl rfl ?_
      refine ev_ldcS (q := ("NetlistForms$Printer", 100, "assign ", 8)) hP (List.mem_of_getElem? (i := 10) rfl) rfl dX7_printLong_107 ?_
      obtain ⟨c_7, h⟩ := x_chk_e h
      rcases x_bind_e h with ⟨v_4, σ_5, h_6, h⟩ | ⟨E_35, σ_5, h_6, h⟩
      · have z9 := x_call (M := mX7_printLong) (M' := mX7_putText) (pc := 109) (st := [va_rf (some (P.ad 8)), va_rf (some a0)]) (rest := []) (av := [va_rf (some a0), va_rf (some (P.ad 8))]) (x_linkV (M := mX7_printLong) (M' := mX7_putText) (As := [va_rf (some (P.ad 8))]) (index := 60) (C := RX7) (T := TX7) (xE_8 c_7) rfl wd_865 wd_866 (wG_in (List.mem_append_left _ (List.mem_of_getElem? (i := 23) rfl)) rfl) xw_X7_putText rfl (by decide) rfl rfl dX7_printLong_109) (ev_X7_putText hO hP h_6) xw_X7_putText rfl wd_138 dX7_printLong_109 (by decide) (by decide) (by simp [x_cat, x_catI, x_catJ])
        refine x_callR z9 ?_
        refine ev_at (st' := []) rfl rfl ?_
        refine ev_aload_n (j := 0) (x := (some a0)) dX7_printLong_112 rfl rfl ?_
        refine ev_aload_n (j := 1) (x := v1) dX7_printLong_113 rfl rfl ?_
        refine ev_at (st' := [va_rf (some a_1), va_rf (some a0)]) rfl (by rw [ea_1]) ?_
        obtain ⟨c_8, h⟩ := x_chk_e h
        refine ev_get (C := RX5) (T := TX5) (k := 7) inX5 (xE_6 c_8) rfl (by decide) wd_911 (Or.inl rfl) rfl dX7_printLong_114 ?_
        refine ev_iload_n (j := 2) (x := v2) dX7_printLong_117 rfl rfl ?_
        obtain ⟨a_9, ea_9, h⟩ := x_some_e h
        refine ev_at (st' := [.int v2, va_rf (some a_9), va_rf (some a0)]) rfl (by rw [ea_9]) ?_
        obtain ⟨c_10, h⟩ := x_chk_e h
        refine ev_aald_28 c_10.1 c_10.2 dX7_printLong_118 ?_
        obtain ⟨c_14, h⟩ := x_chk_e h
        rcases x_bind_e h with ⟨v_11, σ_12, h_13, h⟩ | ⟨E_34, σ_12, h_13, h⟩
        · have z9 := x_call (M := mX7_printLong) (M' := mX7_printPart) (pc := 119) (st := [va_rf (σ_5.AR a_9 (Int32.toNatClampNeg v2)), va_rf (some a0)]) (rest := []) (av := [va_rf (some a0), va_rf (σ_5.AR a_9 (Int32.toNatClampNeg v2))]) (x_linkV (M := mX7_printLong) (M' := mX7_printPart) (As := [va_rf (σ_5.AR a_9 (Int32.toNatClampNeg v2))]) (index := 106) (C := RX7) (T := TX7) (xE_8 c_14) rfl wd_885 wd_886 (wG_in (List.mem_append_left _ (List.mem_of_getElem? (i := 28) rfl)) rfl) xw_X7_printPart rfl (by decide) rfl rfl dX7_printLong_119) (ev_X7_printPart hO hP h_13) xw_X7_printPart rfl wd_138 dX7_printLong_119 (by decide) (by decide) (by simp [x_cat, x_catI, x_catJ])
          refine x_callR z9 ?_
          refine ev_at (st' := []) rfl rfl ?_
          refine ev_aload_n (j := 0) (x := (some a0)) dX7_printLong_122 rfl rfl ?_
          refine ev_bipush (v := 61) dX7_printLong_123 (by decide) ?_
          obtain ⟨c_18, h⟩ := x_chk_e h
          rcases x_bind_e h with ⟨v_15, σ_16, h_17, h⟩ | ⟨E_33, σ_16, h_17, h⟩
          · have z9 := x_call (M := mX7_printLong) (M' := mX7_put) (pc := 125) (st := [.int 61, va_rf (some a0)]) (rest := []) (av := [va_rf (some a0), .int 61]) (x_linkV (M := mX7_printLong) (M' := mX7_put) (As := [.int 61]) (index := 38) (C := RX7) (T := TX7) (xE_8 c_18) rfl wd_860 wd_861 (wG_in (List.mem_append_left _ (List.mem_of_getElem? (i := 24) rfl)) rfl) xw_X7_put rfl (by decide) rfl rfl dX7_printLong_125) (ev_X7_put hO hP h_17) xw_X7_put rfl wd_138 dX7_printLong_125 (by decide) (by decide) (by simp [x_cat, x_catI, x_catJ])
            refine x_callR z9 ?_
            refine ev_at (st' := []) rfl rfl ?_
            refine ev_aload_n (j := 0) (x := (some a0)) dX7_printLong_128 rfl rfl ?_
            refine ev_aload_n (j := 1) (x := v1) dX7_printLong_129 rfl rfl ?_
            refine ev_at (st' := [va_rf (some a_1), va_rf (some a0)]) rfl (by rw [ea_1]) ?_
            obtain ⟨c_19, h⟩ := x_chk_e h
            refine ev_get (C := RX5) (T := TX5) (k := 8) inX5 (xE_6 c_19) rfl (by decide) wd_912 (Or.inl rfl) rfl dX7_printLong_130 ?_
            refine ev_iload_n (j := 2) (x := v2) dX7_printLong_133 rfl rfl ?_
            obtain ⟨a_20, ea_20, h⟩ := x_some_e h
            refine ev_at (st' := [.int v2, va_rf (some a_20), va_rf (some a0)]) rfl (by rw [ea_20]) ?_
            obtain ⟨c_21, h⟩ := x_chk_e h
            refine ev_aald_28 c_21.1 c_21.2 dX7_printLong_134 ?_
            obtain ⟨c_25, h⟩ := x_chk_e h
            rcases x_bind_e h with ⟨v_22, σ_23, h_24, h⟩ | ⟨E_32, σ_23, h_24, h⟩
            · have z9 := x_call (M := mX7_printLong) (M' := mX7_printPart) (pc := 135) (st := [va_rf (σ_16.AR a_20 (Int32.toNatClampNeg v2)), va_rf (some a0)]) (rest := []) (av := [va_rf (some a0), va_rf (σ_16.AR a_20 (Int32.toNatClampNeg v2))]) (x_linkV (M := mX7_printLong) (M' := mX7_printPart) (As := [va_rf (σ_16.AR a_20 (Int32.toNatClampNeg v2))]) (index := 106) (C := RX7) (T := TX7) (xE_8 c_25) rfl wd_885 wd_886 (wG_in (List.mem_append_left _ (List.mem_of_getElem? (i := 28) rfl)) rfl) xw_X7_printPart rfl (by decide) rfl rfl dX7_printLong_135) (ev_X7_printPart hO hP h_24) xw_X7_printPart rfl wd_138 dX7_printLong_135 (by decide) (by decide) (by simp [x_cat, x_catI, x_catJ])
              refine x_callR z9 ?_
              refine ev_at (st' := []) rfl rfl ?_
              refine ev_aload_n (j := 0) (x := (some a0)) dX7_printLong_138 rfl rfl ?_
              refine ev_ldcS (q := ("NetlistForms$Printer", 113, ";\n", 4)) hP (List.mem_of_getElem? (i := 11) rfl) rfl dX7_printLong_139 ?_
              obtain ⟨c_29, h⟩ := x_chk_e h
              rcases x_bind_e h with ⟨v_26, σ_27, h_28, h⟩ | ⟨E_31, σ_27, h_28, h⟩
              · have z9 := x_call (M := mX7_printLong) (M' := mX7_putText) (pc := 141) (st := [va_rf (some (P.ad 4)), va_rf (some a0)]) (rest := []) (av := [va_rf (some a0), va_rf (some (P.ad 4))]) (x_linkV (M := mX7_printLong) (M' := mX7_putText) (As := [va_rf (some (P.ad 4))]) (index := 60) (C := RX7) (T := TX7) (xE_8 c_29) rfl wd_865 wd_866 (wG_in (List.mem_append_left _ (List.mem_of_getElem? (i := 23) rfl)) rfl) xw_X7_putText rfl (by decide) rfl rfl dX7_printLong_141) (ev_X7_putText hO hP h_28) xw_X7_putText rfl wd_138 dX7_printLong_141 (by decide) (by decide) (by simp [x_cat, x_catI, x_catJ])
                refine x_callR z9 ?_
                refine ev_at (st' := []) rfl rfl ?_
                obtain ⟨v_30, ev_30, h⟩ := x_let_e h
                refine ev_iinc (j := 2) (x := v2) (v := v_30) (lv' := [(2, .int v_30), (0, va_rf (some a0)), (1, va_rf v1)]) dX7_printLong_144 rfl (by rw [ev_30]; rfl) (by decide) (by simp [x_cat, x_catI, x_catJ]) ?_
                refine ev_goto (tgt := 98) dX7_printLong_147 (by decide) ?_
                exact ev_sub [1, 2, 0] rfl (ih h)
              · have z9 := x_call (M := mX7_printLong) (M' := mX7_putText) (pc := 141) (st := [va_rf (some (P.ad 4)), va_rf (some a0)]) (rest := []) (av := [va_rf (some a0), va_rf (some (P.ad 4))]) (x_linkV (M := mX7_printLong) (M' := mX7_putText) (As := [va_rf (some (P.ad 4))]) (index := 60) (C := RX7) (T := TX7) (xE_8 c_29) rfl wd_865 wd_866 (wG_in (List.mem_append_left _ (List.mem_of_getElem? (i := 23) rfl)) rfl) xw_X7_putText rfl (by decide) rfl rfl dX7_printLong_141) (ev_X7_putText hO hP h_28) xw_X7_putText rfl wd_138 dX7_printLong_141 (by decide) (by decide) (by simp [x_cat, x_catI, x_catJ])
                cases h
                exact x_callX z9 (evX_out rfl)
            · have z9 := x_call (M := mX7_printLong) (M' := mX7_printPart) (pc := 135) (st := [va_rf (σ_16.AR a_20 (Int32.toNatClampNeg v2)), va_rf (some a0)]) (rest := []) (av := [va_rf (some a0), va_rf (σ_16.AR a_20 (Int32.toNatClampNeg v2))]) (x_linkV (M := mX7_printLong) (M' := mX7_printPart) (As := [va_rf (σ_16.AR a_20 (Int32.toNatClampNeg v2))]) (index := 106) (C := RX7) (T := TX7) (xE_8 c_25) rfl wd_885 wd_886 (wG_in (List.mem_append_left _ (List.mem_of_getElem? (i := 28) rfl)) rfl) xw_X7_printPart rfl (by decide) rfl rfl dX7_printLong_135) (ev_X7_printPart hO hP h_24) xw_X7_printPart rfl wd_138 dX7_printLong_135 (by decide) (by decide) (by simp [x_cat, x_catI, x_catJ])
              cases h
              exact x_callX z9 (evX_out rfl)
          · have z9 := x_call (M := mX7_printLong) (M' := mX7_put) (pc := 125) (st := [.int 61, va_rf (some a0)]) (rest := []) (av := [va_rf (some a0), .int 61]) (x_linkV (M := mX7_printLong) (M' := mX7_put) (As := [.int 61]) (index := 38) (C := RX7) (T := TX7) (xE_8 c_18) rfl wd_860 wd_861 (wG_in (List.mem_append_left _ (List.mem_of_getElem? (i := 24) rfl)) rfl) xw_X7_put rfl (by decide) rfl rfl dX7_printLong_125) (ev_X7_put hO hP h_17) xw_X7_put rfl wd_138 dX7_printLong_125 (by decide) (by decide) (by simp [x_cat, x_catI, x_catJ])
            cases h
            exact x_callX z9 (evX_out rfl)
        · have z9 := x_call (M := mX7_printLong) (M' := mX7_printPart) (pc := 119) (st := [va_rf (σ_5.AR a_9 (Int32.toNatClampNeg v2)), va_rf (some a0)]) (rest := []) (av := [va_rf (some a0), va_rf (σ_5.AR a_9 (Int32.toNatClampNeg v2))]) (x_linkV (M := mX7_printLong) (M' := mX7_printPart) (As := [va_rf (σ_5.AR a_9 (Int32.toNatClampNeg v2))]) (index := 106) (C := RX7) (T := TX7) (xE_8 c_14) rfl wd_885 wd_886 (wG_in (List.mem_append_left _ (List.mem_of_getElem? (i := 28) rfl)) rfl) xw_X7_printPart rfl (by decide) rfl rfl dX7_printLong_119) (ev_X7_printPart hO hP h_13) xw_X7_printPart rfl wd_138 dX7_printLong_119 (by decide) (by decide) (by simp [x_cat, x_catI, x_catJ])
          cases h
          exact x_callX z9 (evX_out rfl)
      · have z9 := x_call (M := mX7_printLong) (M' := mX7_putText) (pc := 109) (st := [va_rf (some (P.ad 8)), va_rf (some a0)]) (rest := []) (av := [va_rf (some a0), va_rf (some (P.ad 8))]) (x_linkV (M := mX7_printLong) (M' := mX7_putText) (As := [va_rf (some (P.ad 8))]) (index := 60) (C := RX7) (T := TX7) (xE_8 c_7) rfl wd_865 wd_866 (wG_in (List.mem_append_left _ (List.mem_of_getElem? (i := 23) rfl)) rfl) xw_X7_putText rfl (by decide) rfl rfl dX7_printLong_109) (ev_X7_putText hO hP h_6) xw_X7_putText rfl wd_138 dX7_printLong_109 (by decide) (by decide) (by simp [x_cat, x_catI, x_catJ])
        cases h
        exact x_callX z9 (evX_out rfl)
set_option maxHeartbeats 4000000 in
set_option maxRecDepth 100000 in
theorem ev_X7_printLong_L72 {l : Launch} {G : xG} (hO : x_OK l G) {P : xP} (hP : x_PG P G) {a0 : Nat} : ∀ (n : Nat) {v1 : Option Nat} {v2 : Int32} {σ σ' : xS} {rr : Unit ⊕ String}, dm_X7_printLong_L72 P a0 n v1 v2 σ = some (rr, σ') → Ev l G mX7_printLong 72 [(0, va_rf (some a0)), (1, va_rf v1), (2, .int v2)] [] σ (xrV rr) σ' := by
  intro n
  induction n with
  | zero => intro v1 v2 σ σ' rr h; cases h
  | succ n ih =>
    intro v1 v2 σ σ' rr h
    rw [dm_X7_printLong_L72] at h
    refine ev_iload_n (j := 2) (x := v2) dX7_printLong_72 rfl rfl ?_
    refine ev_aload_n (j := 1) (x := v1) dX7_printLong_73 rfl rfl ?_
    obtain ⟨a_1, ea_1, h⟩ := x_some_e h
    refine ev_at (st' := [va_rf (some a_1), .int v2]) rfl (by rw [ea_1]) ?_
    obtain ⟨c_2, h⟩ := x_chk_e h
    refine ev_get (C := RX5) (T := TX5) (k := 4) inX5 (xE_6 c_2) rfl (by decide) wd_905 (Or.inl rfl) rfl dX7_printLong_74 ?_
    by_cases c_3 : (σ.I 504 a_1) ≤ v2
    · rw [if_pos c_3] at h
      refine ev_icmp_ge (x := v2) (y := (σ.I 504 a_1)) (tgt := 96) dX7_printLong_77 (by decide) (fun _ => ?_) (fun q9 => absurd c_3 q9)
      refine ev_iconst (v := 0) dX7_printLong_96 (by decide) ?_
      refine ev_istore_n (i := 2) (lv' := [(2, .int 0), (0, va_rf (some a0)), (1, va_rf v1)]) dX7_printLong_97 rfl (by decide) (by simp [x_cat, x_catI, x_catJ]) ?_
      exact ev_sub [1, 2, 0] rfl (ev_X7_printLong_L98 hO hP P.N h)
    · rw [if_neg c_3] at h
      refine ev_icmp_ge (x := v2) (y := (σ.I 504 a_1)) (tgt := 96) dX7_printLong_77 (by decide) (fun q9 => absurd q9 c_3) (fun _ => ?_)
      refine ev_aload_n (j := 0) (x := (some a0)) dX7_printLong_80 rfl rfl ?_
      refine ev_aload_n (j := 1) (x := v1) dX7_printLong_81 rfl rfl ?_
      refine ev_at (st' := [va_rf (some a_1), va_rf (some a0)]) rfl (by rw [ea_1]) ?_
      refine ev_get (C := RX5) (T := TX5) (k := 3) inX5 (xE_6 c_2) rfl (by decide) wd_906 (Or.inl rfl) rfl dX7_printLong_82 ?_
      refine ev_iload_n (j := 2) (x := v2) dX7_printLong_85 rfl rfl ?_
      obtain ⟨a_4, ea_4, h⟩ := x_some_e h
      refine ev_at (st' := [.int v2, va_rf (some a_4), va_rf (some a0)]) rfl (by rw [ea_4]) ?_
      obtain ⟨c_5, h⟩ := x_chk_e h
      refine ev_aald_26 c_5.1 c_5.2 dX7_printLong_86 ?_
      obtain ⟨c_9, h⟩ := x_chk_e h
      rcases x_bind_e h with ⟨v_6, σ_7, h_8, h⟩ | ⟨E_11, σ_7, h_8, h⟩
      · have z9 := x_call (M := mX7_printLong) (M' := mX7_printLongNet) (pc := 87) (st := [va_rf (σ.AR a_4 (Int32.toNatClampNeg v2)), va_rf (some a0)]) (rest := []) (av := [va_rf (some a0), va_rf (σ.AR a_4 (Int32.toNatClampNeg v2))]) (x_linkV (M := mX7_printLong) (M' := mX7_printLongNet) (As := [va_rf (σ.AR a_4 (Int32.toNatClampNeg v2))]) (index := 93) (C := RX7) (T := TX7) (xE_8 c_9) rfl wd_908 wd_909 (wG_in (List.mem_append_left _ (List.mem_of_getElem? (i := 26) rfl)) rfl) xw_X7_printLongNet rfl (by decide) rfl rfl dX7_printLong_87) (ev_X7_printLongNet hO hP h_8) xw_X7_printLongNet rfl wd_138 dX7_printLong_87 (by decide) (by decide) (by simp [x_cat, x_catI, x_catJ])
        refine x_callR z9 ?_
        refine ev_at (st' := []) rfl rfl ?_
        obtain ⟨v_10, ev_10, h⟩ := x_let_e h
        refine ev_iinc (j := 2) (x := v2) (v := v_10) (lv' := [(2, .int v_10), (0, va_rf (some a0)), (1, va_rf v1)]) dX7_printLong_90 rfl (by rw [ev_10]; rfl) (by decide) (by simp [x_cat, x_catI, x_catJ]) ?_
        refine ev_goto (tgt := 72) dX7_printLong_93 (by decide) ?_
        exact ev_sub [1, 2, 0] rfl (ih h)
      · have z9 := x_call (M := mX7_printLong) (M' := mX7_printLongNet) (pc := 87) (st := [va_rf (σ.AR a_4 (Int32.toNatClampNeg v2)), va_rf (some a0)]) (rest := []) (av := [va_rf (some a0), va_rf (σ.AR a_4 (Int32.toNatClampNeg v2))]) (x_linkV (M := mX7_printLong) (M' := mX7_printLongNet) (As := [va_rf (σ.AR a_4 (Int32.toNatClampNeg v2))]) (index := 93) (C := RX7) (T := TX7) (xE_8 c_9) rfl wd_908 wd_909 (wG_in (List.mem_append_left _ (List.mem_of_getElem? (i := 26) rfl)) rfl) xw_X7_printLongNet rfl (by decide) rfl rfl dX7_printLong_87) (ev_X7_printLongNet hO hP h_8) xw_X7_printLongNet rfl wd_138 dX7_printLong_87 (by decide) (by decide) (by simp [x_cat, x_catI, x_catJ])
        cases h
        exact x_callX z9 (evX_out rfl)
set_option maxHeartbeats 4000000 in
set_option maxRecDepth 100000 in
theorem ev_X7_printLong_L22 {l : Launch} {G : xG} (hO : x_OK l G) {P : xP} (hP : x_PG P G) {a0 : Nat} : ∀ (n : Nat) {v1 : Option Nat} {v2 : Int32} {σ σ' : xS} {rr : Unit ⊕ String}, dm_X7_printLong_L22 P a0 n v1 v2 σ = some (rr, σ') → Ev l G mX7_printLong 22 [(0, va_rf (some a0)), (1, va_rf v1), (2, .int v2)] [] σ (xrV rr) σ' := by
  intro n
  induction n with
  | zero => intro v1 v2 σ σ' rr h; cases h
  | succ n ih =>
    intro v1 v2 σ σ' rr h
    rw [dm_X7_printLong_L22] at h
    refine ev_iload_n (j := 2) (x := v2) dX7_printLong_22 rfl rfl ?_
    refine ev_aload_n (j := 1) (x := v1) dX7_printLong_23 rfl rfl ?_
    obtain ⟨a_1, ea_1, h⟩ := x_some_e h
    refine ev_at (st' := [va_rf (some a_1), .int v2]) rfl (by rw [ea_1]) ?_
    obtain ⟨c_2, h⟩ := x_chk_e h
    refine ev_get (C := RX5) (T := TX5) (k := 5) inX5 (xE_6 c_2) rfl (by decide) wd_904 (Or.inl rfl) rfl dX7_printLong_24 ?_
    by_cases c_3 : (σ.I 505 a_1) ≤ v2
    · rw [if_pos c_3] at h
      refine ev_icmp_ge (x := v2) (y := (σ.I 505 a_1)) (tgt := 64) dX7_printLong_27 (by decide) (fun _ => ?_) (fun q9 => absurd c_3 q9)
      refine ev_aload_n (j := 0) (x := (some a0)) dX7_printLong_64 rfl rfl ?_
      refine ev_ldcS (q := ("NetlistForms$Printer", 88, ");\n", 1)) hP (List.mem_of_getElem? (i := 9) rfl) rfl dX7_printLong_65 ?_
      obtain ⟨c_7, h⟩ := x_chk_e h
      rcases x_bind_e h with ⟨v_4, σ_5, h_6, h⟩ | ⟨E_8, σ_5, h_6, h⟩
      · have z9 := x_call (M := mX7_printLong) (M' := mX7_putText) (pc := 67) (st := [va_rf (some (P.ad 1)), va_rf (some a0)]) (rest := []) (av := [va_rf (some a0), va_rf (some (P.ad 1))]) (x_linkV (M := mX7_printLong) (M' := mX7_putText) (As := [va_rf (some (P.ad 1))]) (index := 60) (C := RX7) (T := TX7) (xE_8 c_7) rfl wd_865 wd_866 (wG_in (List.mem_append_left _ (List.mem_of_getElem? (i := 23) rfl)) rfl) xw_X7_putText rfl (by decide) rfl rfl dX7_printLong_67) (ev_X7_putText hO hP h_6) xw_X7_putText rfl wd_138 dX7_printLong_67 (by decide) (by decide) (by simp [x_cat, x_catI, x_catJ])
        refine x_callR z9 ?_
        refine ev_at (st' := []) rfl rfl ?_
        refine ev_iconst (v := 0) dX7_printLong_70 (by decide) ?_
        refine ev_istore_n (i := 2) (lv' := [(2, .int 0), (0, va_rf (some a0)), (1, va_rf v1)]) dX7_printLong_71 rfl (by decide) (by simp [x_cat, x_catI, x_catJ]) ?_
        exact ev_sub [1, 2, 0] rfl (ev_X7_printLong_L72 hO hP P.N h)
      · have z9 := x_call (M := mX7_printLong) (M' := mX7_putText) (pc := 67) (st := [va_rf (some (P.ad 1)), va_rf (some a0)]) (rest := []) (av := [va_rf (some a0), va_rf (some (P.ad 1))]) (x_linkV (M := mX7_printLong) (M' := mX7_putText) (As := [va_rf (some (P.ad 1))]) (index := 60) (C := RX7) (T := TX7) (xE_8 c_7) rfl wd_865 wd_866 (wG_in (List.mem_append_left _ (List.mem_of_getElem? (i := 23) rfl)) rfl) xw_X7_putText rfl (by decide) rfl rfl dX7_printLong_67) (ev_X7_putText hO hP h_6) xw_X7_putText rfl wd_138 dX7_printLong_67 (by decide) (by decide) (by simp [x_cat, x_catI, x_catJ])
        cases h
        exact x_callX z9 (evX_out rfl)
    · rw [if_neg c_3] at h
      refine ev_icmp_ge (x := v2) (y := (σ.I 505 a_1)) (tgt := 64) dX7_printLong_27 (by decide) (fun q9 => absurd q9 c_3) (fun _ => ?_)
      refine ev_aload_n (j := 0) (x := (some a0)) dX7_printLong_30 rfl rfl ?_
      refine ev_iload_n (j := 2) (x := v2) dX7_printLong_31 rfl rfl ?_
      by_cases c_9 : v2 = 0
      · rw [if_pos c_9] at h
        refine ev_if_ne (x := v2) (tgt := 40) dX7_printLong_32 (by decide) (fun q9 => absurd c_9 q9) (fun _ => ?_)
        refine ev_ldcS (q := ("NetlistForms$Printer", 77, "", 0)) hP (List.mem_of_getElem? (i := 7) rfl) rfl dX7_printLong_35 ?_
        refine ev_goto (tgt := 42) dX7_printLong_37 (by decide) ?_
        exact ev_sub [0, 1, 2] rfl (ev_X7_printLong_p42 hO hP ih h)
      · rw [if_neg c_9] at h
        refine ev_if_ne (x := v2) (tgt := 40) dX7_printLong_32 (by decide) (fun _ => ?_) (fun q9 => absurd q9 c_9)
        refine ev_ldcS (q := ("NetlistForms$Printer", 79, ",", 2)) hP (List.mem_of_getElem? (i := 8) rfl) rfl dX7_printLong_40 ?_
        exact ev_sub [0, 1, 2] rfl (ev_X7_printLong_p42 hO hP ih h)
set_option maxHeartbeats 4000000 in
set_option maxRecDepth 100000 in
theorem ev_X7_printLong {l : Launch} {G : xG} (hO : x_OK l G) {P : xP} (hP : x_PG P G) {a0 : Nat} {v1 : Option Nat} {σ σ' : xS} {rr : Unit ⊕ String} (h : dm_X7_printLong P a0 v1 σ = some (rr, σ')) : EvM l G mX7_printLong [va_rf (some a0), va_rf v1] σ (xrV rr) σ' := by
  unfold dm_X7_printLong at h
  refine evM_of hO (by decide +kernel) (x_lenI (by simp [x_cat, x_catI, x_catJ, mX7_printLong, xM.maxL])) ?_
  refine Eq.mp (congrArg (fun z => Ev l G mX7_printLong 0 z [] σ (xrV rr) σ') (show [(0, va_rf (some a0)), (1, va_rf v1)] = lv_args 0 [va_rf (some a0), va_rf v1] by simp [lv_args, x_cat, x_catI, x_catJ])) ?_
  refine ev_aload_n (j := 0) (x := (some a0)) dX7_printLong_0 rfl rfl ?_
  refine ev_ldcS (q := ("NetlistForms$Printer", 58, "module ", 20)) hP (List.mem_of_getElem? (i := 6) rfl) rfl dX7_printLong_1 ?_
  obtain ⟨c_4, h⟩ := x_chk_e h
  rcases x_bind_e h with ⟨v_1, σ_2, h_3, h⟩ | ⟨E_17, σ_2, h_3, h⟩
  · have z9 := x_call (M := mX7_printLong) (M' := mX7_putText) (pc := 3) (st := [va_rf (some (P.ad 20)), va_rf (some a0)]) (rest := []) (av := [va_rf (some a0), va_rf (some (P.ad 20))]) (x_linkV (M := mX7_printLong) (M' := mX7_putText) (As := [va_rf (some (P.ad 20))]) (index := 60) (C := RX7) (T := TX7) (xE_8 c_4) rfl wd_865 wd_866 (wG_in (List.mem_append_left _ (List.mem_of_getElem? (i := 23) rfl)) rfl) xw_X7_putText rfl (by decide) rfl rfl dX7_printLong_3) (ev_X7_putText hO hP h_3) xw_X7_putText rfl wd_138 dX7_printLong_3 (by decide) (by decide) (by simp [x_cat, x_catI, x_catJ])
    refine x_callR z9 ?_
    refine ev_at (st' := []) rfl rfl ?_
    refine ev_aload_n (j := 0) (x := (some a0)) dX7_printLong_6 rfl rfl ?_
    refine ev_aload_n (j := 1) (x := v1) dX7_printLong_7 rfl rfl ?_
    obtain ⟨a_5, ea_5, h⟩ := x_some_e h
    refine ev_at (st' := [va_rf (some a_5), va_rf (some a0)]) rfl (by rw [ea_5]) ?_
    obtain ⟨c_6, h⟩ := x_chk_e h
    refine ev_get (C := RX5) (T := TX5) (k := 1) inX5 (xE_6 c_6) rfl (by decide) wd_903 (Or.inl rfl) rfl dX7_printLong_8 ?_
    obtain ⟨c_10, h⟩ := x_chk_e h
    rcases x_bind_e h with ⟨v_7, σ_8, h_9, h⟩ | ⟨E_16, σ_8, h_9, h⟩
    · have z9 := x_call (M := mX7_printLong) (M' := mX7_putName) (pc := 11) (st := [.long (σ_2.J 501 a_5), va_rf (some a0)]) (rest := []) (av := [va_rf (some a0), .long (σ_2.J 501 a_5)]) (x_linkV (M := mX7_printLong) (M' := mX7_putName) (As := [.long (σ_2.J 501 a_5)]) (index := 70) (C := RX7) (T := TX7) (xE_8 c_10) rfl wd_873 wd_874 (wG_in (List.mem_append_left _ (List.mem_of_getElem? (i := 25) rfl)) rfl) xw_X7_putName rfl (by decide) rfl rfl dX7_printLong_11) (ev_X7_putName hO hP h_9) xw_X7_putName rfl wd_138 dX7_printLong_11 (by decide) (by decide) (by simp [x_cat, x_catI, x_catJ])
      refine x_callR z9 ?_
      refine ev_at (st' := []) rfl rfl ?_
      refine ev_aload_n (j := 0) (x := (some a0)) dX7_printLong_14 rfl rfl ?_
      refine ev_bipush (v := 40) dX7_printLong_15 (by decide) ?_
      obtain ⟨c_14, h⟩ := x_chk_e h
      rcases x_bind_e h with ⟨v_11, σ_12, h_13, h⟩ | ⟨E_15, σ_12, h_13, h⟩
      · have z9 := x_call (M := mX7_printLong) (M' := mX7_put) (pc := 17) (st := [.int 40, va_rf (some a0)]) (rest := []) (av := [va_rf (some a0), .int 40]) (x_linkV (M := mX7_printLong) (M' := mX7_put) (As := [.int 40]) (index := 38) (C := RX7) (T := TX7) (xE_8 c_14) rfl wd_860 wd_861 (wG_in (List.mem_append_left _ (List.mem_of_getElem? (i := 24) rfl)) rfl) xw_X7_put rfl (by decide) rfl rfl dX7_printLong_17) (ev_X7_put hO hP h_13) xw_X7_put rfl wd_138 dX7_printLong_17 (by decide) (by decide) (by simp [x_cat, x_catI, x_catJ])
        refine x_callR z9 ?_
        refine ev_at (st' := []) rfl rfl ?_
        refine ev_iconst (v := 0) dX7_printLong_20 (by decide) ?_
        refine ev_istore_n (i := 2) (lv' := [(2, .int 0), (0, va_rf (some a0)), (1, va_rf v1)]) dX7_printLong_21 rfl (by decide) (by simp [x_cat, x_catI, x_catJ]) ?_
        exact ev_sub [1, 2, 0] rfl (ev_X7_printLong_L22 hO hP P.N h)
      · have z9 := x_call (M := mX7_printLong) (M' := mX7_put) (pc := 17) (st := [.int 40, va_rf (some a0)]) (rest := []) (av := [va_rf (some a0), .int 40]) (x_linkV (M := mX7_printLong) (M' := mX7_put) (As := [.int 40]) (index := 38) (C := RX7) (T := TX7) (xE_8 c_14) rfl wd_860 wd_861 (wG_in (List.mem_append_left _ (List.mem_of_getElem? (i := 24) rfl)) rfl) xw_X7_put rfl (by decide) rfl rfl dX7_printLong_17) (ev_X7_put hO hP h_13) xw_X7_put rfl wd_138 dX7_printLong_17 (by decide) (by decide) (by simp [x_cat, x_catI, x_catJ])
        cases h
        exact x_callX z9 (evX_out rfl)
    · have z9 := x_call (M := mX7_printLong) (M' := mX7_putName) (pc := 11) (st := [.long (σ_2.J 501 a_5), va_rf (some a0)]) (rest := []) (av := [va_rf (some a0), .long (σ_2.J 501 a_5)]) (x_linkV (M := mX7_printLong) (M' := mX7_putName) (As := [.long (σ_2.J 501 a_5)]) (index := 70) (C := RX7) (T := TX7) (xE_8 c_10) rfl wd_873 wd_874 (wG_in (List.mem_append_left _ (List.mem_of_getElem? (i := 25) rfl)) rfl) xw_X7_putName rfl (by decide) rfl rfl dX7_printLong_11) (ev_X7_putName hO hP h_9) xw_X7_putName rfl wd_138 dX7_printLong_11 (by decide) (by decide) (by simp [x_cat, x_catI, x_catJ])
      cases h
      exact x_callX z9 (evX_out rfl)
  · have z9 := x_call (M := mX7_printLong) (M' := mX7_putText) (pc := 3) (st := [va_rf (some (P.ad 20)), va_rf (some a0)]) (rest := []) (av := [va_rf (some a0), va_rf (some (P.ad 20))]) (x_linkV (M := mX7_printLong) (M' := mX7_putText) (As := [va_rf (some (P.ad 20))]) (index := 60) (C := RX7) (T := TX7) (xE_8 c_4) rfl wd_865 wd_866 (wG_in (List.mem_append_left _ (List.mem_of_getElem? (i := 23) rfl)) rfl) xw_X7_putText rfl (by decide) rfl rfl dX7_printLong_3) (ev_X7_putText hO hP h_3) xw_X7_putText rfl wd_138 dX7_printLong_3 (by decide) (by decide) (by simp [x_cat, x_catI, x_catJ])
    cases h
    exact x_callX z9 (evX_out rfl)
set_option maxHeartbeats 4000000 in
set_option maxRecDepth 100000 in
theorem ev_X7_printShortNet_p28 {l : Launch} {G : xG} (hO : x_OK l G) {P : xP} (hP : x_PG P G) {a0 : Nat} {v1 : Option Nat} {s0 : Option Nat} {s1 : Option Nat} {σ σ' : xS} {rr : Unit ⊕ String} (h : dm_X7_printShortNet_p28 P a0 v1 s0 s1 σ = some (rr, σ')) : Ev l G mX7_printShortNet 28 [(0, va_rf (some a0)), (1, va_rf v1)] [va_rf s1, va_rf s0] σ (xrV rr) σ' := by
  unfold dm_X7_printShortNet_p28 at h
  obtain ⟨a_1, ea_1, h⟩ := x_some_e h
  refine ev_at (st' := [va_rf s1, va_rf (some a_1)]) rfl (by rw [ea_1]) ?_
  obtain ⟨c_5, h⟩ := x_chk_e h
  rcases x_bind_e h with ⟨v_2, σ_3, h_4, h⟩ | ⟨E_29, σ_3, h_4, h⟩
  · have z9 := x_call (M := mX7_printShortNet) (M' := mX7_putText) (pc := 28) (st := [va_rf s1, va_rf (some a_1)]) (rest := []) (av := [va_rf (some a_1), va_rf s1]) (x_linkV (M := mX7_printShortNet) (M' := mX7_putText) (As := [va_rf s1]) (index := 60) (C := RX7) (T := TX7) (xE_8 c_5) rfl wd_865 wd_866 (wG_in (List.mem_append_left _ (List.mem_of_getElem? (i := 23) rfl)) rfl) xw_X7_putText rfl (by decide) rfl rfl dX7_printShortNet_28) (ev_X7_putText hO hP h_4) xw_X7_putText rfl wd_138 dX7_printShortNet_28 (by decide) (by decide) (by simp [x_cat, x_catI, x_catJ])
    refine x_callR z9 ?_
    refine ev_at (st' := []) rfl rfl ?_
    refine ev_aload_n (j := 0) (x := (some a0)) dX7_printShortNet_31 rfl rfl ?_
    refine ev_aload_n (j := 1) (x := v1) dX7_printShortNet_32 rfl rfl ?_
    obtain ⟨a_6, ea_6, h⟩ := x_some_e h
    refine ev_at (st' := [va_rf (some a_6), va_rf (some a0)]) rfl (by rw [ea_6]) ?_
    obtain ⟨c_7, h⟩ := x_chk_e h
    refine ev_get (C := RX4) (T := TX4) (k := 0) inX4 (xE_5 c_7) rfl (by decide) wd_871 (Or.inl rfl) rfl dX7_printShortNet_33 ?_
    obtain ⟨c_11, h⟩ := x_chk_e h
    rcases x_bind_e h with ⟨v_8, σ_9, h_10, h⟩ | ⟨E_28, σ_9, h_10, h⟩
    · have z9 := x_call (M := mX7_printShortNet) (M' := mX7_putName) (pc := 36) (st := [.long (σ_3.J 400 a_6), va_rf (some a0)]) (rest := []) (av := [va_rf (some a0), .long (σ_3.J 400 a_6)]) (x_linkV (M := mX7_printShortNet) (M' := mX7_putName) (As := [.long (σ_3.J 400 a_6)]) (index := 70) (C := RX7) (T := TX7) (xE_8 c_11) rfl wd_873 wd_874 (wG_in (List.mem_append_left _ (List.mem_of_getElem? (i := 25) rfl)) rfl) xw_X7_putName rfl (by decide) rfl rfl dX7_printShortNet_36) (ev_X7_putName hO hP h_10) xw_X7_putName rfl wd_138 dX7_printShortNet_36 (by decide) (by decide) (by simp [x_cat, x_catI, x_catJ])
      refine x_callR z9 ?_
      refine ev_at (st' := []) rfl rfl ?_
      refine ev_aload_n (j := 0) (x := (some a0)) dX7_printShortNet_39 rfl rfl ?_
      refine ev_bipush (v := 32) dX7_printShortNet_40 (by decide) ?_
      obtain ⟨c_15, h⟩ := x_chk_e h
      rcases x_bind_e h with ⟨v_12, σ_13, h_14, h⟩ | ⟨E_27, σ_13, h_14, h⟩
      · have z9 := x_call (M := mX7_printShortNet) (M' := mX7_put) (pc := 42) (st := [.int 32, va_rf (some a0)]) (rest := []) (av := [va_rf (some a0), .int 32]) (x_linkV (M := mX7_printShortNet) (M' := mX7_put) (As := [.int 32]) (index := 38) (C := RX7) (T := TX7) (xE_8 c_15) rfl wd_860 wd_861 (wG_in (List.mem_append_left _ (List.mem_of_getElem? (i := 24) rfl)) rfl) xw_X7_put rfl (by decide) rfl rfl dX7_printShortNet_42) (ev_X7_put hO hP h_14) xw_X7_put rfl wd_138 dX7_printShortNet_42 (by decide) (by decide) (by simp [x_cat, x_catI, x_catJ])
        refine x_callR z9 ?_
        refine ev_at (st' := []) rfl rfl ?_
        refine ev_aload_n (j := 0) (x := (some a0)) dX7_printShortNet_45 rfl rfl ?_
        refine ev_aload_n (j := 1) (x := v1) dX7_printShortNet_46 rfl rfl ?_
        refine ev_at (st' := [va_rf (some a_6), va_rf (some a0)]) rfl (by rw [ea_6]) ?_
        obtain ⟨c_16, h⟩ := x_chk_e h
        refine ev_get (C := RX4) (T := TX4) (k := 2) inX4 (xE_5 c_16) rfl (by decide) wd_867 (Or.inl rfl) rfl dX7_printShortNet_47 ?_
        obtain ⟨c_20, h⟩ := x_chk_e h
        rcases x_bind_e h with ⟨v_17, σ_18, h_19, h⟩ | ⟨E_26, σ_18, h_19, h⟩
        · have z9 := x_call (M := mX7_printShortNet) (M' := mX7_putDigit) (pc := 50) (st := [.int (σ_13.I 402 a_6), va_rf (some a0)]) (rest := []) (av := [va_rf (some a0), .int (σ_13.I 402 a_6)]) (x_linkV (M := mX7_printShortNet) (M' := mX7_putDigit) (As := [.int (σ_13.I 402 a_6)]) (index := 140) (C := RX7) (T := TX7) (xE_8 c_20) rfl wd_869 wd_870 (wG_in (List.mem_append_left _ (List.mem_of_getElem? (i := 27) rfl)) rfl) xw_X7_putDigit rfl (by decide) rfl rfl dX7_printShortNet_50) (ev_X7_putDigit hO hP h_19) xw_X7_putDigit rfl wd_138 dX7_printShortNet_50 (by decide) (by decide) (by simp [x_cat, x_catI, x_catJ])
          refine x_callR z9 ?_
          refine ev_at (st' := []) rfl rfl ?_
          refine ev_aload_n (j := 0) (x := (some a0)) dX7_printShortNet_53 rfl rfl ?_
          refine ev_ldcS (q := ("NetlistForms$Printer", 113, ";\n", 4)) hP (List.mem_of_getElem? (i := 11) rfl) rfl dX7_printShortNet_54 ?_
          obtain ⟨c_24, h⟩ := x_chk_e h
          rcases x_bind_e h with ⟨v_21, σ_22, h_23, h⟩ | ⟨E_25, σ_22, h_23, h⟩
          · have z9 := x_call (M := mX7_printShortNet) (M' := mX7_putText) (pc := 56) (st := [va_rf (some (P.ad 4)), va_rf (some a0)]) (rest := []) (av := [va_rf (some a0), va_rf (some (P.ad 4))]) (x_linkV (M := mX7_printShortNet) (M' := mX7_putText) (As := [va_rf (some (P.ad 4))]) (index := 60) (C := RX7) (T := TX7) (xE_8 c_24) rfl wd_865 wd_866 (wG_in (List.mem_append_left _ (List.mem_of_getElem? (i := 23) rfl)) rfl) xw_X7_putText rfl (by decide) rfl rfl dX7_printShortNet_56) (ev_X7_putText hO hP h_23) xw_X7_putText rfl wd_138 dX7_printShortNet_56 (by decide) (by decide) (by simp [x_cat, x_catI, x_catJ])
            refine x_callR z9 ?_
            refine ev_at (st' := []) rfl rfl ?_
            cases h
            exact ev_vret rfl dX7_printShortNet_59
          · have z9 := x_call (M := mX7_printShortNet) (M' := mX7_putText) (pc := 56) (st := [va_rf (some (P.ad 4)), va_rf (some a0)]) (rest := []) (av := [va_rf (some a0), va_rf (some (P.ad 4))]) (x_linkV (M := mX7_printShortNet) (M' := mX7_putText) (As := [va_rf (some (P.ad 4))]) (index := 60) (C := RX7) (T := TX7) (xE_8 c_24) rfl wd_865 wd_866 (wG_in (List.mem_append_left _ (List.mem_of_getElem? (i := 23) rfl)) rfl) xw_X7_putText rfl (by decide) rfl rfl dX7_printShortNet_56) (ev_X7_putText hO hP h_23) xw_X7_putText rfl wd_138 dX7_printShortNet_56 (by decide) (by decide) (by simp [x_cat, x_catI, x_catJ])
            cases h
            exact x_callX z9 (evX_out rfl)
        · have z9 := x_call (M := mX7_printShortNet) (M' := mX7_putDigit) (pc := 50) (st := [.int (σ_13.I 402 a_6), va_rf (some a0)]) (rest := []) (av := [va_rf (some a0), .int (σ_13.I 402 a_6)]) (x_linkV (M := mX7_printShortNet) (M' := mX7_putDigit) (As := [.int (σ_13.I 402 a_6)]) (index := 140) (C := RX7) (T := TX7) (xE_8 c_20) rfl wd_869 wd_870 (wG_in (List.mem_append_left _ (List.mem_of_getElem? (i := 27) rfl)) rfl) xw_X7_putDigit rfl (by decide) rfl rfl dX7_printShortNet_50) (ev_X7_putDigit hO hP h_19) xw_X7_putDigit rfl wd_138 dX7_printShortNet_50 (by decide) (by decide) (by simp [x_cat, x_catI, x_catJ])
          cases h
          exact x_callX z9 (evX_out rfl)
      · have z9 := x_call (M := mX7_printShortNet) (M' := mX7_put) (pc := 42) (st := [.int 32, va_rf (some a0)]) (rest := []) (av := [va_rf (some a0), .int 32]) (x_linkV (M := mX7_printShortNet) (M' := mX7_put) (As := [.int 32]) (index := 38) (C := RX7) (T := TX7) (xE_8 c_15) rfl wd_860 wd_861 (wG_in (List.mem_append_left _ (List.mem_of_getElem? (i := 24) rfl)) rfl) xw_X7_put rfl (by decide) rfl rfl dX7_printShortNet_42) (ev_X7_put hO hP h_14) xw_X7_put rfl wd_138 dX7_printShortNet_42 (by decide) (by decide) (by simp [x_cat, x_catI, x_catJ])
        cases h
        exact x_callX z9 (evX_out rfl)
    · have z9 := x_call (M := mX7_printShortNet) (M' := mX7_putName) (pc := 36) (st := [.long (σ_3.J 400 a_6), va_rf (some a0)]) (rest := []) (av := [va_rf (some a0), .long (σ_3.J 400 a_6)]) (x_linkV (M := mX7_printShortNet) (M' := mX7_putName) (As := [.long (σ_3.J 400 a_6)]) (index := 70) (C := RX7) (T := TX7) (xE_8 c_11) rfl wd_873 wd_874 (wG_in (List.mem_append_left _ (List.mem_of_getElem? (i := 25) rfl)) rfl) xw_X7_putName rfl (by decide) rfl rfl dX7_printShortNet_36) (ev_X7_putName hO hP h_10) xw_X7_putName rfl wd_138 dX7_printShortNet_36 (by decide) (by decide) (by simp [x_cat, x_catI, x_catJ])
      cases h
      exact x_callX z9 (evX_out rfl)
  · have z9 := x_call (M := mX7_printShortNet) (M' := mX7_putText) (pc := 28) (st := [va_rf s1, va_rf (some a_1)]) (rest := []) (av := [va_rf (some a_1), va_rf s1]) (x_linkV (M := mX7_printShortNet) (M' := mX7_putText) (As := [va_rf s1]) (index := 60) (C := RX7) (T := TX7) (xE_8 c_5) rfl wd_865 wd_866 (wG_in (List.mem_append_left _ (List.mem_of_getElem? (i := 23) rfl)) rfl) xw_X7_putText rfl (by decide) rfl rfl dX7_printShortNet_28) (ev_X7_putText hO hP h_4) xw_X7_putText rfl wd_138 dX7_printShortNet_28 (by decide) (by decide) (by simp [x_cat, x_catI, x_catJ])
    cases h
    exact x_callX z9 (evX_out rfl)
set_option maxHeartbeats 4000000 in
set_option maxRecDepth 100000 in
theorem ev_X7_printShortNet {l : Launch} {G : xG} (hO : x_OK l G) {P : xP} (hP : x_PG P G) {a0 : Nat} {v1 : Option Nat} {σ σ' : xS} {rr : Unit ⊕ String} (h : dm_X7_printShortNet P a0 v1 σ = some (rr, σ')) : EvM l G mX7_printShortNet [va_rf (some a0), va_rf v1] σ (xrV rr) σ' := by
  unfold dm_X7_printShortNet at h
  refine evM_of hO (by decide +kernel) (x_lenI (by simp [x_cat, x_catI, x_catJ, mX7_printShortNet, xM.maxL])) ?_
  refine Eq.mp (congrArg (fun z => Ev l G mX7_printShortNet 0 z [] σ (xrV rr) σ') (show [(0, va_rf (some a0)), (1, va_rf v1)] = lv_args 0 [va_rf (some a0), va_rf v1] by simp [lv_args, x_cat, x_catI, x_catJ])) ?_
  refine ev_aload_n (j := 0) (x := (some a0)) dX7_printShortNet_0 rfl rfl ?_
  refine ev_aload_n (j := 1) (x := v1) dX7_printShortNet_1 rfl rfl ?_
  obtain ⟨a_1, ea_1, h⟩ := x_some_e h
  refine ev_at (st' := [va_rf (some a_1), va_rf (some a0)]) rfl (by rw [ea_1]) ?_
  obtain ⟨c_2, h⟩ := x_chk_e h
  refine ev_get (C := RX4) (T := TX4) (k := 1) inX4 (xE_5 c_2) rfl (by decide) wd_863 (Or.inl rfl) rfl dX7_printShortNet_2 ?_
  by_cases c_3 : (σ.I 401 a_1) = 0
  · rw [if_pos c_3] at h
    refine ev_if_ne (x := (σ.I 401 a_1)) (tgt := 13) dX7_printShortNet_5 (by decide) (fun q9 => absurd c_3 q9) (fun _ => ?_)
    refine ev_ldcS (q := ("NetlistForms$Printer", 189, "i ", 14)) hP (List.mem_of_getElem? (i := 20) rfl) rfl dX7_printShortNet_8 ?_
    refine ev_goto (tgt := 28) dX7_printShortNet_10 (by decide) ?_
    exact ev_sub [0, 1] rfl (ev_X7_printShortNet_p28 hO hP h)
  · rw [if_neg c_3] at h
    refine ev_if_ne (x := (σ.I 401 a_1)) (tgt := 13) dX7_printShortNet_5 (by decide) (fun _ => ?_) (fun q9 => absurd q9 c_3)
    refine ev_aload_n (j := 1) (x := v1) dX7_printShortNet_13 rfl rfl ?_
    refine ev_at (st' := [va_rf (some a_1), va_rf (some a0)]) rfl (by rw [ea_1]) ?_
    refine ev_get (C := RX4) (T := TX4) (k := 1) inX4 (xE_5 c_2) rfl (by decide) wd_863 (Or.inl rfl) rfl dX7_printShortNet_14 ?_
    refine ev_iconst (v := 1) dX7_printShortNet_17 (by decide) ?_
    by_cases c_4 : (σ.I 401 a_1) = 1
    · rw [if_pos c_4] at h
      refine ev_icmp_ne (x := (σ.I 401 a_1)) (y := 1) (tgt := 26) dX7_printShortNet_18 (by decide) (fun q9 => absurd c_4 q9) (fun _ => ?_)
      refine ev_ldcS (q := ("NetlistForms$Printer", 191, "o ", 22)) hP (List.mem_of_getElem? (i := 21) rfl) rfl dX7_printShortNet_21 ?_
      refine ev_goto (tgt := 28) dX7_printShortNet_23 (by decide) ?_
      exact ev_sub [0, 1] rfl (ev_X7_printShortNet_p28 hO hP h)
    · rw [if_neg c_4] at h
      refine ev_icmp_ne (x := (σ.I 401 a_1)) (y := 1) (tgt := 26) dX7_printShortNet_18 (by decide) (fun _ => ?_) (fun q9 => absurd q9 c_4)
      refine ev_ldcS (q := ("NetlistForms$Printer", 193, "w ", 28)) hP (List.mem_of_getElem? (i := 22) rfl) rfl dX7_printShortNet_26 ?_
      exact ev_sub [0, 1] rfl (ev_X7_printShortNet_p28 hO hP h)
set_option maxHeartbeats 4000000 in
set_option maxRecDepth 100000 in
theorem ev_X7_printShortInstance_L30 {l : Launch} {G : xG} (hO : x_OK l G) {P : xP} (hP : x_PG P G) {a0 : Nat} : ∀ (n : Nat) {v1 : Option Nat} {v2 : Int32} {σ σ' : xS} {rr : Unit ⊕ String}, dm_X7_printShortInstance_L30 P a0 n v1 v2 σ = some (rr, σ') → Ev l G mX7_printShortInstance 30 [(0, va_rf (some a0)), (1, va_rf v1), (2, .int v2)] [] σ (xrV rr) σ' := by
  intro n
  induction n with
  | zero => intro v1 v2 σ σ' rr h; cases h
  | succ n ih =>
    intro v1 v2 σ σ' rr h
    rw [dm_X7_printShortInstance_L30] at h
    refine ev_iload_n (j := 2) (x := v2) dX7_printShortInstance_30 rfl rfl ?_
    refine ev_aload_n (j := 1) (x := v1) dX7_printShortInstance_31 rfl rfl ?_
    obtain ⟨a_1, ea_1, h⟩ := x_some_e h
    refine ev_at (st' := [va_rf (some a_1), .int v2]) rfl (by rw [ea_1]) ?_
    obtain ⟨c_5, h⟩ := x_chk_e h
    rcases x_bind_e h with ⟨v_2, σ_3, h_4, h⟩ | ⟨E_28, σ_3, h_4, h⟩
    · have z9 := x_call (M := mX7_printShortInstance) (M' := mX1_pinCount) (pc := 32) (st := [va_rf (some a_1), .int v2]) (rest := [.int v2]) (av := [va_rf (some a_1)]) (x_linkV (M := mX7_printShortInstance) (M' := mX1_pinCount) (As := []) (index := 159) (C := RX1) (T := TX1) (xE_2 c_5) rfl wd_891 wd_52 wd_50 xw_X1_pinCount rfl (by decide) rfl rfl dX7_printShortInstance_32) (ev_X1_pinCount hO hP h_4) xw_X1_pinCount rfl wd_53 dX7_printShortInstance_32 (by decide) (by decide) (by simp [x_cat, x_catI, x_catJ])
      refine x_callR z9 ?_
      refine ev_at (st' := [.int v_2, .int v2]) rfl rfl ?_
      by_cases c_6 : v_2 ≤ v2
      · rw [if_pos c_6] at h
        refine ev_icmp_ge (x := v2) (y := v_2) (tgt := 59) dX7_printShortInstance_35 (by decide) (fun _ => ?_) (fun q9 => absurd c_6 q9)
        refine ev_aload_n (j := 0) (x := (some a0)) dX7_printShortInstance_59 rfl rfl ?_
        refine ev_ldcS (q := ("NetlistForms$Printer", 113, ";\n", 4)) hP (List.mem_of_getElem? (i := 11) rfl) rfl dX7_printShortInstance_60 ?_
        obtain ⟨c_10, h⟩ := x_chk_e h
        rcases x_bind_e h with ⟨v_7, σ_8, h_9, h⟩ | ⟨E_11, σ_8, h_9, h⟩
        · have z9 := x_call (M := mX7_printShortInstance) (M' := mX7_putText) (pc := 62) (st := [va_rf (some (P.ad 4)), va_rf (some a0)]) (rest := []) (av := [va_rf (some a0), va_rf (some (P.ad 4))]) (x_linkV (M := mX7_printShortInstance) (M' := mX7_putText) (As := [va_rf (some (P.ad 4))]) (index := 60) (C := RX7) (T := TX7) (xE_8 c_10) rfl wd_865 wd_866 (wG_in (List.mem_append_left _ (List.mem_of_getElem? (i := 23) rfl)) rfl) xw_X7_putText rfl (by decide) rfl rfl dX7_printShortInstance_62) (ev_X7_putText hO hP h_9) xw_X7_putText rfl wd_138 dX7_printShortInstance_62 (by decide) (by decide) (by simp [x_cat, x_catI, x_catJ])
          refine x_callR z9 ?_
          refine ev_at (st' := []) rfl rfl ?_
          cases h
          exact ev_vret rfl dX7_printShortInstance_65
        · have z9 := x_call (M := mX7_printShortInstance) (M' := mX7_putText) (pc := 62) (st := [va_rf (some (P.ad 4)), va_rf (some a0)]) (rest := []) (av := [va_rf (some a0), va_rf (some (P.ad 4))]) (x_linkV (M := mX7_printShortInstance) (M' := mX7_putText) (As := [va_rf (some (P.ad 4))]) (index := 60) (C := RX7) (T := TX7) (xE_8 c_10) rfl wd_865 wd_866 (wG_in (List.mem_append_left _ (List.mem_of_getElem? (i := 23) rfl)) rfl) xw_X7_putText rfl (by decide) rfl rfl dX7_printShortInstance_62) (ev_X7_putText hO hP h_9) xw_X7_putText rfl wd_138 dX7_printShortInstance_62 (by decide) (by decide) (by simp [x_cat, x_catI, x_catJ])
          cases h
          exact x_callX z9 (evX_out rfl)
      · rw [if_neg c_6] at h
        refine ev_icmp_ge (x := v2) (y := v_2) (tgt := 59) dX7_printShortInstance_35 (by decide) (fun q9 => absurd q9 c_6) (fun _ => ?_)
        refine ev_aload_n (j := 0) (x := (some a0)) dX7_printShortInstance_38 rfl rfl ?_
        refine ev_bipush (v := 32) dX7_printShortInstance_39 (by decide) ?_
        obtain ⟨c_15, h⟩ := x_chk_e h
        rcases x_bind_e h with ⟨v_12, σ_13, h_14, h⟩ | ⟨E_27, σ_13, h_14, h⟩
        · have z9 := x_call (M := mX7_printShortInstance) (M' := mX7_put) (pc := 41) (st := [.int 32, va_rf (some a0)]) (rest := []) (av := [va_rf (some a0), .int 32]) (x_linkV (M := mX7_printShortInstance) (M' := mX7_put) (As := [.int 32]) (index := 38) (C := RX7) (T := TX7) (xE_8 c_15) rfl wd_860 wd_861 (wG_in (List.mem_append_left _ (List.mem_of_getElem? (i := 24) rfl)) rfl) xw_X7_put rfl (by decide) rfl rfl dX7_printShortInstance_41) (ev_X7_put hO hP h_14) xw_X7_put rfl wd_138 dX7_printShortInstance_41 (by decide) (by decide) (by simp [x_cat, x_catI, x_catJ])
          refine x_callR z9 ?_
          refine ev_at (st' := []) rfl rfl ?_
          refine ev_aload_n (j := 0) (x := (some a0)) dX7_printShortInstance_44 rfl rfl ?_
          refine ev_aload_n (j := 1) (x := v1) dX7_printShortInstance_45 rfl rfl ?_
          refine ev_iload_n (j := 2) (x := v2) dX7_printShortInstance_46 rfl rfl ?_
          refine ev_at (st' := [.int v2, va_rf (some a_1), va_rf (some a0)]) rfl (by rw [ea_1]) ?_
          obtain ⟨c_19, h⟩ := x_chk_e h
          rcases x_bind_e h with ⟨v_16, σ_17, h_18, h⟩ | ⟨E_26, σ_17, h_18, h⟩
          · have z9 := x_call (M := mX7_printShortInstance) (M' := mX1_partAt) (pc := 47) (st := [.int v2, va_rf (some a_1), va_rf (some a0)]) (rest := [va_rf (some a0)]) (av := [va_rf (some a_1), .int v2]) (x_linkV (M := mX7_printShortInstance) (M' := mX1_partAt) (As := [.int v2]) (index := 166) (C := RX1) (T := TX1) (xE_2 c_19) rfl wd_892 wd_79 wd_77 xw_X1_partAt rfl (by decide) rfl rfl dX7_printShortInstance_47) (ev_X1_partAt hO hP h_18) xw_X1_partAt rfl wd_53 dX7_printShortInstance_47 (by decide) (by decide) (by simp [x_cat, x_catI, x_catJ])
            refine x_callR z9 ?_
            refine ev_at (st' := [va_rf v_16, va_rf (some a0)]) rfl rfl ?_
            obtain ⟨c_23, h⟩ := x_chk_e h
            rcases x_bind_e h with ⟨v_20, σ_21, h_22, h⟩ | ⟨E_25, σ_21, h_22, h⟩
            · have z9 := x_call (M := mX7_printShortInstance) (M' := mX7_printOrderedLink) (pc := 50) (st := [va_rf v_16, va_rf (some a0)]) (rest := []) (av := [va_rf (some a0), va_rf v_16]) (x_linkV (M := mX7_printShortInstance) (M' := mX7_printOrderedLink) (As := [va_rf v_16]) (index := 174) (C := RX7) (T := TX7) (xE_8 c_23) rfl wd_894 wd_895 (wG_in (List.mem_append_left _ (List.mem_of_getElem? (i := 32) rfl)) rfl) xw_X7_printOrderedLink rfl (by decide) rfl rfl dX7_printShortInstance_50) (ev_X7_printOrderedLink hO hP h_22) xw_X7_printOrderedLink rfl wd_138 dX7_printShortInstance_50 (by decide) (by decide) (by simp [x_cat, x_catI, x_catJ])
              refine x_callR z9 ?_
              refine ev_at (st' := []) rfl rfl ?_
              obtain ⟨v_24, ev_24, h⟩ := x_let_e h
              refine ev_iinc (j := 2) (x := v2) (v := v_24) (lv' := [(2, .int v_24), (0, va_rf (some a0)), (1, va_rf v1)]) dX7_printShortInstance_53 rfl (by rw [ev_24]; rfl) (by decide) (by simp [x_cat, x_catI, x_catJ]) ?_
              refine ev_goto (tgt := 30) dX7_printShortInstance_56 (by decide) ?_
              exact ev_sub [1, 2, 0] rfl (ih h)
            · have z9 := x_call (M := mX7_printShortInstance) (M' := mX7_printOrderedLink) (pc := 50) (st := [va_rf v_16, va_rf (some a0)]) (rest := []) (av := [va_rf (some a0), va_rf v_16]) (x_linkV (M := mX7_printShortInstance) (M' := mX7_printOrderedLink) (As := [va_rf v_16]) (index := 174) (C := RX7) (T := TX7) (xE_8 c_23) rfl wd_894 wd_895 (wG_in (List.mem_append_left _ (List.mem_of_getElem? (i := 32) rfl)) rfl) xw_X7_printOrderedLink rfl (by decide) rfl rfl dX7_printShortInstance_50) (ev_X7_printOrderedLink hO hP h_22) xw_X7_printOrderedLink rfl wd_138 dX7_printShortInstance_50 (by decide) (by decide) (by simp [x_cat, x_catI, x_catJ])
              cases h
              exact x_callX z9 (evX_out rfl)
          · have z9 := x_call (M := mX7_printShortInstance) (M' := mX1_partAt) (pc := 47) (st := [.int v2, va_rf (some a_1), va_rf (some a0)]) (rest := [va_rf (some a0)]) (av := [va_rf (some a_1), .int v2]) (x_linkV (M := mX7_printShortInstance) (M' := mX1_partAt) (As := [.int v2]) (index := 166) (C := RX1) (T := TX1) (xE_2 c_19) rfl wd_892 wd_79 wd_77 xw_X1_partAt rfl (by decide) rfl rfl dX7_printShortInstance_47) (ev_X1_partAt hO hP h_18) xw_X1_partAt rfl wd_53 dX7_printShortInstance_47 (by decide) (by decide) (by simp [x_cat, x_catI, x_catJ])
            cases h
            exact x_callX z9 (evX_out rfl)
        · have z9 := x_call (M := mX7_printShortInstance) (M' := mX7_put) (pc := 41) (st := [.int 32, va_rf (some a0)]) (rest := []) (av := [va_rf (some a0), .int 32]) (x_linkV (M := mX7_printShortInstance) (M' := mX7_put) (As := [.int 32]) (index := 38) (C := RX7) (T := TX7) (xE_8 c_15) rfl wd_860 wd_861 (wG_in (List.mem_append_left _ (List.mem_of_getElem? (i := 24) rfl)) rfl) xw_X7_put rfl (by decide) rfl rfl dX7_printShortInstance_41) (ev_X7_put hO hP h_14) xw_X7_put rfl wd_138 dX7_printShortInstance_41 (by decide) (by decide) (by simp [x_cat, x_catI, x_catJ])
          cases h
          exact x_callX z9 (evX_out rfl)
    · have z9 := x_call (M := mX7_printShortInstance) (M' := mX1_pinCount) (pc := 32) (st := [va_rf (some a_1), .int v2]) (rest := [.int v2]) (av := [va_rf (some a_1)]) (x_linkV (M := mX7_printShortInstance) (M' := mX1_pinCount) (As := []) (index := 159) (C := RX1) (T := TX1) (xE_2 c_5) rfl wd_891 wd_52 wd_50 xw_X1_pinCount rfl (by decide) rfl rfl dX7_printShortInstance_32) (ev_X1_pinCount hO hP h_4) xw_X1_pinCount rfl wd_53 dX7_printShortInstance_32 (by decide) (by decide) (by simp [x_cat, x_catI, x_catJ])
      cases h
      exact x_callX z9 (evX_out rfl)
set_option maxHeartbeats 4000000 in
set_option maxRecDepth 100000 in
theorem ev_X7_printShortInstance {l : Launch} {G : xG} (hO : x_OK l G) {P : xP} (hP : x_PG P G) {a0 : Nat} {v1 : Option Nat} {σ σ' : xS} {rr : Unit ⊕ String} (h : dm_X7_printShortInstance P a0 v1 σ = some (rr, σ')) : EvM l G mX7_printShortInstance [va_rf (some a0), va_rf v1] σ (xrV rr) σ' := by
  unfold dm_X7_printShortInstance at h
  refine evM_of hO (by decide +kernel) (x_lenI (by simp [x_cat, x_catI, x_catJ, mX7_printShortInstance, xM.maxL])) ?_
  refine Eq.mp (congrArg (fun z => Ev l G mX7_printShortInstance 0 z [] σ (xrV rr) σ') (show [(0, va_rf (some a0)), (1, va_rf v1)] = lv_args 0 [va_rf (some a0), va_rf v1] by simp [lv_args, x_cat, x_catI, x_catJ])) ?_
  refine ev_aload_n (j := 0) (x := (some a0)) dX7_printShortInstance_0 rfl rfl ?_
  refine ev_ldcS (q := ("NetlistForms$Printer", 195, "u ", 26)) hP (List.mem_of_getElem? (i := 23) rfl) rfl dX7_printShortInstance_1 ?_
  obtain ⟨c_4, h⟩ := x_chk_e h
  rcases x_bind_e h with ⟨v_1, σ_2, h_3, h⟩ | ⟨E_23, σ_2, h_3, h⟩
  · have z9 := x_call (M := mX7_printShortInstance) (M' := mX7_putText) (pc := 3) (st := [va_rf (some (P.ad 26)), va_rf (some a0)]) (rest := []) (av := [va_rf (some a0), va_rf (some (P.ad 26))]) (x_linkV (M := mX7_printShortInstance) (M' := mX7_putText) (As := [va_rf (some (P.ad 26))]) (index := 60) (C := RX7) (T := TX7) (xE_8 c_4) rfl wd_865 wd_866 (wG_in (List.mem_append_left _ (List.mem_of_getElem? (i := 23) rfl)) rfl) xw_X7_putText rfl (by decide) rfl rfl dX7_printShortInstance_3) (ev_X7_putText hO hP h_3) xw_X7_putText rfl wd_138 dX7_printShortInstance_3 (by decide) (by decide) (by simp [x_cat, x_catI, x_catJ])
    refine x_callR z9 ?_
    refine ev_at (st' := []) rfl rfl ?_
    refine ev_aload_n (j := 0) (x := (some a0)) dX7_printShortInstance_6 rfl rfl ?_
    refine ev_aload_n (j := 1) (x := v1) dX7_printShortInstance_7 rfl rfl ?_
    obtain ⟨a_5, ea_5, h⟩ := x_some_e h
    refine ev_at (st' := [va_rf (some a_5), va_rf (some a0)]) rfl (by rw [ea_5]) ?_
    obtain ⟨c_6, h⟩ := x_chk_e h
    refine ev_get (C := RX1) (T := TX1) (k := 0) inX1 (xE_2 c_6) rfl (by decide) wd_889 (Or.inl rfl) rfl dX7_printShortInstance_8 ?_
    obtain ⟨c_10, h⟩ := x_chk_e h
    rcases x_bind_e h with ⟨v_7, σ_8, h_9, h⟩ | ⟨E_22, σ_8, h_9, h⟩
    · have z9 := x_call (M := mX7_printShortInstance) (M' := mX7_putName) (pc := 11) (st := [.long (σ_2.J 100 a_5), va_rf (some a0)]) (rest := []) (av := [va_rf (some a0), .long (σ_2.J 100 a_5)]) (x_linkV (M := mX7_printShortInstance) (M' := mX7_putName) (As := [.long (σ_2.J 100 a_5)]) (index := 70) (C := RX7) (T := TX7) (xE_8 c_10) rfl wd_873 wd_874 (wG_in (List.mem_append_left _ (List.mem_of_getElem? (i := 25) rfl)) rfl) xw_X7_putName rfl (by decide) rfl rfl dX7_printShortInstance_11) (ev_X7_putName hO hP h_9) xw_X7_putName rfl wd_138 dX7_printShortInstance_11 (by decide) (by decide) (by simp [x_cat, x_catI, x_catJ])
      refine x_callR z9 ?_
      refine ev_at (st' := []) rfl rfl ?_
      refine ev_aload_n (j := 0) (x := (some a0)) dX7_printShortInstance_14 rfl rfl ?_
      refine ev_bipush (v := 32) dX7_printShortInstance_15 (by decide) ?_
      obtain ⟨c_14, h⟩ := x_chk_e h
      rcases x_bind_e h with ⟨v_11, σ_12, h_13, h⟩ | ⟨E_21, σ_12, h_13, h⟩
      · have z9 := x_call (M := mX7_printShortInstance) (M' := mX7_put) (pc := 17) (st := [.int 32, va_rf (some a0)]) (rest := []) (av := [va_rf (some a0), .int 32]) (x_linkV (M := mX7_printShortInstance) (M' := mX7_put) (As := [.int 32]) (index := 38) (C := RX7) (T := TX7) (xE_8 c_14) rfl wd_860 wd_861 (wG_in (List.mem_append_left _ (List.mem_of_getElem? (i := 24) rfl)) rfl) xw_X7_put rfl (by decide) rfl rfl dX7_printShortInstance_17) (ev_X7_put hO hP h_13) xw_X7_put rfl wd_138 dX7_printShortInstance_17 (by decide) (by decide) (by simp [x_cat, x_catI, x_catJ])
        refine x_callR z9 ?_
        refine ev_at (st' := []) rfl rfl ?_
        refine ev_aload_n (j := 0) (x := (some a0)) dX7_printShortInstance_20 rfl rfl ?_
        refine ev_aload_n (j := 1) (x := v1) dX7_printShortInstance_21 rfl rfl ?_
        refine ev_at (st' := [va_rf (some a_5), va_rf (some a0)]) rfl (by rw [ea_5]) ?_
        obtain ⟨c_15, h⟩ := x_chk_e h
        refine ev_get (C := RX1) (T := TX1) (k := 1) inX1 (xE_2 c_15) rfl (by decide) wd_890 (Or.inl rfl) rfl dX7_printShortInstance_22 ?_
        obtain ⟨c_19, h⟩ := x_chk_e h
        rcases x_bind_e h with ⟨v_16, σ_17, h_18, h⟩ | ⟨E_20, σ_17, h_18, h⟩
        · have z9 := x_call (M := mX7_printShortInstance) (M' := mX7_putName) (pc := 25) (st := [.long (σ_12.J 101 a_5), va_rf (some a0)]) (rest := []) (av := [va_rf (some a0), .long (σ_12.J 101 a_5)]) (x_linkV (M := mX7_printShortInstance) (M' := mX7_putName) (As := [.long (σ_12.J 101 a_5)]) (index := 70) (C := RX7) (T := TX7) (xE_8 c_19) rfl wd_873 wd_874 (wG_in (List.mem_append_left _ (List.mem_of_getElem? (i := 25) rfl)) rfl) xw_X7_putName rfl (by decide) rfl rfl dX7_printShortInstance_25) (ev_X7_putName hO hP h_18) xw_X7_putName rfl wd_138 dX7_printShortInstance_25 (by decide) (by decide) (by simp [x_cat, x_catI, x_catJ])
          refine x_callR z9 ?_
          refine ev_at (st' := []) rfl rfl ?_
          refine ev_iconst (v := 0) dX7_printShortInstance_28 (by decide) ?_
          refine ev_istore_n (i := 2) (lv' := [(2, .int 0), (0, va_rf (some a0)), (1, va_rf v1)]) dX7_printShortInstance_29 rfl (by decide) (by simp [x_cat, x_catI, x_catJ]) ?_
          exact ev_sub [1, 2, 0] rfl (ev_X7_printShortInstance_L30 hO hP P.N h)
        · have z9 := x_call (M := mX7_printShortInstance) (M' := mX7_putName) (pc := 25) (st := [.long (σ_12.J 101 a_5), va_rf (some a0)]) (rest := []) (av := [va_rf (some a0), .long (σ_12.J 101 a_5)]) (x_linkV (M := mX7_printShortInstance) (M' := mX7_putName) (As := [.long (σ_12.J 101 a_5)]) (index := 70) (C := RX7) (T := TX7) (xE_8 c_19) rfl wd_873 wd_874 (wG_in (List.mem_append_left _ (List.mem_of_getElem? (i := 25) rfl)) rfl) xw_X7_putName rfl (by decide) rfl rfl dX7_printShortInstance_25) (ev_X7_putName hO hP h_18) xw_X7_putName rfl wd_138 dX7_printShortInstance_25 (by decide) (by decide) (by simp [x_cat, x_catI, x_catJ])
          cases h
          exact x_callX z9 (evX_out rfl)
      · have z9 := x_call (M := mX7_printShortInstance) (M' := mX7_put) (pc := 17) (st := [.int 32, va_rf (some a0)]) (rest := []) (av := [va_rf (some a0), .int 32]) (x_linkV (M := mX7_printShortInstance) (M' := mX7_put) (As := [.int 32]) (index := 38) (C := RX7) (T := TX7) (xE_8 c_14) rfl wd_860 wd_861 (wG_in (List.mem_append_left _ (List.mem_of_getElem? (i := 24) rfl)) rfl) xw_X7_put rfl (by decide) rfl rfl dX7_printShortInstance_17) (ev_X7_put hO hP h_13) xw_X7_put rfl wd_138 dX7_printShortInstance_17 (by decide) (by decide) (by simp [x_cat, x_catI, x_catJ])
        cases h
        exact x_callX z9 (evX_out rfl)
    · have z9 := x_call (M := mX7_printShortInstance) (M' := mX7_putName) (pc := 11) (st := [.long (σ_2.J 100 a_5), va_rf (some a0)]) (rest := []) (av := [va_rf (some a0), .long (σ_2.J 100 a_5)]) (x_linkV (M := mX7_printShortInstance) (M' := mX7_putName) (As := [.long (σ_2.J 100 a_5)]) (index := 70) (C := RX7) (T := TX7) (xE_8 c_10) rfl wd_873 wd_874 (wG_in (List.mem_append_left _ (List.mem_of_getElem? (i := 25) rfl)) rfl) xw_X7_putName rfl (by decide) rfl rfl dX7_printShortInstance_11) (ev_X7_putName hO hP h_9) xw_X7_putName rfl wd_138 dX7_printShortInstance_11 (by decide) (by decide) (by simp [x_cat, x_catI, x_catJ])
      cases h
      exact x_callX z9 (evX_out rfl)
  · have z9 := x_call (M := mX7_printShortInstance) (M' := mX7_putText) (pc := 3) (st := [va_rf (some (P.ad 26)), va_rf (some a0)]) (rest := []) (av := [va_rf (some a0), va_rf (some (P.ad 26))]) (x_linkV (M := mX7_printShortInstance) (M' := mX7_putText) (As := [va_rf (some (P.ad 26))]) (index := 60) (C := RX7) (T := TX7) (xE_8 c_4) rfl wd_865 wd_866 (wG_in (List.mem_append_left _ (List.mem_of_getElem? (i := 23) rfl)) rfl) xw_X7_putText rfl (by decide) rfl rfl dX7_printShortInstance_3) (ev_X7_putText hO hP h_3) xw_X7_putText rfl wd_138 dX7_printShortInstance_3 (by decide) (by decide) (by simp [x_cat, x_catI, x_catJ])
    cases h
    exact x_callX z9 (evX_out rfl)
set_option maxHeartbeats 4000000 in
set_option maxRecDepth 100000 in
theorem ev_X7_printShort_L102 {l : Launch} {G : xG} (hO : x_OK l G) {P : xP} (hP : x_PG P G) {a0 : Nat} : ∀ (n : Nat) {v1 : Option Nat} {v2 : Int32} {σ σ' : xS} {rr : Unit ⊕ String}, dm_X7_printShort_L102 P a0 n v1 v2 σ = some (rr, σ') → Ev l G mX7_printShort 102 [(0, va_rf (some a0)), (1, va_rf v1), (2, .int v2)] [] σ (xrV rr) σ' := by
  intro n
  induction n with
  | zero => intro v1 v2 σ σ' rr h; cases h
  | succ n ih =>
    intro v1 v2 σ σ' rr h
    rw [dm_X7_printShort_L102] at h
    refine ev_iload_n (j := 2) (x := v2) dX7_printShort_102 rfl rfl ?_
    refine ev_aload_n (j := 1) (x := v1) dX7_printShort_103 rfl rfl ?_
    obtain ⟨a_1, ea_1, h⟩ := x_some_e h
    refine ev_at (st' := [va_rf (some a_1), .int v2]) rfl (by rw [ea_1]) ?_
    obtain ⟨c_2, h⟩ := x_chk_e h
    refine ev_get (C := RX5) (T := TX5) (k := 11) inX5 (xE_6 c_2) rfl (by decide) wd_913 (Or.inl rfl) rfl dX7_printShort_104 ?_
    by_cases c_3 : (σ.I 511 a_1) ≤ v2
    · rw [if_pos c_3] at h
      refine ev_icmp_ge (x := v2) (y := (σ.I 511 a_1)) (tgt := 126) dX7_printShort_107 (by decide) (fun _ => ?_) (fun q9 => absurd c_3 q9)
      refine ev_aload_n (j := 0) (x := (some a0)) dX7_printShort_126 rfl rfl ?_
      refine ev_ldcS (q := ("NetlistForms$Printer", 187, "e;\n", 10)) hP (List.mem_of_getElem? (i := 19) rfl) rfl dX7_printShort_127 ?_
      obtain ⟨c_7, h⟩ := x_chk_e h
      rcases x_bind_e h with ⟨v_4, σ_5, h_6, h⟩ | ⟨E_8, σ_5, h_6, h⟩
      · have z9 := x_call (M := mX7_printShort) (M' := mX7_putText) (pc := 129) (st := [va_rf (some (P.ad 10)), va_rf (some a0)]) (rest := []) (av := [va_rf (some a0), va_rf (some (P.ad 10))]) (x_linkV (M := mX7_printShort) (M' := mX7_putText) (As := [va_rf (some (P.ad 10))]) (index := 60) (C := RX7) (T := TX7) (xE_8 c_7) rfl wd_865 wd_866 (wG_in (List.mem_append_left _ (List.mem_of_getElem? (i := 23) rfl)) rfl) xw_X7_putText rfl (by decide) rfl rfl dX7_printShort_129) (ev_X7_putText hO hP h_6) xw_X7_putText rfl wd_138 dX7_printShort_129 (by decide) (by decide) (by simp [x_cat, x_catI, x_catJ])
        refine x_callR z9 ?_
        refine ev_at (st' := []) rfl rfl ?_
        cases h
        exact ev_vret rfl dX7_printShort_132
      · have z9 := x_call (M := mX7_printShort) (M' := mX7_putText) (pc := 129) (st := [va_rf (some (P.ad 10)), va_rf (some a0)]) (rest := []) (av := [va_rf (some a0), va_rf (some (P.ad 10))]) (x_linkV (M := mX7_printShort) (M' := mX7_putText) (As := [va_rf (some (P.ad 10))]) (index := 60) (C := RX7) (T := TX7) (xE_8 c_7) rfl wd_865 wd_866 (wG_in (List.mem_append_left _ (List.mem_of_getElem? (i := 23) rfl)) rfl) xw_X7_putText rfl (by decide) rfl rfl dX7_printShort_129) (ev_X7_putText hO hP h_6) xw_X7_putText rfl wd_138 dX7_printShort_129 (by decide) (by decide) (by simp [x_cat, x_catI, x_catJ])
        cases h
        exact x_callX z9 (evX_out rfl)
    · rw [if_neg c_3] at h
      refine ev_icmp_ge (x := v2) (y := (σ.I 511 a_1)) (tgt := 126) dX7_printShort_107 (by decide) (fun q9 => absurd q9 c_3) (fun _ => ?_)
      refine ev_aload_n (j := 0) (x := (some a0)) dX7_printShort_110 rfl rfl ?_
      refine ev_aload_n (j := 1) (x := v1) dX7_printShort_111 rfl rfl ?_
      refine ev_at (st' := [va_rf (some a_1), va_rf (some a0)]) rfl (by rw [ea_1]) ?_
      refine ev_get (C := RX5) (T := TX5) (k := 10) inX5 (xE_6 c_2) rfl (by decide) wd_914 (Or.inl rfl) rfl dX7_printShort_112 ?_
      refine ev_iload_n (j := 2) (x := v2) dX7_printShort_115 rfl rfl ?_
      obtain ⟨a_9, ea_9, h⟩ := x_some_e h
      refine ev_at (st' := [.int v2, va_rf (some a_9), va_rf (some a0)]) rfl (by rw [ea_9]) ?_
      obtain ⟨c_10, h⟩ := x_chk_e h
      refine ev_aald_24 c_10.1 c_10.2 dX7_printShort_116 ?_
      obtain ⟨c_14, h⟩ := x_chk_e h
      rcases x_bind_e h with ⟨v_11, σ_12, h_13, h⟩ | ⟨E_16, σ_12, h_13, h⟩
      · have z9 := x_call (M := mX7_printShort) (M' := mX7_printShortInstance) (pc := 117) (st := [va_rf (σ.AR a_9 (Int32.toNatClampNeg v2)), va_rf (some a0)]) (rest := []) (av := [va_rf (some a0), va_rf (σ.AR a_9 (Int32.toNatClampNeg v2))]) (x_linkV (M := mX7_printShort) (M' := mX7_printShortInstance) (As := [va_rf (σ.AR a_9 (Int32.toNatClampNeg v2))]) (index := 184) (C := RX7) (T := TX7) (xE_8 c_14) rfl wd_922 wd_923 (wG_in (List.mem_append_left _ (List.mem_of_getElem? (i := 35) rfl)) rfl) xw_X7_printShortInstance rfl (by decide) rfl rfl dX7_printShort_117) (ev_X7_printShortInstance hO hP h_13) xw_X7_printShortInstance rfl wd_138 dX7_printShort_117 (by decide) (by decide) (by simp [x_cat, x_catI, x_catJ])
        refine x_callR z9 ?_
        refine ev_at (st' := []) rfl rfl ?_
        obtain ⟨v_15, ev_15, h⟩ := x_let_e h
        refine ev_iinc (j := 2) (x := v2) (v := v_15) (lv' := [(2, .int v_15), (0, va_rf (some a0)), (1, va_rf v1)]) dX7_printShort_120 rfl (by rw [ev_15]; rfl) (by decide) (by simp [x_cat, x_catI, x_catJ]) ?_
        refine ev_goto (tgt := 102) dX7_printShort_123 (by decide) ?_
        exact ev_sub [1, 2, 0] rfl (ih h)
      · have z9 := x_call (M := mX7_printShort) (M' := mX7_printShortInstance) (pc := 117) (st := [va_rf (σ.AR a_9 (Int32.toNatClampNeg v2)), va_rf (some a0)]) (rest := []) (av := [va_rf (some a0), va_rf (σ.AR a_9 (Int32.toNatClampNeg v2))]) (x_linkV (M := mX7_printShort) (M' := mX7_printShortInstance) (As := [va_rf (σ.AR a_9 (Int32.toNatClampNeg v2))]) (index := 184) (C := RX7) (T := TX7) (xE_8 c_14) rfl wd_922 wd_923 (wG_in (List.mem_append_left _ (List.mem_of_getElem? (i := 35) rfl)) rfl) xw_X7_printShortInstance rfl (by decide) rfl rfl dX7_printShort_117) (ev_X7_printShortInstance hO hP h_13) xw_X7_printShortInstance rfl wd_138 dX7_printShort_117 (by decide) (by decide) (by simp [x_cat, x_catI, x_catJ])
        cases h
        exact x_callX z9 (evX_out rfl)
set_option maxHeartbeats 4000000 in
set_option maxRecDepth 100000 in
theorem ev_X7_printShort_L48 {l : Launch} {G : xG} (hO : x_OK l G) {P : xP} (hP : x_PG P G) {a0 : Nat} : ∀ (n : Nat) {v1 : Option Nat} {v2 : Int32} {σ σ' : xS} {rr : Unit ⊕ String}, dm_X7_printShort_L48 P a0 n v1 v2 σ = some (rr, σ') → Ev l G mX7_printShort 48 [(0, va_rf (some a0)), (1, va_rf v1), (2, .int v2)] [] σ (xrV rr) σ' := by
  intro n
  induction n with
  | zero => intro v1 v2 σ σ' rr h; cases h
  | succ n ih =>
    intro v1 v2 σ σ' rr h
    rw [dm_X7_printShort_L48] at h
    refine ev_iload_n (j := 2) (x := v2) dX7_printShort_48 rfl rfl ?_
    refine ev_aload_n (j := 1) (x := v1) dX7_printShort_49 rfl rfl ?_
    obtain ⟨a_1, ea_1, h⟩ := x_some_e h
    refine ev_at (st' := [va_rf (some a_1), .int v2]) rfl (by rw [ea_1]) ?_
    obtain ⟨c_2, h⟩ := x_chk_e h
    refine ev_get (C := RX5) (T := TX5) (k := 9) inX5 (xE_6 c_2) rfl (by decide) wd_910 (Or.inl rfl) rfl dX7_printShort_50 ?_
    by_cases c_3 : (σ.I 509 a_1) ≤ v2
    · rw [if_pos c_3] at h
      refine ev_icmp_ge (x := v2) (y := (σ.I 509 a_1)) (tgt := 100) dX7_printShort_53 (by decide) (fun _ => ?_) (fun q9 => absurd c_3 q9)
      refine ev_iconst (v := 0) dX7_printShort_100 (by decide) ?_
      refine ev_istore_n (i := 2) (lv' := [(2, .int 0), (0, va_rf (some a0)), (1, va_rf v1)]) dX7_printShort_101 rfl (by decide) (by simp [x_cat, x_catI, x_catJ]) ?_
      exact ev_sub [1, 2, 0] rfl (ev_X7_printShort_L102 hO hP P.N h)
    · rw [if_neg c_3] at h
      refine ev_icmp_ge (x := v2) (y := (σ.I 509 a_1)) (tgt := 100) dX7_printShort_53 (by decide) (fun q9 => absurd q9 c_3) (fun _ => ?_)
      refine ev_aload_n (j := 0) (x := (some a0)) dX7_printShort_56 rfl rfl ?_
      refine ev_ldcS (q := ("NetlistForms$Printer", 182, "a ", 6)) hP (List.mem_of_getElem? (i := 18) rfl) rfl dX7_printShort_57 ?_
      obtain ⟨c_7, h⟩ := x_chk_e h
      rcases x_bind_e h with ⟨v_4, σ_5, h_6, h⟩ | ⟨E_35, σ_5, h_6, h⟩
      · have z9 := x_call (M := mX7_printShort) (M' := mX7_putText) (pc := 59) (st := [va_rf (some (P.ad 6)), va_rf (some a0)]) (rest := []) (av := [va_rf (some a0), va_rf (some (P.ad 6))]) (x_linkV (M := mX7_printShort) (M' := mX7_putText) (As := [va_rf (some (P.ad 6))]) (index := 60) (C := RX7) (T := TX7) (xE_8 c_7) rfl wd_865 wd_866 (wG_in (List.mem_append_left _ (List.mem_of_getElem? (i := 23) rfl)) rfl) xw_X7_putText rfl (by decide) rfl rfl dX7_printShort_59) (ev_X7_putText hO hP h_6) xw_X7_putText rfl wd_138 dX7_printShort_59 (by decide) (by decide) (by simp [x_cat, x_catI, x_catJ])
        refine x_callR z9 ?_
        refine ev_at (st' := []) rfl rfl ?_
        refine ev_aload_n (j := 0) (x := (some a0)) dX7_printShort_62 rfl rfl ?_
        refine ev_aload_n (j := 1) (x := v1) dX7_printShort_63 rfl rfl ?_
        refine ev_at (st' := [va_rf (some a_1), va_rf (some a0)]) rfl (by rw [ea_1]) ?_
        obtain ⟨c_8, h⟩ := x_chk_e h
        refine ev_get (C := RX5) (T := TX5) (k := 7) inX5 (xE_6 c_8) rfl (by decide) wd_911 (Or.inl rfl) rfl dX7_printShort_64 ?_
        refine ev_iload_n (j := 2) (x := v2) dX7_printShort_67 rfl rfl ?_
        obtain ⟨a_9, ea_9, h⟩ := x_some_e h
        refine ev_at (st' := [.int v2, va_rf (some a_9), va_rf (some a0)]) rfl (by rw [ea_9]) ?_
        obtain ⟨c_10, h⟩ := x_chk_e h
        refine ev_aald_28 c_10.1 c_10.2 dX7_printShort_68 ?_
        obtain ⟨c_14, h⟩ := x_chk_e h
        rcases x_bind_e h with ⟨v_11, σ_12, h_13, h⟩ | ⟨E_34, σ_12, h_13, h⟩
        · have z9 := x_call (M := mX7_printShort) (M' := mX7_printPart) (pc := 69) (st := [va_rf (σ_5.AR a_9 (Int32.toNatClampNeg v2)), va_rf (some a0)]) (rest := []) (av := [va_rf (some a0), va_rf (σ_5.AR a_9 (Int32.toNatClampNeg v2))]) (x_linkV (M := mX7_printShort) (M' := mX7_printPart) (As := [va_rf (σ_5.AR a_9 (Int32.toNatClampNeg v2))]) (index := 106) (C := RX7) (T := TX7) (xE_8 c_14) rfl wd_885 wd_886 (wG_in (List.mem_append_left _ (List.mem_of_getElem? (i := 28) rfl)) rfl) xw_X7_printPart rfl (by decide) rfl rfl dX7_printShort_69) (ev_X7_printPart hO hP h_13) xw_X7_printPart rfl wd_138 dX7_printShort_69 (by decide) (by decide) (by simp [x_cat, x_catI, x_catJ])
          refine x_callR z9 ?_
          refine ev_at (st' := []) rfl rfl ?_
          refine ev_aload_n (j := 0) (x := (some a0)) dX7_printShort_72 rfl rfl ?_
          refine ev_bipush (v := 32) dX7_printShort_73 (by decide) ?_
          obtain ⟨c_18, h⟩ := x_chk_e h
          rcases x_bind_e h with ⟨v_15, σ_16, h_17, h⟩ | ⟨E_33, σ_16, h_17, h⟩
          · have z9 := x_call (M := mX7_printShort) (M' := mX7_put) (pc := 75) (st := [.int 32, va_rf (some a0)]) (rest := []) (av := [va_rf (some a0), .int 32]) (x_linkV (M := mX7_printShort) (M' := mX7_put) (As := [.int 32]) (index := 38) (C := RX7) (T := TX7) (xE_8 c_18) rfl wd_860 wd_861 (wG_in (List.mem_append_left _ (List.mem_of_getElem? (i := 24) rfl)) rfl) xw_X7_put rfl (by decide) rfl rfl dX7_printShort_75) (ev_X7_put hO hP h_17) xw_X7_put rfl wd_138 dX7_printShort_75 (by decide) (by decide) (by simp [x_cat, x_catI, x_catJ])
            refine x_callR z9 ?_
            refine ev_at (st' := []) rfl rfl ?_
            refine ev_aload_n (j := 0) (x := (some a0)) dX7_printShort_78 rfl rfl ?_
            refine ev_aload_n (j := 1) (x := v1) dX7_printShort_79 rfl rfl ?_
            refine ev_at (st' := [va_rf (some a_1), va_rf (some a0)]) rfl (by rw [ea_1]) ?_
            obtain ⟨c_19, h⟩ := x_chk_e h
            refine ev_get (C := RX5) (T := TX5) (k := 8) inX5 (xE_6 c_19) rfl (by decide) wd_912 (Or.inl rfl) rfl dX7_printShort_80 ?_
            refine ev_iload_n (j := 2) (x := v2) dX7_printShort_83 rfl rfl ?_
            obtain ⟨a_20, ea_20, h⟩ := x_some_e h
            refine ev_at (st' := [.int v2, va_rf (some a_20), va_rf (some a0)]) rfl (by rw [ea_20]) ?_
            obtain ⟨c_21, h⟩ := x_chk_e h
            refine ev_aald_28 c_21.1 c_21.2 dX7_printShort_84 ?_
            obtain ⟨c_25, h⟩ := x_chk_e h
            rcases x_bind_e h with ⟨v_22, σ_23, h_24, h⟩ | ⟨E_32, σ_23, h_24, h⟩
            · have z9 := x_call (M := mX7_printShort) (M' := mX7_printPart) (pc := 85) (st := [va_rf (σ_16.AR a_20 (Int32.toNatClampNeg v2)), va_rf (some a0)]) (rest := []) (av := [va_rf (some a0), va_rf (σ_16.AR a_20 (Int32.toNatClampNeg v2))]) (x_linkV (M := mX7_printShort) (M' := mX7_printPart) (As := [va_rf (σ_16.AR a_20 (Int32.toNatClampNeg v2))]) (index := 106) (C := RX7) (T := TX7) (xE_8 c_25) rfl wd_885 wd_886 (wG_in (List.mem_append_left _ (List.mem_of_getElem? (i := 28) rfl)) rfl) xw_X7_printPart rfl (by decide) rfl rfl dX7_printShort_85) (ev_X7_printPart hO hP h_24) xw_X7_printPart rfl wd_138 dX7_printShort_85 (by decide) (by decide) (by simp [x_cat, x_catI, x_catJ])
              refine x_callR z9 ?_
              refine ev_at (st' := []) rfl rfl ?_
              refine ev_aload_n (j := 0) (x := (some a0)) dX7_printShort_88 rfl rfl ?_
              refine ev_ldcS (q := ("NetlistForms$Printer", 113, ";\n", 4)) hP (List.mem_of_getElem? (i := 11) rfl) rfl dX7_printShort_89 ?_
              obtain ⟨c_29, h⟩ := x_chk_e h
              rcases x_bind_e h with ⟨v_26, σ_27, h_28, h⟩ | ⟨E_31, σ_27, h_28, h⟩
              · have z9 := x_call (M := mX7_printShort) (M' := mX7_putText) (pc := 91) (st := [va_rf (some (P.ad 4)), va_rf (some a0)]) (rest := []) (av := [va_rf (some a0), va_rf (some (P.ad 4))]) (x_linkV (M := mX7_printShort) (M' := mX7_putText) (As := [va_rf (some (P.ad 4))]) (index := 60) (C := RX7) (T := TX7) (xE_8 c_29) rfl wd_865 wd_866 (wG_in (List.mem_append_left _ (List.mem_of_getElem? (i := 23) rfl)) rfl) xw_X7_putText rfl (by decide) rfl rfl dX7_printShort_91) (ev_X7_putText hO hP h_28) xw_X7_putText rfl wd_138 dX7_printShort_91 (by decide) (by decide) (by simp [x_cat, x_catI, x_catJ])
                refine x_callR z9 ?_
                refine ev_at (st' := []) rfl rfl ?_
                obtain ⟨v_30, ev_30, h⟩ := x_let_e h
                refine ev_iinc (j := 2) (x := v2) (v := v_30) (lv' := [(2, .int v_30), (0, va_rf (some a0)), (1, va_rf v1)]) dX7_printShort_94 rfl (by rw [ev_30]; rfl) (by decide) (by simp [x_cat, x_catI, x_catJ]) ?_
                refine ev_goto (tgt := 48) dX7_printShort_97 (by decide) ?_
                exact ev_sub [1, 2, 0] rfl (ih h)
              · have z9 := x_call (M := mX7_printShort) (M' := mX7_putText) (pc := 91) (st := [va_rf (some (P.ad 4)), va_rf (some a0)]) (rest := []) (av := [va_rf (some a0), va_rf (some (P.ad 4))]) (x_linkV (M := mX7_printShort) (M' := mX7_putText) (As := [va_rf (some (P.ad 4))]) (index := 60) (C := RX7) (T := TX7) (xE_8 c_29) rfl wd_865 wd_866 (wG_in (List.mem_append_left _ (List.mem_of_getElem? (i := 23) rfl)) rfl) xw_X7_putText rfl (by decide) rfl rfl dX7_printShort_91) (ev_X7_putText hO hP h_28) xw_X7_putText rfl wd_138 dX7_printShort_91 (by decide) (by decide) (by simp [x_cat, x_catI, x_catJ])
                cases h
                exact x_callX z9 (evX_out rfl)
            · have z9 := x_call (M := mX7_printShort) (M' := mX7_printPart) (pc := 85) (st := [va_rf (σ_16.AR a_20 (Int32.toNatClampNeg v2)), va_rf (some a0)]) (rest := []) (av := [va_rf (some a0), va_rf (σ_16.AR a_20 (Int32.toNatClampNeg v2))]) (x_linkV (M := mX7_printShort) (M' := mX7_printPart) (As := [va_rf (σ_16.AR a_20 (Int32.toNatClampNeg v2))]) (index := 106) (C := RX7) (T := TX7) (xE_8 c_25) rfl wd_885 wd_886 (wG_in (List.mem_append_left _ (List.mem_of_getElem? (i := 28) rfl)) rfl) xw_X7_printPart rfl (by decide) rfl rfl dX7_printShort_85) (ev_X7_printPart hO hP h_24) xw_X7_printPart rfl wd_138 dX7_printShort_85 (by decide) (by decide) (by simp [x_cat, x_catI, x_catJ])
              cases h
              exact x_callX z9 (evX_out rfl)
          · have z9 := x_call (M := mX7_printShort) (M' := mX7_put) (pc := 75) (st := [.int 32, va_rf (some a0)]) (rest := []) (av := [va_rf (some a0), .int 32]) (x_linkV (M := mX7_printShort) (M' := mX7_put) (As := [.int 32]) (index := 38) (C := RX7) (T := TX7) (xE_8 c_18) rfl wd_860 wd_861 (wG_in (List.mem_append_left _ (List.mem_of_getElem? (i := 24) rfl)) rfl) xw_X7_put rfl (by decide) rfl rfl dX7_printShort_75) (ev_X7_put hO hP h_17) xw_X7_put rfl wd_138 dX7_printShort_75 (by decide) (by decide) (by simp [x_cat, x_catI, x_catJ])
            cases h
            exact x_callX z9 (evX_out rfl)
        · have z9 := x_call (M := mX7_printShort) (M' := mX7_printPart) (pc := 69) (st := [va_rf (σ_5.AR a_9 (Int32.toNatClampNeg v2)), va_rf (some a0)]) (rest := []) (av := [va_rf (some a0), va_rf (σ_5.AR a_9 (Int32.toNatClampNeg v2))]) (x_linkV (M := mX7_printShort) (M' := mX7_printPart) (As := [va_rf (σ_5.AR a_9 (Int32.toNatClampNeg v2))]) (index := 106) (C := RX7) (T := TX7) (xE_8 c_14) rfl wd_885 wd_886 (wG_in (List.mem_append_left _ (List.mem_of_getElem? (i := 28) rfl)) rfl) xw_X7_printPart rfl (by decide) rfl rfl dX7_printShort_69) (ev_X7_printPart hO hP h_13) xw_X7_printPart rfl wd_138 dX7_printShort_69 (by decide) (by decide) (by simp [x_cat, x_catI, x_catJ])
          cases h
          exact x_callX z9 (evX_out rfl)
      · have z9 := x_call (M := mX7_printShort) (M' := mX7_putText) (pc := 59) (st := [va_rf (some (P.ad 6)), va_rf (some a0)]) (rest := []) (av := [va_rf (some a0), va_rf (some (P.ad 6))]) (x_linkV (M := mX7_printShort) (M' := mX7_putText) (As := [va_rf (some (P.ad 6))]) (index := 60) (C := RX7) (T := TX7) (xE_8 c_7) rfl wd_865 wd_866 (wG_in (List.mem_append_left _ (List.mem_of_getElem? (i := 23) rfl)) rfl) xw_X7_putText rfl (by decide) rfl rfl dX7_printShort_59) (ev_X7_putText hO hP h_6) xw_X7_putText rfl wd_138 dX7_printShort_59 (by decide) (by decide) (by simp [x_cat, x_catI, x_catJ])
        cases h
        exact x_callX z9 (evX_out rfl)
set_option maxHeartbeats 4000000 in
set_option maxRecDepth 100000 in
theorem ev_X7_printShort_L22 {l : Launch} {G : xG} (hO : x_OK l G) {P : xP} (hP : x_PG P G) {a0 : Nat} : ∀ (n : Nat) {v1 : Option Nat} {v2 : Int32} {σ σ' : xS} {rr : Unit ⊕ String}, dm_X7_printShort_L22 P a0 n v1 v2 σ = some (rr, σ') → Ev l G mX7_printShort 22 [(0, va_rf (some a0)), (1, va_rf v1), (2, .int v2)] [] σ (xrV rr) σ' := by
  intro n
  induction n with
  | zero => intro v1 v2 σ σ' rr h; cases h
  | succ n ih =>
    intro v1 v2 σ σ' rr h
    rw [dm_X7_printShort_L22] at h
    refine ev_iload_n (j := 2) (x := v2) dX7_printShort_22 rfl rfl ?_
    refine ev_aload_n (j := 1) (x := v1) dX7_printShort_23 rfl rfl ?_
    obtain ⟨a_1, ea_1, h⟩ := x_some_e h
    refine ev_at (st' := [va_rf (some a_1), .int v2]) rfl (by rw [ea_1]) ?_
    obtain ⟨c_2, h⟩ := x_chk_e h
    refine ev_get (C := RX5) (T := TX5) (k := 4) inX5 (xE_6 c_2) rfl (by decide) wd_905 (Or.inl rfl) rfl dX7_printShort_24 ?_
    by_cases c_3 : (σ.I 504 a_1) ≤ v2
    · rw [if_pos c_3] at h
      refine ev_icmp_ge (x := v2) (y := (σ.I 504 a_1)) (tgt := 46) dX7_printShort_27 (by decide) (fun _ => ?_) (fun q9 => absurd c_3 q9)
      refine ev_iconst (v := 0) dX7_printShort_46 (by decide) ?_
      refine ev_istore_n (i := 2) (lv' := [(2, .int 0), (0, va_rf (some a0)), (1, va_rf v1)]) dX7_printShort_47 rfl (by decide) (by simp [x_cat, x_catI, x_catJ]) ?_
      exact ev_sub [1, 2, 0] rfl (ev_X7_printShort_L48 hO hP P.N h)
    · rw [if_neg c_3] at h
      refine ev_icmp_ge (x := v2) (y := (σ.I 504 a_1)) (tgt := 46) dX7_printShort_27 (by decide) (fun q9 => absurd q9 c_3) (fun _ => ?_)
      refine ev_aload_n (j := 0) (x := (some a0)) dX7_printShort_30 rfl rfl ?_
      refine ev_aload_n (j := 1) (x := v1) dX7_printShort_31 rfl rfl ?_
      refine ev_at (st' := [va_rf (some a_1), va_rf (some a0)]) rfl (by rw [ea_1]) ?_
      refine ev_get (C := RX5) (T := TX5) (k := 3) inX5 (xE_6 c_2) rfl (by decide) wd_906 (Or.inl rfl) rfl dX7_printShort_32 ?_
      refine ev_iload_n (j := 2) (x := v2) dX7_printShort_35 rfl rfl ?_
      obtain ⟨a_4, ea_4, h⟩ := x_some_e h
      refine ev_at (st' := [.int v2, va_rf (some a_4), va_rf (some a0)]) rfl (by rw [ea_4]) ?_
      obtain ⟨c_5, h⟩ := x_chk_e h
      refine ev_aald_26 c_5.1 c_5.2 dX7_printShort_36 ?_
      obtain ⟨c_9, h⟩ := x_chk_e h
      rcases x_bind_e h with ⟨v_6, σ_7, h_8, h⟩ | ⟨E_11, σ_7, h_8, h⟩
      · have z9 := x_call (M := mX7_printShort) (M' := mX7_printShortNet) (pc := 37) (st := [va_rf (σ.AR a_4 (Int32.toNatClampNeg v2)), va_rf (some a0)]) (rest := []) (av := [va_rf (some a0), va_rf (σ.AR a_4 (Int32.toNatClampNeg v2))]) (x_linkV (M := mX7_printShort) (M' := mX7_printShortNet) (As := [va_rf (σ.AR a_4 (Int32.toNatClampNeg v2))]) (index := 179) (C := RX7) (T := TX7) (xE_8 c_9) rfl wd_919 wd_920 (wG_in (List.mem_append_left _ (List.mem_of_getElem? (i := 34) rfl)) rfl) xw_X7_printShortNet rfl (by decide) rfl rfl dX7_printShort_37) (ev_X7_printShortNet hO hP h_8) xw_X7_printShortNet rfl wd_138 dX7_printShort_37 (by decide) (by decide) (by simp [x_cat, x_catI, x_catJ])
        refine x_callR z9 ?_
        refine ev_at (st' := []) rfl rfl ?_
        obtain ⟨v_10, ev_10, h⟩ := x_let_e h
        refine ev_iinc (j := 2) (x := v2) (v := v_10) (lv' := [(2, .int v_10), (0, va_rf (some a0)), (1, va_rf v1)]) dX7_printShort_40 rfl (by rw [ev_10]; rfl) (by decide) (by simp [x_cat, x_catI, x_catJ]) ?_
        refine ev_goto (tgt := 22) dX7_printShort_43 (by decide) ?_
        exact ev_sub [1, 2, 0] rfl (ih h)
      · have z9 := x_call (M := mX7_printShort) (M' := mX7_printShortNet) (pc := 37) (st := [va_rf (σ.AR a_4 (Int32.toNatClampNeg v2)), va_rf (some a0)]) (rest := []) (av := [va_rf (some a0), va_rf (σ.AR a_4 (Int32.toNatClampNeg v2))]) (x_linkV (M := mX7_printShort) (M' := mX7_printShortNet) (As := [va_rf (σ.AR a_4 (Int32.toNatClampNeg v2))]) (index := 179) (C := RX7) (T := TX7) (xE_8 c_9) rfl wd_919 wd_920 (wG_in (List.mem_append_left _ (List.mem_of_getElem? (i := 34) rfl)) rfl) xw_X7_printShortNet rfl (by decide) rfl rfl dX7_printShort_37) (ev_X7_printShortNet hO hP h_8) xw_X7_printShortNet rfl wd_138 dX7_printShort_37 (by decide) (by decide) (by simp [x_cat, x_catI, x_catJ])
        cases h
        exact x_callX z9 (evX_out rfl)
set_option maxHeartbeats 4000000 in
set_option maxRecDepth 100000 in
theorem ev_X7_printShort {l : Launch} {G : xG} (hO : x_OK l G) {P : xP} (hP : x_PG P G) {a0 : Nat} {v1 : Option Nat} {σ σ' : xS} {rr : Unit ⊕ String} (h : dm_X7_printShort P a0 v1 σ = some (rr, σ')) : EvM l G mX7_printShort [va_rf (some a0), va_rf v1] σ (xrV rr) σ' := by
  unfold dm_X7_printShort at h
  refine evM_of hO (by decide +kernel) (x_lenI (by simp [x_cat, x_catI, x_catJ, mX7_printShort, xM.maxL])) ?_
  refine Eq.mp (congrArg (fun z => Ev l G mX7_printShort 0 z [] σ (xrV rr) σ') (show [(0, va_rf (some a0)), (1, va_rf v1)] = lv_args 0 [va_rf (some a0), va_rf v1] by simp [lv_args, x_cat, x_catI, x_catJ])) ?_
  refine ev_aload_n (j := 0) (x := (some a0)) dX7_printShort_0 rfl rfl ?_
  refine ev_ldcS (q := ("NetlistForms$Printer", 177, "m ", 18)) hP (List.mem_of_getElem? (i := 17) rfl) rfl dX7_printShort_1 ?_
  obtain ⟨c_4, h⟩ := x_chk_e h
  rcases x_bind_e h with ⟨v_1, σ_2, h_3, h⟩ | ⟨E_17, σ_2, h_3, h⟩
  · have z9 := x_call (M := mX7_printShort) (M' := mX7_putText) (pc := 3) (st := [va_rf (some (P.ad 18)), va_rf (some a0)]) (rest := []) (av := [va_rf (some a0), va_rf (some (P.ad 18))]) (x_linkV (M := mX7_printShort) (M' := mX7_putText) (As := [va_rf (some (P.ad 18))]) (index := 60) (C := RX7) (T := TX7) (xE_8 c_4) rfl wd_865 wd_866 (wG_in (List.mem_append_left _ (List.mem_of_getElem? (i := 23) rfl)) rfl) xw_X7_putText rfl (by decide) rfl rfl dX7_printShort_3) (ev_X7_putText hO hP h_3) xw_X7_putText rfl wd_138 dX7_printShort_3 (by decide) (by decide) (by simp [x_cat, x_catI, x_catJ])
    refine x_callR z9 ?_
    refine ev_at (st' := []) rfl rfl ?_
    refine ev_aload_n (j := 0) (x := (some a0)) dX7_printShort_6 rfl rfl ?_
    refine ev_aload_n (j := 1) (x := v1) dX7_printShort_7 rfl rfl ?_
    obtain ⟨a_5, ea_5, h⟩ := x_some_e h
    refine ev_at (st' := [va_rf (some a_5), va_rf (some a0)]) rfl (by rw [ea_5]) ?_
    obtain ⟨c_6, h⟩ := x_chk_e h
    refine ev_get (C := RX5) (T := TX5) (k := 1) inX5 (xE_6 c_6) rfl (by decide) wd_903 (Or.inl rfl) rfl dX7_printShort_8 ?_
    obtain ⟨c_10, h⟩ := x_chk_e h
    rcases x_bind_e h with ⟨v_7, σ_8, h_9, h⟩ | ⟨E_16, σ_8, h_9, h⟩
    · have z9 := x_call (M := mX7_printShort) (M' := mX7_putName) (pc := 11) (st := [.long (σ_2.J 501 a_5), va_rf (some a0)]) (rest := []) (av := [va_rf (some a0), .long (σ_2.J 501 a_5)]) (x_linkV (M := mX7_printShort) (M' := mX7_putName) (As := [.long (σ_2.J 501 a_5)]) (index := 70) (C := RX7) (T := TX7) (xE_8 c_10) rfl wd_873 wd_874 (wG_in (List.mem_append_left _ (List.mem_of_getElem? (i := 25) rfl)) rfl) xw_X7_putName rfl (by decide) rfl rfl dX7_printShort_11) (ev_X7_putName hO hP h_9) xw_X7_putName rfl wd_138 dX7_printShort_11 (by decide) (by decide) (by simp [x_cat, x_catI, x_catJ])
      refine x_callR z9 ?_
      refine ev_at (st' := []) rfl rfl ?_
      refine ev_aload_n (j := 0) (x := (some a0)) dX7_printShort_14 rfl rfl ?_
      refine ev_ldcS (q := ("NetlistForms$Printer", 113, ";\n", 4)) hP (List.mem_of_getElem? (i := 11) rfl) rfl dX7_printShort_15 ?_
      obtain ⟨c_14, h⟩ := x_chk_e h
      rcases x_bind_e h with ⟨v_11, σ_12, h_13, h⟩ | ⟨E_15, σ_12, h_13, h⟩
      · have z9 := x_call (M := mX7_printShort) (M' := mX7_putText) (pc := 17) (st := [va_rf (some (P.ad 4)), va_rf (some a0)]) (rest := []) (av := [va_rf (some a0), va_rf (some (P.ad 4))]) (x_linkV (M := mX7_printShort) (M' := mX7_putText) (As := [va_rf (some (P.ad 4))]) (index := 60) (C := RX7) (T := TX7) (xE_8 c_14) rfl wd_865 wd_866 (wG_in (List.mem_append_left _ (List.mem_of_getElem? (i := 23) rfl)) rfl) xw_X7_putText rfl (by decide) rfl rfl dX7_printShort_17) (ev_X7_putText hO hP h_13) xw_X7_putText rfl wd_138 dX7_printShort_17 (by decide) (by decide) (by simp [x_cat, x_catI, x_catJ])
        refine x_callR z9 ?_
        refine ev_at (st' := []) rfl rfl ?_
        refine ev_iconst (v := 0) dX7_printShort_20 (by decide) ?_
        refine ev_istore_n (i := 2) (lv' := [(2, .int 0), (0, va_rf (some a0)), (1, va_rf v1)]) dX7_printShort_21 rfl (by decide) (by simp [x_cat, x_catI, x_catJ]) ?_
        exact ev_sub [1, 2, 0] rfl (ev_X7_printShort_L22 hO hP P.N h)
      · have z9 := x_call (M := mX7_printShort) (M' := mX7_putText) (pc := 17) (st := [va_rf (some (P.ad 4)), va_rf (some a0)]) (rest := []) (av := [va_rf (some a0), va_rf (some (P.ad 4))]) (x_linkV (M := mX7_printShort) (M' := mX7_putText) (As := [va_rf (some (P.ad 4))]) (index := 60) (C := RX7) (T := TX7) (xE_8 c_14) rfl wd_865 wd_866 (wG_in (List.mem_append_left _ (List.mem_of_getElem? (i := 23) rfl)) rfl) xw_X7_putText rfl (by decide) rfl rfl dX7_printShort_17) (ev_X7_putText hO hP h_13) xw_X7_putText rfl wd_138 dX7_printShort_17 (by decide) (by decide) (by simp [x_cat, x_catI, x_catJ])
        cases h
        exact x_callX z9 (evX_out rfl)
    · have z9 := x_call (M := mX7_printShort) (M' := mX7_putName) (pc := 11) (st := [.long (σ_2.J 501 a_5), va_rf (some a0)]) (rest := []) (av := [va_rf (some a0), .long (σ_2.J 501 a_5)]) (x_linkV (M := mX7_printShort) (M' := mX7_putName) (As := [.long (σ_2.J 501 a_5)]) (index := 70) (C := RX7) (T := TX7) (xE_8 c_10) rfl wd_873 wd_874 (wG_in (List.mem_append_left _ (List.mem_of_getElem? (i := 25) rfl)) rfl) xw_X7_putName rfl (by decide) rfl rfl dX7_printShort_11) (ev_X7_putName hO hP h_9) xw_X7_putName rfl wd_138 dX7_printShort_11 (by decide) (by decide) (by simp [x_cat, x_catI, x_catJ])
      cases h
      exact x_callX z9 (evX_out rfl)
  · have z9 := x_call (M := mX7_printShort) (M' := mX7_putText) (pc := 3) (st := [va_rf (some (P.ad 18)), va_rf (some a0)]) (rest := []) (av := [va_rf (some a0), va_rf (some (P.ad 18))]) (x_linkV (M := mX7_printShort) (M' := mX7_putText) (As := [va_rf (some (P.ad 18))]) (index := 60) (C := RX7) (T := TX7) (xE_8 c_4) rfl wd_865 wd_866 (wG_in (List.mem_append_left _ (List.mem_of_getElem? (i := 23) rfl)) rfl) xw_X7_putText rfl (by decide) rfl rfl dX7_printShort_3) (ev_X7_putText hO hP h_3) xw_X7_putText rfl wd_138 dX7_printShort_3 (by decide) (by decide) (by simp [x_cat, x_catI, x_catJ])
    cases h
    exact x_callX z9 (evX_out rfl)
