set_option maxHeartbeats 4000000 in
set_option maxRecDepth 100000 in
theorem ev_X11_refuseUnless {l : Launch} {G : xG} (hO : x_OK l G) {P : xP} (hP : x_PG P G) {v0 : Int32} {σ σ' : xS} {rr : Unit ⊕ String} (h : dm_X11_refuseUnless P v0 σ = some (rr, σ')) : EvM l G mX11_refuseUnless [.int v0] σ (xrV rr) σ' := by
  unfold dm_X11_refuseUnless at h
  refine evM_of hO (by decide +kernel) (x_lenI (by simp [x_cat, x_catI, x_catJ, mX11_refuseUnless, xM.maxL])) ?_
  refine Eq.mp (congrArg (fun z => Ev l G mX11_refuseUnless 0 z [] σ (xrV rr) σ') (show [(0, .int v0)] = lv_args 0 [.int v0] by simp [lv_args, x_cat, x_catI, x_catJ])) ?_
  refine ev_iload_n (j := 0) (x := v0) dX11_refuseUnless_0 rfl rfl ?_
  by_cases c_1 : v0 = 0
  · rw [if_pos c_1] at h
    refine ev_if_ne (x := v0) (tgt := 12) dX11_refuseUnless_1 (by decide) (fun q9 => absurd c_1 q9) (fun _ => ?_)
    obtain ⟨c_2, h⟩ := x_chk_e h
    cases h
    exact ev_throw (names := x_ex) (by decide +kernel) x_exf th_X11_101_103 dX11_refuseUnless_4 dX11_refuseUnless_7 dX11_refuseUnless_8 dX11_refuseUnless_11 rfl (by decide) (by decide) (hP.2.1 ▸ c_2.1) (hP.2.2.1 ▸ c_2.2)
  · rw [if_neg c_1] at h
    refine ev_if_ne (x := v0) (tgt := 12) dX11_refuseUnless_1 (by decide) (fun _ => ?_) (fun q9 => absurd q9 c_1)
    cases h
    exact ev_vret rfl dX11_refuseUnless_12
set_option maxHeartbeats 4000000 in
set_option maxRecDepth 100000 in
theorem ev_X10_init {l : Launch} {G : xG} (hO : x_OK l G) {P : xP} (hP : x_PG P G) {a0 : Nat} {σ σ' : xS} {rr : Unit ⊕ String} (h : dm_X10_init P a0 σ = some (rr, σ')) : EvM l G mX10_init [va_rf (some a0)] σ (xrV rr) σ' := by
  unfold dm_X10_init at h
  refine evM_of hO (by decide +kernel) (x_lenI (by simp [x_cat, x_catI, x_catJ, mX10_init, xM.maxL])) ?_
  refine Eq.mp (congrArg (fun z => Ev l G mX10_init 0 z [] σ (xrV rr) σ') (show [(0, va_rf (some a0))] = lv_args 0 [va_rf (some a0)] by simp [lv_args, x_cat, x_catI, x_catJ])) ?_
  refine ev_aload_n (j := 0) (x := (some a0)) dX10_init_0 rfl rfl ?_
  refine ev_objInit wd_84 wd_85 wd_86 dX10_init_1 (by decide) (by decide) ?_
  refine ev_aload_n (j := 0) (x := (some a0)) dX10_init_4 rfl rfl ?_
  refine ev_sipush (v := 1000) dX10_init_5 (by decide) ?_
  obtain ⟨c_1, h⟩ := x_chk_e h
  obtain ⟨σ_2, eσ_2, h⟩ := x_let_e h
  refine ev_newaI (k := 20) (t0 := 0) (ty := .char) (by decide) (fun _ => rfl) rfl rfl (fun _ h9 => by cases h9) wd_87 c_1.1 c_1.2.1 (by decide) (hP.2.1 ▸ c_1.2.2.1) (hP.2.2.1 ▸ c_1.2.2.2) dX10_init_8 (eσ_2 ▸ ?_)
  obtain ⟨c_3, h⟩ := x_chk_e h
  obtain ⟨σ_4, eσ_4, h⟩ := x_let_e h
  refine ev_putF (σ2 := σ_4) (C := RX10) (T := TX10) (k := 0) inX10 tyX10 tyX10_ok nmX10 (xE_10 c_3.1) rfl (by decide) wd_88 (Or.inl rfl) rfl rfl rfl rfl (x_refN _) (x_refFA _) (Nat.le_of_ble_eq_true rfl) (hP.2.2.2.1 ▸ c_3.2) (by rw [eσ_4]; exact xP_10_0 _ c_3.1) (by rw [eσ_4]; exact xPut_R) dX10_init_10 ?_
  refine ev_aload_n (j := 0) (x := (some a0)) dX10_init_13 rfl rfl ?_
  refine ev_iconst (v := 0) dX10_init_14 (by decide) ?_
  obtain ⟨c_5, h⟩ := x_chk_e h
  obtain ⟨σ_6, eσ_6, h⟩ := x_let_e h
  refine ev_put (σ2 := σ_6) (C := RX10) (T := TX10) (k := 1) inX10 tyX10 tyX10_ok nmX10 (xE_10 c_5.1) rfl (by decide) wd_89 (Or.inl rfl) rfl rfl rfl rfl (Nat.le_of_ble_eq_true rfl) (hP.2.2.2.1 ▸ c_5.2) (by rw [eσ_6]; exact xP_10_1 _ c_5.1) (by rw [eσ_6]; exact xPut_I) dX10_init_15 ?_
  refine ev_aload_n (j := 0) (x := (some a0)) dX10_init_18 rfl rfl ?_
  refine ev_sipush (v := 1001) dX10_init_19 (by decide) ?_
  obtain ⟨c_7, h⟩ := x_chk_e h
  obtain ⟨σ_8, eσ_8, h⟩ := x_let_e h
  refine ev_newaI (k := 21) (t0 := 1) (ty := .int) (by decide) (fun _ => rfl) rfl rfl (fun _ h9 => by cases h9) wd_90 c_7.1 c_7.2.1 (by decide) (hP.2.1 ▸ c_7.2.2.1) (hP.2.2.1 ▸ c_7.2.2.2) dX10_init_22 (eσ_8 ▸ ?_)
  obtain ⟨c_9, h⟩ := x_chk_e h
  obtain ⟨σ_10, eσ_10, h⟩ := x_let_e h
  refine ev_putF (σ2 := σ_10) (C := RX10) (T := TX10) (k := 2) inX10 tyX10 tyX10_ok nmX10 (xE_10 c_9.1) rfl (by decide) wd_91 (Or.inl rfl) rfl rfl rfl rfl (x_refN _) (x_refFA _) (Nat.le_of_ble_eq_true rfl) (hP.2.2.2.1 ▸ c_9.2) (by rw [eσ_10]; exact xP_10_2 _ c_9.1) (by rw [eσ_10]; exact xPut_R) dX10_init_24 ?_
  refine ev_aload_n (j := 0) (x := (some a0)) dX10_init_27 rfl rfl ?_
  refine ev_sipush (v := 1001) dX10_init_28 (by decide) ?_
  obtain ⟨c_11, h⟩ := x_chk_e h
  obtain ⟨σ_12, eσ_12, h⟩ := x_let_e h
  refine ev_newaI (k := 21) (t0 := 1) (ty := .int) (by decide) (fun _ => rfl) rfl rfl (fun _ h9 => by cases h9) wd_90 c_11.1 c_11.2.1 (by decide) (hP.2.1 ▸ c_11.2.2.1) (hP.2.2.1 ▸ c_11.2.2.2) dX10_init_31 (eσ_12 ▸ ?_)
  obtain ⟨c_13, h⟩ := x_chk_e h
  obtain ⟨σ_14, eσ_14, h⟩ := x_let_e h
  refine ev_putF (σ2 := σ_14) (C := RX10) (T := TX10) (k := 3) inX10 tyX10 tyX10_ok nmX10 (xE_10 c_13.1) rfl (by decide) wd_92 (Or.inl rfl) rfl rfl rfl rfl (x_refN _) (x_refFA _) (Nat.le_of_ble_eq_true rfl) (hP.2.2.2.1 ▸ c_13.2) (by rw [eσ_14]; exact xP_10_3 _ c_13.1) (by rw [eσ_14]; exact xPut_R) dX10_init_33 ?_
  refine ev_aload_n (j := 0) (x := (some a0)) dX10_init_36 rfl rfl ?_
  refine ev_sipush (v := 1001) dX10_init_37 (by decide) ?_
  obtain ⟨c_15, h⟩ := x_chk_e h
  obtain ⟨σ_16, eσ_16, h⟩ := x_let_e h
  refine ev_newaJ wd_93 c_15.1 c_15.2.1 (hP.2.1 ▸ c_15.2.2.1) (hP.2.2.1 ▸ c_15.2.2.2) dX10_init_40 (eσ_16 ▸ ?_)
  obtain ⟨c_17, h⟩ := x_chk_e h
  obtain ⟨σ_18, eσ_18, h⟩ := x_let_e h
  refine ev_putF (σ2 := σ_18) (C := RX10) (T := TX10) (k := 4) inX10 tyX10 tyX10_ok nmX10 (xE_10 c_17.1) rfl (by decide) wd_94 (Or.inl rfl) rfl rfl rfl rfl (x_refN _) (x_refFA _) (Nat.le_of_ble_eq_true rfl) (hP.2.2.2.1 ▸ c_17.2) (by rw [eσ_18]; exact xP_10_4 _ c_17.1) (by rw [eσ_18]; exact xPut_R) dX10_init_42 ?_
  refine ev_aload_n (j := 0) (x := (some a0)) dX10_init_45 rfl rfl ?_
  refine ev_iconst (v := 0) dX10_init_46 (by decide) ?_
  obtain ⟨c_19, h⟩ := x_chk_e h
  obtain ⟨σ_20, eσ_20, h⟩ := x_let_e h
  refine ev_put (σ2 := σ_20) (C := RX10) (T := TX10) (k := 5) inX10 tyX10 tyX10_ok nmX10 (xE_10 c_19.1) rfl (by decide) wd_95 (Or.inl rfl) rfl rfl rfl rfl (Nat.le_of_ble_eq_true rfl) (hP.2.2.2.1 ▸ c_19.2) (by rw [eσ_20]; exact xP_10_5 _ c_19.1) (by rw [eσ_20]; exact xPut_I) dX10_init_47 ?_
  refine ev_aload_n (j := 0) (x := (some a0)) dX10_init_50 rfl rfl ?_
  refine ev_iconst (v := 0) dX10_init_51 (by decide) ?_
  obtain ⟨c_21, h⟩ := x_chk_e h
  obtain ⟨σ_22, eσ_22, h⟩ := x_let_e h
  refine ev_put (σ2 := σ_22) (C := RX10) (T := TX10) (k := 6) inX10 tyX10 tyX10_ok nmX10 (xE_10 c_21.1) rfl (by decide) wd_96 (Or.inl rfl) rfl rfl rfl rfl (Nat.le_of_ble_eq_true rfl) (hP.2.2.2.1 ▸ c_21.2) (by rw [eσ_22]; exact xP_10_6 _ c_21.1) (by rw [eσ_22]; exact xPut_I) dX10_init_52 ?_
  cases h
  exact ev_vret rfl dX10_init_55
set_option maxHeartbeats 4000000 in
set_option maxRecDepth 100000 in
theorem ev_X10_behindBlanks_p84 {l : Launch} {G : xG} (hO : x_OK l G) {P : xP} (hP : x_PG P G) {a0 : Nat} {k4 : Int32 → Int32 → xS → xO Int32} (hk4 : ∀ {v2 : Int32} {v3 : Int32} {σ σ' : xS} {rr : Int32 ⊕ String}, k4 v2 v3 σ = some (rr, σ') → Ev l G mX10_behindBlanks 4 [(0, va_rf (some a0)), (2, .int v2), (3, .int v3)] [] σ (xrI rr) σ') {v2 : Int32} {v3 : Int32} {σ σ' : xS} {rr : Int32 ⊕ String} (h : dm_X10_behindBlanks_p84 P k4 a0 v2 v3 σ = some (rr, σ')) : Ev l G mX10_behindBlanks 84 [(0, va_rf (some a0)), (2, .int v2), (3, .int v3)] [] σ (xrI rr) σ' := by
  unfold dm_X10_behindBlanks_p84 at h
  obtain ⟨v_1, ev_1, h⟩ := x_let_e h
  refine ev_iinc (j := 2) (x := v3) (v := v_1) (lv' := [(3, .int v_1), (0, va_rf (some a0)), (2, .int v2)]) dX10_behindBlanks_84 rfl (by rw [ev_1]; rfl) (by decide) rfl ?_
  refine ev_goto (tgt := 4) dX10_behindBlanks_87 (by decide) ?_
  exact ev_sub [1, 2, 0] rfl (hk4 h)
set_option maxHeartbeats 4000000 in
set_option maxRecDepth 100000 in
theorem ev_X10_behindBlanks_p71 {l : Launch} {G : xG} (hO : x_OK l G) {P : xP} (hP : x_PG P G) {a0 : Nat} {k4 : Int32 → Int32 → xS → xO Int32} (hk4 : ∀ {v2 : Int32} {v3 : Int32} {σ σ' : xS} {rr : Int32 ⊕ String}, k4 v2 v3 σ = some (rr, σ') → Ev l G mX10_behindBlanks 4 [(0, va_rf (some a0)), (2, .int v2), (3, .int v3)] [] σ (xrI rr) σ') {v2 : Int32} {v3 : Int32} {v4 : Int32} {σ σ' : xS} {rr : Int32 ⊕ String} (h : dm_X10_behindBlanks_p71 P k4 a0 v2 v3 v4 σ = some (rr, σ')) : Ev l G mX10_behindBlanks 71 [(0, va_rf (some a0)), (2, .int v2), (3, .int v3), (4, .int v4)] [] σ (xrI rr) σ' := by
  unfold dm_X10_behindBlanks_p71 at h
  refine ev_iload_n (j := 1) (x := v2) dX10_behindBlanks_71 rfl rfl ?_
  by_cases c_1 : v2 = 0
  · rw [if_pos c_1] at h
    refine ev_if_ne (x := v2) (tgt := 84) dX10_behindBlanks_72 (by decide) (fun q9 => absurd c_1 q9) (fun _ => ?_)
    refine ev_iload (j := 3) (x := v4) dX10_behindBlanks_75 rfl ?_
    refine ev_bipush (v := 32) dX10_behindBlanks_77 (by decide) ?_
    by_cases c_2 : v4 = 32
    · rw [if_pos c_2] at h
      refine ev_icmp_eq (x := v4) (y := 32) (tgt := 84) dX10_behindBlanks_79 (by decide) (fun _ => ?_) (fun q9 => absurd c_2 q9)
      exact ev_sub [0, 1, 2] rfl (ev_X10_behindBlanks_p84 hO hP hk4 h)
    · rw [if_neg c_2] at h
      refine ev_icmp_eq (x := v4) (y := 32) (tgt := 84) dX10_behindBlanks_79 (by decide) (fun q9 => absurd q9 c_2) (fun _ => ?_)
      refine ev_iload_n (j := 2) (x := v3) dX10_behindBlanks_82 rfl rfl ?_
      cases h
      exact ev_iret rfl rfl dX10_behindBlanks_83
  · rw [if_neg c_1] at h
    refine ev_if_ne (x := v2) (tgt := 84) dX10_behindBlanks_72 (by decide) (fun _ => ?_) (fun q9 => absurd q9 c_1)
    exact ev_sub [0, 1, 2] rfl (ev_X10_behindBlanks_p84 hO hP hk4 h)
set_option maxHeartbeats 4000000 in
set_option maxRecDepth 100000 in
theorem ev_X10_behindBlanks_L4 {l : Launch} {G : xG} (hO : x_OK l G) {P : xP} (hP : x_PG P G) {a0 : Nat} : ∀ (n : Nat) {v2 : Int32} {v3 : Int32} {σ σ' : xS} {rr : Int32 ⊕ String}, dm_X10_behindBlanks_L4 P a0 n v2 v3 σ = some (rr, σ') → Ev l G mX10_behindBlanks 4 [(0, va_rf (some a0)), (2, .int v2), (3, .int v3)] [] σ (xrI rr) σ' := by
  intro n
  induction n with
  | zero => intro v2 v3 σ σ' rr h; cases h
  | succ n ih =>
    intro v2 v3 σ σ' rr h
    rw [dm_X10_behindBlanks_L4] at h
    refine ev_iload_n (j := 2) (x := v3) dX10_behindBlanks_4 rfl rfl ?_
    refine ev_aload_n (j := 0) (x := (some a0)) dX10_behindBlanks_5 rfl rfl ?_
    obtain ⟨c_1, h⟩ := x_chk_e h
    refine ev_get (C := RX10) (T := TX10) (k := 1) inX10 (xE_10 c_1) rfl (by decide) wd_89 (Or.inl rfl) rfl dX10_behindBlanks_6 ?_
    by_cases c_2 : (σ.I 901 a0) ≤ v3
    · rw [if_pos c_2] at h
      refine ev_icmp_ge (x := v3) (y := (σ.I 901 a0)) (tgt := 90) dX10_behindBlanks_9 (by decide) (fun _ => ?_) (fun q9 => absurd c_2 q9)
      refine ev_aload_n (j := 0) (x := (some a0)) dX10_behindBlanks_90 rfl rfl ?_
      refine ev_get (C := RX10) (T := TX10) (k := 1) inX10 (xE_10 c_1) rfl (by decide) wd_89 (Or.inl rfl) rfl dX10_behindBlanks_91 ?_
      cases h
      exact ev_iret rfl rfl dX10_behindBlanks_94
    · rw [if_neg c_2] at h
      refine ev_icmp_ge (x := v3) (y := (σ.I 901 a0)) (tgt := 90) dX10_behindBlanks_9 (by decide) (fun q9 => absurd q9 c_2) (fun _ => ?_)
      refine ev_aload_n (j := 0) (x := (some a0)) dX10_behindBlanks_12 rfl rfl ?_
      refine ev_get (C := RX10) (T := TX10) (k := 0) inX10 (xE_10 c_1) rfl (by decide) wd_88 (Or.inl rfl) rfl dX10_behindBlanks_13 ?_
      refine ev_iload_n (j := 2) (x := v3) dX10_behindBlanks_16 rfl rfl ?_
      obtain ⟨a_3, ea_3, h⟩ := x_some_e h
      refine ev_at (st' := [.int v3, va_rf (some a_3)]) rfl (by rw [ea_3]) ?_
      obtain ⟨c_4, h⟩ := x_chk_e h
      refine ev_cald c_4.1 c_4.2 dX10_behindBlanks_17 ?_
      obtain ⟨v_5, ev_5, h⟩ := x_let_e h
      rw [← ev_5]
      refine ev_istore (lv' := [(4, .int v_5), (0, va_rf (some a0)), (2, .int v2), (3, .int v3)]) dX10_behindBlanks_18 (by decide) rfl ?_
      refine ev_iload (j := 0) (x := v_5) dX10_behindBlanks_20 rfl ?_
      refine ev_bipush (v := 10) dX10_behindBlanks_22 (by decide) ?_
      by_cases c_6 : v_5 = 10
      · rw [if_pos c_6] at h
        refine ev_icmp_ne (x := v_5) (y := 10) (tgt := 32) dX10_behindBlanks_24 (by decide) (fun q9 => absurd c_6 q9) (fun _ => ?_)
        refine ev_iconst (v := 0) dX10_behindBlanks_27 (by decide) ?_
        refine ev_istore_n (lv' := [(2, .int 0), (4, .int v_5), (0, va_rf (some a0)), (3, .int v3)]) dX10_behindBlanks_28 rfl (by decide) rfl ?_
        refine ev_goto (tgt := 84) dX10_behindBlanks_29 (by decide) ?_
        exact ev_sub [2, 0, 3] rfl (ev_X10_behindBlanks_p84 hO hP ih h)
      · rw [if_neg c_6] at h
        refine ev_icmp_ne (x := v_5) (y := 10) (tgt := 32) dX10_behindBlanks_24 (by decide) (fun _ => ?_) (fun q9 => absurd q9 c_6)
        refine ev_iload_n (j := 2) (x := v2) dX10_behindBlanks_32 rfl rfl ?_
        by_cases c_7 : v2 = 0
        · rw [if_pos c_7] at h
          refine ev_if_ne (x := v2) (tgt := 71) dX10_behindBlanks_33 (by decide) (fun q9 => absurd c_7 q9) (fun _ => ?_)
          refine ev_iload (j := 0) (x := v_5) dX10_behindBlanks_36 rfl ?_
          refine ev_bipush (v := 47) dX10_behindBlanks_38 (by decide) ?_
          by_cases c_8 : v_5 = 47
          · rw [if_pos c_8] at h
            refine ev_icmp_ne (x := v_5) (y := 47) (tgt := 71) dX10_behindBlanks_40 (by decide) (fun q9 => absurd c_8 q9) (fun _ => ?_)
            refine ev_iload_n (j := 3) (x := v3) dX10_behindBlanks_43 rfl rfl ?_
            refine ev_iconst (v := 1) dX10_behindBlanks_44 (by decide) ?_
            refine ev_iadd (x := v3) (y := 1) dX10_behindBlanks_45 ?_
            refine ev_aload_n (j := 1) (x := (some a0)) dX10_behindBlanks_46 rfl rfl ?_
            refine ev_get (C := RX10) (T := TX10) (k := 1) inX10 (xE_10 c_1) rfl (by decide) wd_89 (Or.inl rfl) rfl dX10_behindBlanks_47 ?_
            by_cases c_9 : (σ.I 901 a0) ≤ (v3 + 1)
            · rw [if_pos c_9] at h
              refine ev_icmp_ge (x := (v3 + 1)) (y := (σ.I 901 a0)) (tgt := 71) dX10_behindBlanks_50 (by decide) (fun _ => ?_) (fun q9 => absurd c_9 q9)
              exact ev_sub [1, 2, 3, 0] rfl (ev_X10_behindBlanks_p71 hO hP ih h)
            · rw [if_neg c_9] at h
              refine ev_icmp_ge (x := (v3 + 1)) (y := (σ.I 901 a0)) (tgt := 71) dX10_behindBlanks_50 (by decide) (fun q9 => absurd q9 c_9) (fun _ => ?_)
              refine ev_aload_n (j := 1) (x := (some a0)) dX10_behindBlanks_53 rfl rfl ?_
              refine ev_get (C := RX10) (T := TX10) (k := 0) inX10 (xE_10 c_1) rfl (by decide) wd_88 (Or.inl rfl) rfl dX10_behindBlanks_54 ?_
              refine ev_iload_n (j := 3) (x := v3) dX10_behindBlanks_57 rfl rfl ?_
              refine ev_iconst (v := 1) dX10_behindBlanks_58 (by decide) ?_
              refine ev_iadd (x := v3) (y := 1) dX10_behindBlanks_59 ?_
              refine ev_at (st' := [.int (v3 + 1), va_rf (some a_3)]) rfl (by rw [ea_3]) ?_
              obtain ⟨c_10, h⟩ := x_chk_e h
              refine ev_cald c_10.1 c_10.2 dX10_behindBlanks_60 ?_
              refine ev_bipush (v := 47) dX10_behindBlanks_61 (by decide) ?_
              by_cases c_11 : (σ.AI a_3 (Int32.toNatClampNeg (v3 + 1))) = 47
              · rw [if_pos c_11] at h
                refine ev_icmp_ne (x := (σ.AI a_3 (Int32.toNatClampNeg (v3 + 1)))) (y := 47) (tgt := 71) dX10_behindBlanks_63 (by decide) (fun q9 => absurd c_11 q9) (fun _ => ?_)
                refine ev_iconst (v := 1) dX10_behindBlanks_66 (by decide) ?_
                refine ev_istore_n (lv' := [(2, .int 1), (4, .int v_5), (0, va_rf (some a0)), (3, .int v3)]) dX10_behindBlanks_67 rfl (by decide) rfl ?_
                refine ev_goto (tgt := 84) dX10_behindBlanks_68 (by decide) ?_
                exact ev_sub [2, 0, 3] rfl (ev_X10_behindBlanks_p84 hO hP ih h)
              · rw [if_neg c_11] at h
                refine ev_icmp_ne (x := (σ.AI a_3 (Int32.toNatClampNeg (v3 + 1)))) (y := 47) (tgt := 71) dX10_behindBlanks_63 (by decide) (fun _ => ?_) (fun q9 => absurd q9 c_11)
                exact ev_sub [1, 2, 3, 0] rfl (ev_X10_behindBlanks_p71 hO hP ih h)
          · rw [if_neg c_8] at h
            refine ev_icmp_ne (x := v_5) (y := 47) (tgt := 71) dX10_behindBlanks_40 (by decide) (fun _ => ?_) (fun q9 => absurd q9 c_8)
            exact ev_sub [1, 2, 3, 0] rfl (ev_X10_behindBlanks_p71 hO hP ih h)
        · rw [if_neg c_7] at h
          refine ev_if_ne (x := v2) (tgt := 71) dX10_behindBlanks_33 (by decide) (fun _ => ?_) (fun q9 => absurd q9 c_7)
          exact ev_sub [1, 2, 3, 0] rfl (ev_X10_behindBlanks_p71 hO hP ih h)
set_option maxHeartbeats 4000000 in
set_option maxRecDepth 100000 in
theorem ev_X10_behindBlanks {l : Launch} {G : xG} (hO : x_OK l G) {P : xP} (hP : x_PG P G) {a0 : Nat} {v1 : Int32} {σ σ' : xS} {rr : Int32 ⊕ String} (h : dm_X10_behindBlanks P a0 v1 σ = some (rr, σ')) : EvM l G mX10_behindBlanks [va_rf (some a0), .int v1] σ (xrI rr) σ' := by
  unfold dm_X10_behindBlanks at h
  refine evM_of hO (by decide +kernel) (x_lenI (by simp [x_cat, x_catI, x_catJ, mX10_behindBlanks, xM.maxL])) ?_
  refine Eq.mp (congrArg (fun z => Ev l G mX10_behindBlanks 0 z [] σ (xrI rr) σ') (show [(0, va_rf (some a0)), (1, .int v1)] = lv_args 0 [va_rf (some a0), .int v1] by simp [lv_args, x_cat, x_catI, x_catJ])) ?_
  refine ev_iconst (v := 0) dX10_behindBlanks_0 (by decide) ?_
  refine ev_istore_n (lv' := [(2, .int 0), (0, va_rf (some a0)), (1, .int v1)]) dX10_behindBlanks_1 rfl (by decide) rfl ?_
  refine ev_iload_n (j := 2) (x := v1) dX10_behindBlanks_2 rfl rfl ?_
  refine ev_istore_n (lv' := [(3, .int v1), (2, .int 0), (0, va_rf (some a0)), (1, .int v1)]) dX10_behindBlanks_3 rfl (by decide) rfl ?_
  exact ev_sub [2, 1, 0] rfl (ev_X10_behindBlanks_L4 hO hP P.N h)
set_option maxHeartbeats 4000000 in
set_option maxRecDepth 100000 in
theorem ev_X10_isDigit_p17 {l : Launch} {G : xG} (hO : x_OK l G) {P : xP} (hP : x_PG P G) {s0 : Int32} {σ σ' : xS} {rr : Int32 ⊕ String} (h : dm_X10_isDigit_p17 P s0 σ = some (rr, σ')) : Ev l G mX10_isDigit 17 [] [.int s0] σ (xrI rr) σ' := by
  unfold dm_X10_isDigit_p17 at h
  obtain ⟨c_1, h⟩ := x_chk_e h
  cases h
  exact ev_iret rfl (x_boolN c_1) dX10_isDigit_17
set_option maxHeartbeats 4000000 in
set_option maxRecDepth 100000 in
theorem ev_X10_isDigit_p16 {l : Launch} {G : xG} (hO : x_OK l G) {P : xP} (hP : x_PG P G) {σ σ' : xS} {rr : Int32 ⊕ String} (h : dm_X10_isDigit_p16 P σ = some (rr, σ')) : Ev l G mX10_isDigit 16 [] [] σ (xrI rr) σ' := by
  unfold dm_X10_isDigit_p16 at h
  refine ev_iconst (v := 0) dX10_isDigit_16 (by decide) ?_
  exact ev_sub [] rfl (ev_X10_isDigit_p17 hO hP h)
set_option maxHeartbeats 4000000 in
set_option maxRecDepth 100000 in
theorem ev_X10_isDigit {l : Launch} {G : xG} (hO : x_OK l G) {P : xP} (hP : x_PG P G) {v0 : Int32} {σ σ' : xS} {rr : Int32 ⊕ String} (h : dm_X10_isDigit P v0 σ = some (rr, σ')) : EvM l G mX10_isDigit [.int v0] σ (xrI rr) σ' := by
  unfold dm_X10_isDigit at h
  refine evM_of hO (by decide +kernel) (x_lenI (by simp [x_cat, x_catI, x_catJ, mX10_isDigit, xM.maxL])) ?_
  refine Eq.mp (congrArg (fun z => Ev l G mX10_isDigit 0 z [] σ (xrI rr) σ') (show [(0, .int v0)] = lv_args 0 [.int v0] by simp [lv_args, x_cat, x_catI, x_catJ])) ?_
  refine ev_iload_n (j := 0) (x := v0) dX10_isDigit_0 rfl rfl ?_
  refine ev_bipush (v := 48) dX10_isDigit_1 (by decide) ?_
  by_cases c_1 : v0 < 48
  · rw [if_pos c_1] at h
    refine ev_icmp_lt (x := v0) (y := 48) (tgt := 16) dX10_isDigit_3 (by decide) (fun _ => ?_) (fun q9 => absurd c_1 q9)
    exact ev_sub [] rfl (ev_X10_isDigit_p16 hO hP h)
  · rw [if_neg c_1] at h
    refine ev_icmp_lt (x := v0) (y := 48) (tgt := 16) dX10_isDigit_3 (by decide) (fun q9 => absurd q9 c_1) (fun _ => ?_)
    refine ev_iload_n (j := 0) (x := v0) dX10_isDigit_6 rfl rfl ?_
    refine ev_bipush (v := 57) dX10_isDigit_7 (by decide) ?_
    by_cases c_2 : 57 < v0
    · rw [if_pos c_2] at h
      refine ev_icmp_gt (x := v0) (y := 57) (tgt := 16) dX10_isDigit_9 (by decide) (fun _ => ?_) (fun q9 => absurd c_2 q9)
      exact ev_sub [] rfl (ev_X10_isDigit_p16 hO hP h)
    · rw [if_neg c_2] at h
      refine ev_icmp_gt (x := v0) (y := 57) (tgt := 16) dX10_isDigit_9 (by decide) (fun q9 => absurd q9 c_2) (fun _ => ?_)
      refine ev_iconst (v := 1) dX10_isDigit_12 (by decide) ?_
      refine ev_goto (tgt := 17) dX10_isDigit_13 (by decide) ?_
      exact ev_sub [] rfl (ev_X10_isDigit_p17 hO hP h)
set_option maxHeartbeats 4000000 in
set_option maxRecDepth 100000 in
theorem ev_X10_isLetter_p35 {l : Launch} {G : xG} (hO : x_OK l G) {P : xP} (hP : x_PG P G) {s0 : Int32} {σ σ' : xS} {rr : Int32 ⊕ String} (h : dm_X10_isLetter_p35 P s0 σ = some (rr, σ')) : Ev l G mX10_isLetter 35 [] [.int s0] σ (xrI rr) σ' := by
  unfold dm_X10_isLetter_p35 at h
  obtain ⟨c_1, h⟩ := x_chk_e h
  cases h
  exact ev_iret rfl (x_boolN c_1) dX10_isLetter_35
set_option maxHeartbeats 4000000 in
set_option maxRecDepth 100000 in
theorem ev_X10_isLetter_p30 {l : Launch} {G : xG} (hO : x_OK l G) {P : xP} (hP : x_PG P G) {σ σ' : xS} {rr : Int32 ⊕ String} (h : dm_X10_isLetter_p30 P σ = some (rr, σ')) : Ev l G mX10_isLetter 30 [] [] σ (xrI rr) σ' := by
  unfold dm_X10_isLetter_p30 at h
  refine ev_iconst (v := 1) dX10_isLetter_30 (by decide) ?_
  refine ev_goto (tgt := 35) dX10_isLetter_31 (by decide) ?_
  exact ev_sub [] rfl (ev_X10_isLetter_p35 hO hP h)
set_option maxHeartbeats 4000000 in
set_option maxRecDepth 100000 in
theorem ev_X10_isLetter_p24 {l : Launch} {G : xG} (hO : x_OK l G) {P : xP} (hP : x_PG P G) {v0 : Int32} {σ σ' : xS} {rr : Int32 ⊕ String} (h : dm_X10_isLetter_p24 P v0 σ = some (rr, σ')) : Ev l G mX10_isLetter 24 [(0, .int v0)] [] σ (xrI rr) σ' := by
  unfold dm_X10_isLetter_p24 at h
  refine ev_iload_n (j := 0) (x := v0) dX10_isLetter_24 rfl rfl ?_
  refine ev_bipush (v := 95) dX10_isLetter_25 (by decide) ?_
  by_cases c_1 : v0 = 95
  · rw [if_pos c_1] at h
    refine ev_icmp_ne (x := v0) (y := 95) (tgt := 34) dX10_isLetter_27 (by decide) (fun q9 => absurd c_1 q9) (fun _ => ?_)
    exact ev_sub [] rfl (ev_X10_isLetter_p30 hO hP h)
  · rw [if_neg c_1] at h
    refine ev_icmp_ne (x := v0) (y := 95) (tgt := 34) dX10_isLetter_27 (by decide) (fun _ => ?_) (fun q9 => absurd q9 c_1)
    refine ev_iconst (v := 0) dX10_isLetter_34 (by decide) ?_
    exact ev_sub [] rfl (ev_X10_isLetter_p35 hO hP h)
set_option maxHeartbeats 4000000 in
set_option maxRecDepth 100000 in
theorem ev_X10_isLetter_p12 {l : Launch} {G : xG} (hO : x_OK l G) {P : xP} (hP : x_PG P G) {v0 : Int32} {σ σ' : xS} {rr : Int32 ⊕ String} (h : dm_X10_isLetter_p12 P v0 σ = some (rr, σ')) : Ev l G mX10_isLetter 12 [(0, .int v0)] [] σ (xrI rr) σ' := by
  unfold dm_X10_isLetter_p12 at h
  refine ev_iload_n (j := 0) (x := v0) dX10_isLetter_12 rfl rfl ?_
  refine ev_bipush (v := 65) dX10_isLetter_13 (by decide) ?_
  by_cases c_1 : v0 < 65
  · rw [if_pos c_1] at h
    refine ev_icmp_lt (x := v0) (y := 65) (tgt := 24) dX10_isLetter_15 (by decide) (fun _ => ?_) (fun q9 => absurd c_1 q9)
    exact ev_sub [0] rfl (ev_X10_isLetter_p24 hO hP h)
  · rw [if_neg c_1] at h
    refine ev_icmp_lt (x := v0) (y := 65) (tgt := 24) dX10_isLetter_15 (by decide) (fun q9 => absurd q9 c_1) (fun _ => ?_)
    refine ev_iload_n (j := 0) (x := v0) dX10_isLetter_18 rfl rfl ?_
    refine ev_bipush (v := 90) dX10_isLetter_19 (by decide) ?_
    by_cases c_2 : v0 ≤ 90
    · rw [if_pos c_2] at h
      refine ev_icmp_le (x := v0) (y := 90) (tgt := 30) dX10_isLetter_21 (by decide) (fun _ => ?_) (fun q9 => absurd c_2 q9)
      exact ev_sub [] rfl (ev_X10_isLetter_p30 hO hP h)
    · rw [if_neg c_2] at h
      refine ev_icmp_le (x := v0) (y := 90) (tgt := 30) dX10_isLetter_21 (by decide) (fun q9 => absurd q9 c_2) (fun _ => ?_)
      exact ev_sub [0] rfl (ev_X10_isLetter_p24 hO hP h)
set_option maxHeartbeats 4000000 in
set_option maxRecDepth 100000 in
theorem ev_X10_isLetter {l : Launch} {G : xG} (hO : x_OK l G) {P : xP} (hP : x_PG P G) {v0 : Int32} {σ σ' : xS} {rr : Int32 ⊕ String} (h : dm_X10_isLetter P v0 σ = some (rr, σ')) : EvM l G mX10_isLetter [.int v0] σ (xrI rr) σ' := by
  unfold dm_X10_isLetter at h
  refine evM_of hO (by decide +kernel) (x_lenI (by simp [x_cat, x_catI, x_catJ, mX10_isLetter, xM.maxL])) ?_
  refine Eq.mp (congrArg (fun z => Ev l G mX10_isLetter 0 z [] σ (xrI rr) σ') (show [(0, .int v0)] = lv_args 0 [.int v0] by simp [lv_args, x_cat, x_catI, x_catJ])) ?_
  refine ev_iload_n (j := 0) (x := v0) dX10_isLetter_0 rfl rfl ?_
  refine ev_bipush (v := 97) dX10_isLetter_1 (by decide) ?_
  by_cases c_1 : v0 < 97
  · rw [if_pos c_1] at h
    refine ev_icmp_lt (x := v0) (y := 97) (tgt := 12) dX10_isLetter_3 (by decide) (fun _ => ?_) (fun q9 => absurd c_1 q9)
    exact ev_sub [0] rfl (ev_X10_isLetter_p12 hO hP h)
  · rw [if_neg c_1] at h
    refine ev_icmp_lt (x := v0) (y := 97) (tgt := 12) dX10_isLetter_3 (by decide) (fun q9 => absurd q9 c_1) (fun _ => ?_)
    refine ev_iload_n (j := 0) (x := v0) dX10_isLetter_6 rfl rfl ?_
    refine ev_bipush (v := 122) dX10_isLetter_7 (by decide) ?_
    by_cases c_2 : v0 ≤ 122
    · rw [if_pos c_2] at h
      refine ev_icmp_le (x := v0) (y := 122) (tgt := 30) dX10_isLetter_9 (by decide) (fun _ => ?_) (fun q9 => absurd c_2 q9)
      exact ev_sub [] rfl (ev_X10_isLetter_p30 hO hP h)
    · rw [if_neg c_2] at h
      refine ev_icmp_le (x := v0) (y := 122) (tgt := 30) dX10_isLetter_9 (by decide) (fun q9 => absurd q9 c_2) (fun _ => ?_)
      exact ev_sub [0] rfl (ev_X10_isLetter_p12 hO hP h)
set_option maxHeartbeats 4000000 in
set_option maxRecDepth 100000 in
theorem ev_X10_rowEnd_p70 {l : Launch} {G : xG} (hO : x_OK l G) {P : xP} (hP : x_PG P G) {a0 : Nat} {v3 : Int32} {σ σ' : xS} {rr : Int32 ⊕ String} (h : dm_X10_rowEnd_p70 P a0 v3 σ = some (rr, σ')) : Ev l G mX10_rowEnd 70 [(3, .int v3)] [] σ (xrI rr) σ' := by
  unfold dm_X10_rowEnd_p70 at h
  refine ev_iload_n (j := 0) (x := v3) dX10_rowEnd_70 rfl rfl ?_
  cases h
  exact ev_iret rfl rfl dX10_rowEnd_71
set_option maxHeartbeats 4000000 in
set_option maxRecDepth 100000 in
theorem ev_X10_rowEnd_p72 {l : Launch} {G : xG} (hO : x_OK l G) {P : xP} (hP : x_PG P G) {a0 : Nat} {k34 : Int32 → Int32 → xS → xO Int32} (hk34 : ∀ {v2 : Int32} {v3 : Int32} {σ σ' : xS} {rr : Int32 ⊕ String}, k34 v2 v3 σ = some (rr, σ') → Ev l G mX10_rowEnd 34 [(0, va_rf (some a0)), (2, .int v2), (3, .int v3)] [] σ (xrI rr) σ') {v2 : Int32} {v3 : Int32} {σ σ' : xS} {rr : Int32 ⊕ String} (h : dm_X10_rowEnd_p72 P k34 a0 v2 v3 σ = some (rr, σ')) : Ev l G mX10_rowEnd 72 [(0, va_rf (some a0)), (2, .int v2), (3, .int v3)] [] σ (xrI rr) σ' := by
  unfold dm_X10_rowEnd_p72 at h
  obtain ⟨v_1, ev_1, h⟩ := x_let_e h
  refine ev_iinc (j := 2) (x := v3) (v := v_1) (lv' := [(3, .int v_1), (0, va_rf (some a0)), (2, .int v2)]) dX10_rowEnd_72 rfl (by rw [ev_1]; rfl) (by decide) rfl ?_
  refine ev_goto (tgt := 34) dX10_rowEnd_75 (by decide) ?_
  exact ev_sub [1, 2, 0] rfl (hk34 h)
set_option maxHeartbeats 4000000 in
set_option maxRecDepth 100000 in
theorem ev_X10_rowEnd_L34 {l : Launch} {G : xG} (hO : x_OK l G) {P : xP} (hP : x_PG P G) {a0 : Nat} : ∀ (n : Nat) {v2 : Int32} {v3 : Int32} {σ σ' : xS} {rr : Int32 ⊕ String}, dm_X10_rowEnd_L34 P a0 n v2 v3 σ = some (rr, σ') → Ev l G mX10_rowEnd 34 [(0, va_rf (some a0)), (2, .int v2), (3, .int v3)] [] σ (xrI rr) σ' := by
  intro n
  induction n with
  | zero => intro v2 v3 σ σ' rr h; cases h
  | succ n ih =>
    intro v2 v3 σ σ' rr h
    rw [dm_X10_rowEnd_L34] at h
    refine ev_iload_n (j := 2) (x := v3) dX10_rowEnd_34 rfl rfl ?_
    refine ev_aload_n (j := 0) (x := (some a0)) dX10_rowEnd_35 rfl rfl ?_
    obtain ⟨c_1, h⟩ := x_chk_e h
    refine ev_get (C := RX10) (T := TX10) (k := 1) inX10 (xE_10 c_1) rfl (by decide) wd_89 (Or.inl rfl) rfl dX10_rowEnd_36 ?_
    by_cases c_2 : (σ.I 901 a0) ≤ v3
    · rw [if_pos c_2] at h
      refine ev_icmp_ge (x := v3) (y := (σ.I 901 a0)) (tgt := 78) dX10_rowEnd_39 (by decide) (fun _ => ?_) (fun q9 => absurd c_2 q9)
      refine ev_aload_n (j := 0) (x := (some a0)) dX10_rowEnd_78 rfl rfl ?_
      refine ev_get (C := RX10) (T := TX10) (k := 1) inX10 (xE_10 c_1) rfl (by decide) wd_89 (Or.inl rfl) rfl dX10_rowEnd_79 ?_
      cases h
      exact ev_iret rfl rfl dX10_rowEnd_82
    · rw [if_neg c_2] at h
      refine ev_icmp_ge (x := v3) (y := (σ.I 901 a0)) (tgt := 78) dX10_rowEnd_39 (by decide) (fun q9 => absurd q9 c_2) (fun _ => ?_)
      refine ev_aload_n (j := 0) (x := (some a0)) dX10_rowEnd_42 rfl rfl ?_
      refine ev_get (C := RX10) (T := TX10) (k := 0) inX10 (xE_10 c_1) rfl (by decide) wd_88 (Or.inl rfl) rfl dX10_rowEnd_43 ?_
      refine ev_iload_n (j := 2) (x := v3) dX10_rowEnd_46 rfl rfl ?_
      obtain ⟨a_3, ea_3, h⟩ := x_some_e h
      refine ev_at (st' := [.int v3, va_rf (some a_3)]) rfl (by rw [ea_3]) ?_
      obtain ⟨c_4, h⟩ := x_chk_e h
      refine ev_cald c_4.1 c_4.2 dX10_rowEnd_47 ?_
      rcases x_bind_e h with ⟨v_5, σ_6, h_7, h⟩ | ⟨E_18, σ_6, h_7, h⟩
      · have z9 := x_call (M := mX10_rowEnd) (M' := mX10_isDigit) (pc := 48) (st := [.int (σ.AI a_3 (Int32.toNatClampNeg v3))]) (rest := []) (av := [.int (σ.AI a_3 (Int32.toNatClampNeg v3))]) (x_linkS (M := mX10_rowEnd) (M' := mX10_isDigit) (As := [.int (σ.AI a_3 (Int32.toNatClampNeg v3))]) (index := 72) wd_201 wd_202 wd_118 xw_X10_isDigit rfl ⟨_, _, _, Or.inl wd_200⟩ (by decide) rfl rfl dX10_rowEnd_48) (ev_X10_isDigit hO hP h_7) xw_X10_isDigit rfl wd_118 dX10_rowEnd_48 (by decide) (by decide) (by simp [x_cat, x_catI, x_catJ])
        refine x_callR z9 ?_
        refine ev_at (st' := [.int v_5]) rfl rfl ?_
        by_cases c_8 : v_5 = 0
        · rw [if_pos c_8] at h
          refine ev_if_ne (x := v_5) (tgt := 72) dX10_rowEnd_51 (by decide) (fun q9 => absurd c_8 q9) (fun _ => ?_)
          refine ev_iload_n (j := 1) (x := v2) dX10_rowEnd_54 rfl rfl ?_
          by_cases c_9 : v2 = 0
          · rw [if_pos c_9] at h
            refine ev_if_ne (x := v2) (tgt := 70) dX10_rowEnd_55 (by decide) (fun q9 => absurd c_9 q9) (fun _ => ?_)
            refine ev_aload_n (j := 0) (x := (some a0)) dX10_rowEnd_58 rfl rfl ?_
            obtain ⟨c_10, h⟩ := x_chk_e h
            refine ev_get (C := RX10) (T := TX10) (k := 0) inX10 (xE_10 c_10) rfl (by decide) wd_88 (Or.inl rfl) rfl dX10_rowEnd_59 ?_
            refine ev_iload_n (j := 2) (x := v3) dX10_rowEnd_62 rfl rfl ?_
            obtain ⟨a_11, ea_11, h⟩ := x_some_e h
            refine ev_at (st' := [.int v3, va_rf (some a_11)]) rfl (by rw [ea_11]) ?_
            obtain ⟨c_12, h⟩ := x_chk_e h
            refine ev_cald c_12.1 c_12.2 dX10_rowEnd_63 ?_
            rcases x_bind_e h with ⟨v_13, σ_14, h_15, h⟩ | ⟨E_17, σ_14, h_15, h⟩
            · have z9 := x_call (M := mX10_rowEnd) (M' := mX10_isLetter) (pc := 64) (st := [.int (σ_6.AI a_11 (Int32.toNatClampNeg v3))]) (rest := []) (av := [.int (σ_6.AI a_11 (Int32.toNatClampNeg v3))]) (x_linkS (M := mX10_rowEnd) (M' := mX10_isLetter) (As := [.int (σ_6.AI a_11 (Int32.toNatClampNeg v3))]) (index := 76) wd_204 wd_205 wd_118 xw_X10_isLetter rfl ⟨_, _, _, Or.inl wd_203⟩ (by decide) rfl rfl dX10_rowEnd_64) (ev_X10_isLetter hO hP h_15) xw_X10_isLetter rfl wd_118 dX10_rowEnd_64 (by decide) (by decide) (by simp [x_cat, x_catI, x_catJ])
              refine x_callR z9 ?_
              refine ev_at (st' := [.int v_13]) rfl rfl ?_
              by_cases c_16 : v_13 = 0
              · rw [if_pos c_16] at h
                refine ev_if_ne (x := v_13) (tgt := 72) dX10_rowEnd_67 (by decide) (fun q9 => absurd c_16 q9) (fun _ => ?_)
                exact ev_sub [2] rfl (ev_X10_rowEnd_p70 hO hP h)
              · rw [if_neg c_16] at h
                refine ev_if_ne (x := v_13) (tgt := 72) dX10_rowEnd_67 (by decide) (fun _ => ?_) (fun q9 => absurd q9 c_16)
                exact ev_sub [0, 1, 2] rfl (ev_X10_rowEnd_p72 hO hP ih h)
            · have z9 := x_call (M := mX10_rowEnd) (M' := mX10_isLetter) (pc := 64) (st := [.int (σ_6.AI a_11 (Int32.toNatClampNeg v3))]) (rest := []) (av := [.int (σ_6.AI a_11 (Int32.toNatClampNeg v3))]) (x_linkS (M := mX10_rowEnd) (M' := mX10_isLetter) (As := [.int (σ_6.AI a_11 (Int32.toNatClampNeg v3))]) (index := 76) wd_204 wd_205 wd_118 xw_X10_isLetter rfl ⟨_, _, _, Or.inl wd_203⟩ (by decide) rfl rfl dX10_rowEnd_64) (ev_X10_isLetter hO hP h_15) xw_X10_isLetter rfl wd_118 dX10_rowEnd_64 (by decide) (by decide) (by simp [x_cat, x_catI, x_catJ])
              cases h
              exact x_callX z9 (evX_out rfl)
          · rw [if_neg c_9] at h
            refine ev_if_ne (x := v2) (tgt := 70) dX10_rowEnd_55 (by decide) (fun _ => ?_) (fun q9 => absurd q9 c_9)
            exact ev_sub [2] rfl (ev_X10_rowEnd_p70 hO hP h)
        · rw [if_neg c_8] at h
          refine ev_if_ne (x := v_5) (tgt := 72) dX10_rowEnd_51 (by decide) (fun _ => ?_) (fun q9 => absurd q9 c_8)
          exact ev_sub [0, 1, 2] rfl (ev_X10_rowEnd_p72 hO hP ih h)
      · have z9 := x_call (M := mX10_rowEnd) (M' := mX10_isDigit) (pc := 48) (st := [.int (σ.AI a_3 (Int32.toNatClampNeg v3))]) (rest := []) (av := [.int (σ.AI a_3 (Int32.toNatClampNeg v3))]) (x_linkS (M := mX10_rowEnd) (M' := mX10_isDigit) (As := [.int (σ.AI a_3 (Int32.toNatClampNeg v3))]) (index := 72) wd_201 wd_202 wd_118 xw_X10_isDigit rfl ⟨_, _, _, Or.inl wd_200⟩ (by decide) rfl rfl dX10_rowEnd_48) (ev_X10_isDigit hO hP h_7) xw_X10_isDigit rfl wd_118 dX10_rowEnd_48 (by decide) (by decide) (by simp [x_cat, x_catI, x_catJ])
        cases h
        exact x_callX z9 (evX_out rfl)
set_option maxHeartbeats 4000000 in
set_option maxRecDepth 100000 in
theorem ev_X10_rowEnd_p30 {l : Launch} {G : xG} (hO : x_OK l G) {P : xP} (hP : x_PG P G) {a0 : Nat} {v1 : Int32} {v2 : Int32} {σ σ' : xS} {rr : Int32 ⊕ String} (h : dm_X10_rowEnd_p30 P a0 v1 v2 σ = some (rr, σ')) : Ev l G mX10_rowEnd 30 [(0, va_rf (some a0)), (1, .int v1), (2, .int v2)] [] σ (xrI rr) σ' := by
  unfold dm_X10_rowEnd_p30 at h
  refine ev_iload_n (j := 1) (x := v1) dX10_rowEnd_30 rfl rfl ?_
  refine ev_iconst (v := 1) dX10_rowEnd_31 (by decide) ?_
  refine ev_iadd (x := v1) (y := 1) dX10_rowEnd_32 ?_
  obtain ⟨v_1, ev_1, h⟩ := x_let_e h
  rw [← ev_1]
  refine ev_istore_n (lv' := [(3, .int v_1), (0, va_rf (some a0)), (1, .int v1), (2, .int v2)]) dX10_rowEnd_33 rfl (by decide) rfl ?_
  exact ev_sub [1, 3, 0] rfl (ev_X10_rowEnd_L34 hO hP P.N h)
set_option maxHeartbeats 4000000 in
set_option maxRecDepth 100000 in
theorem ev_X10_rowEnd {l : Launch} {G : xG} (hO : x_OK l G) {P : xP} (hP : x_PG P G) {a0 : Nat} {v1 : Int32} {σ σ' : xS} {rr : Int32 ⊕ String} (h : dm_X10_rowEnd P a0 v1 σ = some (rr, σ')) : EvM l G mX10_rowEnd [va_rf (some a0), .int v1] σ (xrI rr) σ' := by
  unfold dm_X10_rowEnd at h
  refine evM_of hO (by decide +kernel) (x_lenI (by simp [x_cat, x_catI, x_catJ, mX10_rowEnd, xM.maxL])) ?_
  refine Eq.mp (congrArg (fun z => Ev l G mX10_rowEnd 0 z [] σ (xrI rr) σ') (show [(0, va_rf (some a0)), (1, .int v1)] = lv_args 0 [va_rf (some a0), .int v1] by simp [lv_args, x_cat, x_catI, x_catJ])) ?_
  refine ev_aload_n (j := 0) (x := (some a0)) dX10_rowEnd_0 rfl rfl ?_
  obtain ⟨c_1, h⟩ := x_chk_e h
  refine ev_get (C := RX10) (T := TX10) (k := 0) inX10 (xE_10 c_1) rfl (by decide) wd_88 (Or.inl rfl) rfl dX10_rowEnd_1 ?_
  refine ev_iload_n (j := 1) (x := v1) dX10_rowEnd_4 rfl rfl ?_
  obtain ⟨a_2, ea_2, h⟩ := x_some_e h
  refine ev_at (st' := [.int v1, va_rf (some a_2)]) rfl (by rw [ea_2]) ?_
  obtain ⟨c_3, h⟩ := x_chk_e h
  refine ev_cald c_3.1 c_3.2 dX10_rowEnd_5 ?_
  rcases x_bind_e h with ⟨v_4, σ_5, h_6, h⟩ | ⟨E_16, σ_5, h_6, h⟩
  · have z9 := x_call (M := mX10_rowEnd) (M' := mX10_isDigit) (pc := 6) (st := [.int (σ.AI a_2 (Int32.toNatClampNeg v1))]) (rest := []) (av := [.int (σ.AI a_2 (Int32.toNatClampNeg v1))]) (x_linkS (M := mX10_rowEnd) (M' := mX10_isDigit) (As := [.int (σ.AI a_2 (Int32.toNatClampNeg v1))]) (index := 72) wd_201 wd_202 wd_118 xw_X10_isDigit rfl ⟨_, _, _, Or.inl wd_200⟩ (by decide) rfl rfl dX10_rowEnd_6) (ev_X10_isDigit hO hP h_6) xw_X10_isDigit rfl wd_118 dX10_rowEnd_6 (by decide) (by decide) (by simp [x_cat, x_catI, x_catJ])
    refine x_callR z9 ?_
    refine ev_at (st' := [.int v_4]) rfl rfl ?_
    refine ev_istore_n (lv' := [(2, .int v_4), (0, va_rf (some a0)), (1, .int v1)]) dX10_rowEnd_9 rfl (by decide) rfl ?_
    refine ev_iload_n (j := 0) (x := v_4) dX10_rowEnd_10 rfl rfl ?_
    by_cases c_7 : v_4 = 0
    · rw [if_pos c_7] at h
      refine ev_if_ne (x := v_4) (tgt := 30) dX10_rowEnd_11 (by decide) (fun q9 => absurd c_7 q9) (fun _ => ?_)
      refine ev_aload_n (j := 1) (x := (some a0)) dX10_rowEnd_14 rfl rfl ?_
      obtain ⟨c_8, h⟩ := x_chk_e h
      refine ev_get (C := RX10) (T := TX10) (k := 0) inX10 (xE_10 c_8) rfl (by decide) wd_88 (Or.inl rfl) rfl dX10_rowEnd_15 ?_
      refine ev_iload_n (j := 2) (x := v1) dX10_rowEnd_18 rfl rfl ?_
      obtain ⟨a_9, ea_9, h⟩ := x_some_e h
      refine ev_at (st' := [.int v1, va_rf (some a_9)]) rfl (by rw [ea_9]) ?_
      obtain ⟨c_10, h⟩ := x_chk_e h
      refine ev_cald c_10.1 c_10.2 dX10_rowEnd_19 ?_
      rcases x_bind_e h with ⟨v_11, σ_12, h_13, h⟩ | ⟨E_15, σ_12, h_13, h⟩
      · have z9 := x_call (M := mX10_rowEnd) (M' := mX10_isLetter) (pc := 20) (st := [.int (σ_5.AI a_9 (Int32.toNatClampNeg v1))]) (rest := []) (av := [.int (σ_5.AI a_9 (Int32.toNatClampNeg v1))]) (x_linkS (M := mX10_rowEnd) (M' := mX10_isLetter) (As := [.int (σ_5.AI a_9 (Int32.toNatClampNeg v1))]) (index := 76) wd_204 wd_205 wd_118 xw_X10_isLetter rfl ⟨_, _, _, Or.inl wd_203⟩ (by decide) rfl rfl dX10_rowEnd_20) (ev_X10_isLetter hO hP h_13) xw_X10_isLetter rfl wd_118 dX10_rowEnd_20 (by decide) (by decide) (by simp [x_cat, x_catI, x_catJ])
        refine x_callR z9 ?_
        refine ev_at (st' := [.int v_11]) rfl rfl ?_
        by_cases c_14 : v_11 = 0
        · rw [if_pos c_14] at h
          refine ev_if_ne (x := v_11) (tgt := 30) dX10_rowEnd_23 (by decide) (fun q9 => absurd c_14 q9) (fun _ => ?_)
          refine ev_iload_n (j := 2) (x := v1) dX10_rowEnd_26 rfl rfl ?_
          refine ev_iconst (v := 1) dX10_rowEnd_27 (by decide) ?_
          refine ev_iadd (x := v1) (y := 1) dX10_rowEnd_28 ?_
          cases h
          exact ev_iret rfl rfl dX10_rowEnd_29
        · rw [if_neg c_14] at h
          refine ev_if_ne (x := v_11) (tgt := 30) dX10_rowEnd_23 (by decide) (fun _ => ?_) (fun q9 => absurd q9 c_14)
          exact ev_sub [1, 2, 0] rfl (ev_X10_rowEnd_p30 hO hP h)
      · have z9 := x_call (M := mX10_rowEnd) (M' := mX10_isLetter) (pc := 20) (st := [.int (σ_5.AI a_9 (Int32.toNatClampNeg v1))]) (rest := []) (av := [.int (σ_5.AI a_9 (Int32.toNatClampNeg v1))]) (x_linkS (M := mX10_rowEnd) (M' := mX10_isLetter) (As := [.int (σ_5.AI a_9 (Int32.toNatClampNeg v1))]) (index := 76) wd_204 wd_205 wd_118 xw_X10_isLetter rfl ⟨_, _, _, Or.inl wd_203⟩ (by decide) rfl rfl dX10_rowEnd_20) (ev_X10_isLetter hO hP h_13) xw_X10_isLetter rfl wd_118 dX10_rowEnd_20 (by decide) (by decide) (by simp [x_cat, x_catI, x_catJ])
        cases h
        exact x_callX z9 (evX_out rfl)
    · rw [if_neg c_7] at h
      refine ev_if_ne (x := v_4) (tgt := 30) dX10_rowEnd_11 (by decide) (fun _ => ?_) (fun q9 => absurd q9 c_7)
      exact ev_sub [1, 2, 0] rfl (ev_X10_rowEnd_p30 hO hP h)
  · have z9 := x_call (M := mX10_rowEnd) (M' := mX10_isDigit) (pc := 6) (st := [.int (σ.AI a_2 (Int32.toNatClampNeg v1))]) (rest := []) (av := [.int (σ.AI a_2 (Int32.toNatClampNeg v1))]) (x_linkS (M := mX10_rowEnd) (M' := mX10_isDigit) (As := [.int (σ.AI a_2 (Int32.toNatClampNeg v1))]) (index := 72) wd_201 wd_202 wd_118 xw_X10_isDigit rfl ⟨_, _, _, Or.inl wd_200⟩ (by decide) rfl rfl dX10_rowEnd_6) (ev_X10_isDigit hO hP h_6) xw_X10_isDigit rfl wd_118 dX10_rowEnd_6 (by decide) (by decide) (by simp [x_cat, x_catI, x_catJ])
    cases h
    exact x_callX z9 (evX_out rfl)
set_option maxHeartbeats 4000000 in
set_option maxRecDepth 100000 in
theorem ev_X10_numberIn_p41 {l : Launch} {G : xG} (hO : x_OK l G) {P : xP} (hP : x_PG P G) {a0 : Nat} {v3 : Int32} {σ σ' : xS} {rr : Int32 ⊕ String} (h : dm_X10_numberIn_p41 P a0 v3 σ = some (rr, σ')) : Ev l G mX10_numberIn 41 [(3, .int v3)] [] σ (xrI rr) σ' := by
  unfold dm_X10_numberIn_p41 at h
  refine ev_iload_n (j := 0) (x := v3) dX10_numberIn_41 rfl rfl ?_
  cases h
  exact ev_iret rfl rfl dX10_numberIn_42
set_option maxHeartbeats 4000000 in
set_option maxRecDepth 100000 in
theorem ev_X10_numberIn_L5 {l : Launch} {G : xG} (hO : x_OK l G) {P : xP} (hP : x_PG P G) {a0 : Nat} : ∀ (n : Nat) {v1 : Int32} {v2 : Int32} {v3 : Int32} {v4 : Int32} {σ σ' : xS} {rr : Int32 ⊕ String}, dm_X10_numberIn_L5 P a0 n v1 v2 v3 v4 σ = some (rr, σ') → Ev l G mX10_numberIn 5 [(0, va_rf (some a0)), (1, .int v1), (2, .int v2), (3, .int v3), (4, .int v4)] [] σ (xrI rr) σ' := by
  intro n
  induction n with
  | zero => intro v1 v2 v3 v4 σ σ' rr h; cases h
  | succ n ih =>
    intro v1 v2 v3 v4 σ σ' rr h
    rw [dm_X10_numberIn_L5] at h
    refine ev_iload (j := 4) (x := v4) dX10_numberIn_5 rfl ?_
    refine ev_iload_n (j := 2) (x := v2) dX10_numberIn_7 rfl rfl ?_
    by_cases c_1 : v2 ≤ v4
    · rw [if_pos c_1] at h
      refine ev_icmp_ge (x := v4) (y := v2) (tgt := 41) dX10_numberIn_8 (by decide) (fun _ => ?_) (fun q9 => absurd c_1 q9)
      exact ev_sub [3] rfl (ev_X10_numberIn_p41 hO hP h)
    · rw [if_neg c_1] at h
      refine ev_icmp_ge (x := v4) (y := v2) (tgt := 41) dX10_numberIn_8 (by decide) (fun q9 => absurd q9 c_1) (fun _ => ?_)
      refine ev_iload (j := 4) (x := v4) dX10_numberIn_11 rfl ?_
      refine ev_iload_n (j := 1) (x := v1) dX10_numberIn_13 rfl rfl ?_
      refine ev_iconst (v := 2) dX10_numberIn_14 (by decide) ?_
      refine ev_iadd (x := v1) (y := 2) dX10_numberIn_15 ?_
      by_cases c_2 : (v1 + 2) ≤ v4
      · rw [if_pos c_2] at h
        refine ev_icmp_ge (x := v4) (y := (v1 + 2)) (tgt := 41) dX10_numberIn_16 (by decide) (fun _ => ?_) (fun q9 => absurd c_2 q9)
        exact ev_sub [3] rfl (ev_X10_numberIn_p41 hO hP h)
      · rw [if_neg c_2] at h
        refine ev_icmp_ge (x := v4) (y := (v1 + 2)) (tgt := 41) dX10_numberIn_16 (by decide) (fun q9 => absurd q9 c_2) (fun _ => ?_)
        refine ev_iload_n (j := 3) (x := v3) dX10_numberIn_19 rfl rfl ?_
        refine ev_bipush (v := 10) dX10_numberIn_20 (by decide) ?_
        refine ev_imul (x := v3) (y := 10) dX10_numberIn_22 ?_
        refine ev_aload_n (j := 0) (x := (some a0)) dX10_numberIn_23 rfl rfl ?_
        obtain ⟨c_3, h⟩ := x_chk_e h
        refine ev_get (C := RX10) (T := TX10) (k := 0) inX10 (xE_10 c_3) rfl (by decide) wd_88 (Or.inl rfl) rfl dX10_numberIn_24 ?_
        refine ev_iload (j := 4) (x := v4) dX10_numberIn_27 rfl ?_
        obtain ⟨a_4, ea_4, h⟩ := x_some_e h
        refine ev_at (st' := [.int v4, va_rf (some a_4), .int (v3 * 10)]) rfl (by rw [ea_4]) ?_
        obtain ⟨c_5, h⟩ := x_chk_e h
        refine ev_cald c_5.1 c_5.2 dX10_numberIn_29 ?_
        refine ev_iadd (x := (v3 * 10)) (y := (σ.AI a_4 (Int32.toNatClampNeg v4))) dX10_numberIn_30 ?_
        refine ev_bipush (v := 48) dX10_numberIn_31 (by decide) ?_
        refine ev_isub (x := ((v3 * 10) + (σ.AI a_4 (Int32.toNatClampNeg v4)))) (y := 48) dX10_numberIn_33 ?_
        obtain ⟨v_6, ev_6, h⟩ := x_let_e h
        rw [← ev_6]
        refine ev_istore_n (lv' := [(3, .int v_6), (0, va_rf (some a0)), (1, .int v1), (2, .int v2), (4, .int v4)]) dX10_numberIn_34 rfl (by decide) rfl ?_
        obtain ⟨v_7, ev_7, h⟩ := x_let_e h
        refine ev_iinc (j := 4) (x := v4) (v := v_7) (lv' := [(4, .int v_7), (3, .int v_6), (0, va_rf (some a0)), (1, .int v1), (2, .int v2)]) dX10_numberIn_35 rfl (by rw [ev_7]; rfl) (by decide) rfl ?_
        refine ev_goto (tgt := 5) dX10_numberIn_38 (by decide) ?_
        exact ev_sub [2, 3, 4, 1, 0] rfl (ih h)
set_option maxHeartbeats 4000000 in
set_option maxRecDepth 100000 in
theorem ev_X10_numberIn {l : Launch} {G : xG} (hO : x_OK l G) {P : xP} (hP : x_PG P G) {a0 : Nat} {v1 : Int32} {v2 : Int32} {σ σ' : xS} {rr : Int32 ⊕ String} (h : dm_X10_numberIn P a0 v1 v2 σ = some (rr, σ')) : EvM l G mX10_numberIn [va_rf (some a0), .int v1, .int v2] σ (xrI rr) σ' := by
  unfold dm_X10_numberIn at h
  refine evM_of hO (by decide +kernel) (x_lenI (by simp [x_cat, x_catI, x_catJ, mX10_numberIn, xM.maxL])) ?_
  refine Eq.mp (congrArg (fun z => Ev l G mX10_numberIn 0 z [] σ (xrI rr) σ') (show [(0, va_rf (some a0)), (1, .int v1), (2, .int v2)] = lv_args 0 [va_rf (some a0), .int v1, .int v2] by simp [lv_args, x_cat, x_catI, x_catJ])) ?_
  refine ev_iconst (v := 0) dX10_numberIn_0 (by decide) ?_
  refine ev_istore_n (lv' := [(3, .int 0), (0, va_rf (some a0)), (1, .int v1), (2, .int v2)]) dX10_numberIn_1 rfl (by decide) rfl ?_
  refine ev_iload_n (j := 2) (x := v1) dX10_numberIn_2 rfl rfl ?_
  refine ev_istore (lv' := [(4, .int v1), (3, .int 0), (0, va_rf (some a0)), (1, .int v1), (2, .int v2)]) dX10_numberIn_3 (by decide) rfl ?_
  exact ev_sub [2, 3, 4, 1, 0] rfl (ev_X10_numberIn_L5 hO hP P.N h)
set_option maxHeartbeats 4000000 in
set_option maxRecDepth 100000 in
theorem ev_X10_nameIn_p48 {l : Launch} {G : xG} (hO : x_OK l G) {P : xP} (hP : x_PG P G) {a0 : Nat} {v3 : Int64} {σ σ' : xS} {rr : Int64 ⊕ String} (h : dm_X10_nameIn_p48 P a0 v3 σ = some (rr, σ')) : Ev l G mX10_nameIn 48 [(3, .long v3)] [] σ (xrJ rr) σ' := by
  unfold dm_X10_nameIn_p48 at h
  refine ev_lload_n (j := 0) (x := v3) dX10_nameIn_48 rfl rfl ?_
  cases h
  exact ev_lret rfl dX10_nameIn_49
set_option maxHeartbeats 4000000 in
set_option maxRecDepth 100000 in
theorem ev_X10_nameIn_L5 {l : Launch} {G : xG} (hO : x_OK l G) {P : xP} (hP : x_PG P G) {a0 : Nat} : ∀ (n : Nat) {v1 : Int32} {v2 : Int32} {v3 : Int64} {v5 : Int32} {σ σ' : xS} {rr : Int64 ⊕ String}, dm_X10_nameIn_L5 P a0 n v1 v2 v3 v5 σ = some (rr, σ') → Ev l G mX10_nameIn 5 [(0, va_rf (some a0)), (1, .int v1), (2, .int v2), (3, .long v3), (5, .int v5)] [] σ (xrJ rr) σ' := by
  intro n
  induction n with
  | zero => intro v1 v2 v3 v5 σ σ' rr h; cases h
  | succ n ih =>
    intro v1 v2 v3 v5 σ σ' rr h
    rw [dm_X10_nameIn_L5] at h
    refine ev_iload (j := 4) (x := v5) dX10_nameIn_5 rfl ?_
    refine ev_bipush (v := 8) dX10_nameIn_7 (by decide) ?_
    by_cases c_1 : 8 ≤ v5
    · rw [if_pos c_1] at h
      refine ev_icmp_ge (x := v5) (y := 8) (tgt := 48) dX10_nameIn_9 (by decide) (fun _ => ?_) (fun q9 => absurd c_1 q9)
      exact ev_sub [3] rfl (ev_X10_nameIn_p48 hO hP h)
    · rw [if_neg c_1] at h
      refine ev_icmp_ge (x := v5) (y := 8) (tgt := 48) dX10_nameIn_9 (by decide) (fun q9 => absurd q9 c_1) (fun _ => ?_)
      refine ev_iload_n (j := 1) (x := v1) dX10_nameIn_12 rfl rfl ?_
      refine ev_iload (j := 4) (x := v5) dX10_nameIn_13 rfl ?_
      refine ev_iadd (x := v1) (y := v5) dX10_nameIn_15 ?_
      refine ev_iload_n (j := 2) (x := v2) dX10_nameIn_16 rfl rfl ?_
      by_cases c_2 : v2 ≤ (v1 + v5)
      · rw [if_pos c_2] at h
        refine ev_icmp_ge (x := (v1 + v5)) (y := v2) (tgt := 48) dX10_nameIn_17 (by decide) (fun _ => ?_) (fun q9 => absurd c_2 q9)
        exact ev_sub [3] rfl (ev_X10_nameIn_p48 hO hP h)
      · rw [if_neg c_2] at h
        refine ev_icmp_ge (x := (v1 + v5)) (y := v2) (tgt := 48) dX10_nameIn_17 (by decide) (fun q9 => absurd q9 c_2) (fun _ => ?_)
        refine ev_lload_n (j := 3) (x := v3) dX10_nameIn_20 rfl rfl ?_
        refine ev_aload_n (j := 0) (x := (some a0)) dX10_nameIn_21 rfl rfl ?_
        obtain ⟨c_3, h⟩ := x_chk_e h
        refine ev_get (C := RX10) (T := TX10) (k := 0) inX10 (xE_10 c_3) rfl (by decide) wd_88 (Or.inl rfl) rfl dX10_nameIn_22 ?_
        refine ev_iload_n (j := 1) (x := v1) dX10_nameIn_25 rfl rfl ?_
        refine ev_iload (j := 4) (x := v5) dX10_nameIn_26 rfl ?_
        refine ev_iadd (x := v1) (y := v5) dX10_nameIn_28 ?_
        obtain ⟨a_4, ea_4, h⟩ := x_some_e h
        refine ev_at (st' := [.int (v1 + v5), va_rf (some a_4), .long v3]) rfl (by rw [ea_4]) ?_
        obtain ⟨c_5, h⟩ := x_chk_e h
        refine ev_cald c_5.1 c_5.2 dX10_nameIn_29 ?_
        refine ev_i2l (x := (σ.AI a_4 (Int32.toNatClampNeg (v1 + v5)))) dX10_nameIn_30 ?_
        refine ev_bipush (v := 56) dX10_nameIn_31 (by decide) ?_
        refine ev_bipush (v := 8) dX10_nameIn_33 (by decide) ?_
        refine ev_iload (j := 4) (x := v5) dX10_nameIn_35 rfl ?_
        refine ev_imul (x := 8) (y := v5) dX10_nameIn_37 ?_
        refine ev_isub (x := 56) (y := (8 * v5)) dX10_nameIn_38 ?_
        refine ev_lshl (x := (Int32.toInt64 (σ.AI a_4 (Int32.toNatClampNeg (v1 + v5))))) (y := (56 - (8 * v5))) dX10_nameIn_39 ?_
        refine ev_lor (x := v3) (y := ((Int32.toInt64 (σ.AI a_4 (Int32.toNatClampNeg (v1 + v5)))) <<< (Int32.toInt64 (56 - (8 * v5)) &&& 63))) dX10_nameIn_40 ?_
        obtain ⟨v_6, ev_6, h⟩ := x_let_e h
        rw [← ev_6]
        refine ev_lstore_n (lv' := [(3, .long v_6), (0, va_rf (some a0)), (1, .int v1), (2, .int v2), (5, .int v5)]) dX10_nameIn_41 rfl (by decide) rfl ?_
        obtain ⟨v_7, ev_7, h⟩ := x_let_e h
        refine ev_iinc (j := 4) (x := v5) (v := v_7) (lv' := [(5, .int v_7), (3, .long v_6), (0, va_rf (some a0)), (1, .int v1), (2, .int v2)]) dX10_nameIn_42 rfl (by rw [ev_7]; rfl) (by decide) rfl ?_
        refine ev_goto (tgt := 5) dX10_nameIn_45 (by decide) ?_
        exact ev_sub [2, 3, 4, 1, 0] rfl (ih h)
set_option maxHeartbeats 4000000 in
set_option maxRecDepth 100000 in
theorem ev_X10_nameIn {l : Launch} {G : xG} (hO : x_OK l G) {P : xP} (hP : x_PG P G) {a0 : Nat} {v1 : Int32} {v2 : Int32} {σ σ' : xS} {rr : Int64 ⊕ String} (h : dm_X10_nameIn P a0 v1 v2 σ = some (rr, σ')) : EvM l G mX10_nameIn [va_rf (some a0), .int v1, .int v2] σ (xrJ rr) σ' := by
  unfold dm_X10_nameIn at h
  refine evM_of hO (by decide +kernel) (x_lenI (by simp [x_cat, x_catI, x_catJ, mX10_nameIn, xM.maxL])) ?_
  refine Eq.mp (congrArg (fun z => Ev l G mX10_nameIn 0 z [] σ (xrJ rr) σ') (show [(0, va_rf (some a0)), (1, .int v1), (2, .int v2)] = lv_args 0 [va_rf (some a0), .int v1, .int v2] by simp [lv_args, x_cat, x_catI, x_catJ])) ?_
  refine ev_lconst (v := 0) dX10_nameIn_0 (by decide) ?_
  refine ev_lstore_n (lv' := [(3, .long 0), (0, va_rf (some a0)), (1, .int v1), (2, .int v2)]) dX10_nameIn_1 rfl (by decide) rfl ?_
  refine ev_iconst (v := 0) dX10_nameIn_2 (by decide) ?_
  refine ev_istore (lv' := [(5, .int 0), (3, .long 0), (0, va_rf (some a0)), (1, .int v1), (2, .int v2)]) dX10_nameIn_3 (by decide) rfl ?_
  exact ev_sub [2, 3, 4, 1, 0] rfl (ev_X10_nameIn_L5 hO hP P.N h)
set_option maxHeartbeats 4000000 in
set_option maxRecDepth 100000 in
theorem ev_X10_packed_p41 {l : Launch} {G : xG} (hO : x_OK l G) {P : xP} (hP : x_PG P G) {v1 : Int64} {σ σ' : xS} {rr : Int64 ⊕ String} (h : dm_X10_packed_p41 P v1 σ = some (rr, σ')) : Ev l G mX10_packed 41 [(1, .long v1)] [] σ (xrJ rr) σ' := by
  unfold dm_X10_packed_p41 at h
  refine ev_lload_n (j := 0) (x := v1) dX10_packed_41 rfl rfl ?_
  cases h
  exact ev_lret rfl dX10_packed_42
set_option maxHeartbeats 4000000 in
set_option maxRecDepth 100000 in
theorem ev_X10_packed_L4 {l : Launch} {G : xG} (hO : x_OK l G) {P : xP} (hP : x_PG P G) : ∀ (n : Nat) {v0 : Option Nat} {v1 : Int64} {v3 : Int32} {σ σ' : xS} {rr : Int64 ⊕ String}, dm_X10_packed_L4 P n v0 v1 v3 σ = some (rr, σ') → Ev l G mX10_packed 4 [(0, va_rf v0), (1, .long v1), (3, .int v3)] [] σ (xrJ rr) σ' := by
  intro n
  induction n with
  | zero => intro v0 v1 v3 σ σ' rr h; cases h
  | succ n ih =>
    intro v0 v1 v3 σ σ' rr h
    rw [dm_X10_packed_L4] at h
    refine ev_iload_n (j := 2) (x := v3) dX10_packed_4 rfl rfl ?_
    refine ev_aload_n (j := 0) (x := v0) dX10_packed_5 rfl rfl ?_
    obtain ⟨a_1, ea_1, h⟩ := x_some_e h
    refine ev_at (st' := [va_rf (some a_1), .int v3]) rfl (by rw [ea_1]) ?_
    obtain ⟨c_5, h⟩ := x_chk_e h
    rcases x_bind_e h with ⟨v_2, σ_3, h_4, h⟩ | ⟨E_15, σ_3, h_4, h⟩
    · have z9 := x_call (M := mX10_packed) (M' := mJ0_length_8abf5) (pc := 6) (st := [va_rf (some a_1), .int v3]) (rest := [.int v3]) (av := [va_rf (some a_1)]) (x_linkStr (M := mX10_packed) (M' := mJ0_length_8abf5) (As := []) (index := 36) (b := a_1) c_5 wd_207 wd_208 wd_209 xw_J0_length_8abf5 rfl (by decide) rfl rfl dX10_packed_6) (ev_J0_length_8abf5 hO hP h_4) xw_J0_length_8abf5 rfl wd_210 dX10_packed_6 (by decide) (by decide) (by simp [x_cat, x_catI, x_catJ])
      refine x_callR z9 ?_
      refine ev_at (st' := [.int v_2, .int v3]) rfl rfl ?_
      by_cases c_6 : v_2 ≤ v3
      · rw [if_pos c_6] at h
        refine ev_icmp_ge (x := v3) (y := v_2) (tgt := 41) dX10_packed_9 (by decide) (fun _ => ?_) (fun q9 => absurd c_6 q9)
        exact ev_sub [1] rfl (ev_X10_packed_p41 hO hP h)
      · rw [if_neg c_6] at h
        refine ev_icmp_ge (x := v3) (y := v_2) (tgt := 41) dX10_packed_9 (by decide) (fun q9 => absurd q9 c_6) (fun _ => ?_)
        refine ev_iload_n (j := 2) (x := v3) dX10_packed_12 rfl rfl ?_
        refine ev_bipush (v := 8) dX10_packed_13 (by decide) ?_
        by_cases c_7 : 8 ≤ v3
        · rw [if_pos c_7] at h
          refine ev_icmp_ge (x := v3) (y := 8) (tgt := 41) dX10_packed_15 (by decide) (fun _ => ?_) (fun q9 => absurd c_7 q9)
          exact ev_sub [1] rfl (ev_X10_packed_p41 hO hP h)
        · rw [if_neg c_7] at h
          refine ev_icmp_ge (x := v3) (y := 8) (tgt := 41) dX10_packed_15 (by decide) (fun q9 => absurd q9 c_7) (fun _ => ?_)
          refine ev_lload_n (j := 1) (x := v1) dX10_packed_18 rfl rfl ?_
          refine ev_aload_n (j := 0) (x := v0) dX10_packed_19 rfl rfl ?_
          refine ev_iload_n (j := 2) (x := v3) dX10_packed_20 rfl rfl ?_
          refine ev_at (st' := [.int v3, va_rf (some a_1), .long v1]) rfl (by rw [ea_1]) ?_
          obtain ⟨c_11, h⟩ := x_chk_e h
          rcases x_bind_e h with ⟨v_8, σ_9, h_10, h⟩ | ⟨E_14, σ_9, h_10, h⟩
          · have z9 := x_call (M := mX10_packed) (M' := mJ0_charAt_5068e) (pc := 21) (st := [.int v3, va_rf (some a_1), .long v1]) (rest := [.long v1]) (av := [va_rf (some a_1), .int v3]) (x_linkStr (M := mX10_packed) (M' := mJ0_charAt_5068e) (As := [.int v3]) (index := 41) (b := a_1) c_11 wd_212 wd_213 wd_214 xw_J0_charAt_5068e rfl (by decide) rfl rfl dX10_packed_21) (ev_J0_charAt_5068e hO hP h_10) xw_J0_charAt_5068e rfl wd_210 dX10_packed_21 (by decide) (by decide) (by simp [x_cat, x_catI, x_catJ])
            refine x_callR z9 ?_
            refine ev_at (st' := [.int v_8, .long v1]) rfl rfl ?_
            refine ev_i2l (x := v_8) dX10_packed_24 ?_
            refine ev_bipush (v := 56) dX10_packed_25 (by decide) ?_
            refine ev_bipush (v := 8) dX10_packed_27 (by decide) ?_
            refine ev_iload_n (j := 2) (x := v3) dX10_packed_29 rfl rfl ?_
            refine ev_imul (x := 8) (y := v3) dX10_packed_30 ?_
            refine ev_isub (x := 56) (y := (8 * v3)) dX10_packed_31 ?_
            refine ev_lshl (x := (Int32.toInt64 v_8)) (y := (56 - (8 * v3))) dX10_packed_32 ?_
            refine ev_lor (x := v1) (y := ((Int32.toInt64 v_8) <<< (Int32.toInt64 (56 - (8 * v3)) &&& 63))) dX10_packed_33 ?_
            obtain ⟨v_12, ev_12, h⟩ := x_let_e h
            rw [← ev_12]
            refine ev_lstore_n (lv' := [(1, .long v_12), (0, va_rf v0), (3, .int v3)]) dX10_packed_34 rfl (by decide) (by simp [x_cat, x_catI, x_catJ]) ?_
            obtain ⟨v_13, ev_13, h⟩ := x_let_e h
            refine ev_iinc (j := 2) (x := v3) (v := v_13) (lv' := [(3, .int v_13), (1, .long v_12), (0, va_rf v0)]) dX10_packed_35 rfl (by rw [ev_13]; rfl) (by decide) rfl ?_
            refine ev_goto (tgt := 4) dX10_packed_38 (by decide) ?_
            exact ev_sub [2, 1, 0] rfl (ih h)
          · have z9 := x_call (M := mX10_packed) (M' := mJ0_charAt_5068e) (pc := 21) (st := [.int v3, va_rf (some a_1), .long v1]) (rest := [.long v1]) (av := [va_rf (some a_1), .int v3]) (x_linkStr (M := mX10_packed) (M' := mJ0_charAt_5068e) (As := [.int v3]) (index := 41) (b := a_1) c_11 wd_212 wd_213 wd_214 xw_J0_charAt_5068e rfl (by decide) rfl rfl dX10_packed_21) (ev_J0_charAt_5068e hO hP h_10) xw_J0_charAt_5068e rfl wd_210 dX10_packed_21 (by decide) (by decide) (by simp [x_cat, x_catI, x_catJ])
            cases h
            exact x_callX z9 (evX_out rfl)
    · have z9 := x_call (M := mX10_packed) (M' := mJ0_length_8abf5) (pc := 6) (st := [va_rf (some a_1), .int v3]) (rest := [.int v3]) (av := [va_rf (some a_1)]) (x_linkStr (M := mX10_packed) (M' := mJ0_length_8abf5) (As := []) (index := 36) (b := a_1) c_5 wd_207 wd_208 wd_209 xw_J0_length_8abf5 rfl (by decide) rfl rfl dX10_packed_6) (ev_J0_length_8abf5 hO hP h_4) xw_J0_length_8abf5 rfl wd_210 dX10_packed_6 (by decide) (by decide) (by simp [x_cat, x_catI, x_catJ])
      cases h
      exact x_callX z9 (evX_out rfl)
set_option maxHeartbeats 4000000 in
set_option maxRecDepth 100000 in
theorem ev_X10_packed {l : Launch} {G : xG} (hO : x_OK l G) {P : xP} (hP : x_PG P G) {v0 : Option Nat} {σ σ' : xS} {rr : Int64 ⊕ String} (h : dm_X10_packed P v0 σ = some (rr, σ')) : EvM l G mX10_packed [va_rf v0] σ (xrJ rr) σ' := by
  unfold dm_X10_packed at h
  refine evM_of hO (by decide +kernel) (x_lenI (by simp [x_cat, x_catI, x_catJ, mX10_packed, xM.maxL])) ?_
  refine Eq.mp (congrArg (fun z => Ev l G mX10_packed 0 z [] σ (xrJ rr) σ') (show [(0, va_rf v0)] = lv_args 0 [va_rf v0] by simp [lv_args, x_cat, x_catI, x_catJ])) ?_
  refine ev_lconst (v := 0) dX10_packed_0 (by decide) ?_
  refine ev_lstore_n (lv' := [(1, .long 0), (0, va_rf v0)]) dX10_packed_1 rfl (by decide) (by simp [x_cat, x_catI, x_catJ]) ?_
  refine ev_iconst (v := 0) dX10_packed_2 (by decide) ?_
  refine ev_istore_n (lv' := [(3, .int 0), (1, .long 0), (0, va_rf v0)]) dX10_packed_3 rfl (by decide) rfl ?_
  exact ev_sub [2, 1, 0] rfl (ev_X10_packed_L4 hO hP P.N h)
set_option maxHeartbeats 4000000 in
set_option maxRecDepth 100000 in
theorem ev_X10_isKeyword_p65 {l : Launch} {G : xG} (hO : x_OK l G) {P : xP} (hP : x_PG P G) {s0 : Int32} {σ σ' : xS} {rr : Int32 ⊕ String} (h : dm_X10_isKeyword_p65 P s0 σ = some (rr, σ')) : Ev l G mX10_isKeyword 65 [] [.int s0] σ (xrI rr) σ' := by
  unfold dm_X10_isKeyword_p65 at h
  obtain ⟨c_1, h⟩ := x_chk_e h
  cases h
  exact ev_iret rfl (x_boolN c_1) dX10_isKeyword_65
set_option maxHeartbeats 4000000 in
set_option maxRecDepth 100000 in
theorem ev_X10_isKeyword_p60 {l : Launch} {G : xG} (hO : x_OK l G) {P : xP} (hP : x_PG P G) {σ σ' : xS} {rr : Int32 ⊕ String} (h : dm_X10_isKeyword_p60 P σ = some (rr, σ')) : Ev l G mX10_isKeyword 60 [] [] σ (xrI rr) σ' := by
  unfold dm_X10_isKeyword_p60 at h
  refine ev_iconst (v := 1) dX10_isKeyword_60 (by decide) ?_
  refine ev_goto (tgt := 65) dX10_isKeyword_61 (by decide) ?_
  exact ev_sub [] rfl (ev_X10_isKeyword_p65 hO hP h)
set_option maxHeartbeats 4000000 in
set_option maxRecDepth 100000 in
theorem ev_X10_isKeyword {l : Launch} {G : xG} (hO : x_OK l G) {P : xP} (hP : x_PG P G) {v0 : Int64} {σ σ' : xS} {rr : Int32 ⊕ String} (h : dm_X10_isKeyword P v0 σ = some (rr, σ')) : EvM l G mX10_isKeyword [.long v0] σ (xrI rr) σ' := by
  unfold dm_X10_isKeyword at h
  refine evM_of hO (by decide +kernel) (x_lenI (by simp [x_cat, x_catI, x_catJ, mX10_isKeyword, xM.maxL])) ?_
  refine Eq.mp (congrArg (fun z => Ev l G mX10_isKeyword 0 z [] σ (xrI rr) σ') (show [(0, .long v0)] = lv_args 0 [.long v0] by simp [lv_args, x_cat, x_catI, x_catJ])) ?_
  refine ev_lload_n (j := 0) (x := v0) dX10_isKeyword_0 rfl rfl ?_
  refine ev_ldcS (q := ("NetlistForms$Words", 45, "module", 19)) hP (List.mem_of_getElem? (i := 31) rfl) rfl dX10_isKeyword_1 ?_
  rcases x_bind_e h with ⟨v_1, σ_2, h_3, h⟩ | ⟨E_30, σ_2, h_3, h⟩
  · have z9 := x_call (M := mX10_isKeyword) (M' := mX10_packed) (pc := 3) (st := [va_rf (some (P.ad 19)), .long v0]) (rest := [.long v0]) (av := [va_rf (some (P.ad 19))]) (x_linkS (M := mX10_isKeyword) (M' := mX10_packed) (As := [va_rf (some (P.ad 19))]) (index := 47) wd_216 wd_217 wd_118 xw_X10_packed rfl ⟨_, _, _, Or.inl wd_215⟩ (by decide) rfl rfl dX10_isKeyword_3) (ev_X10_packed hO hP h_3) xw_X10_packed rfl wd_118 dX10_isKeyword_3 (by decide) (by decide) (by simp [x_cat, x_catI, x_catJ])
    refine x_callR z9 ?_
    refine ev_at (st' := [.long v_1, .long v0]) rfl rfl ?_
    refine ev_lcmp (x := v0) (y := v_1) dX10_isKeyword_6 ?_
    by_cases c_4 : (lg_cmp v0 v_1) = 0
    · rw [if_pos c_4] at h
      refine ev_if_eq (x := (lg_cmp v0 v_1)) (tgt := 60) dX10_isKeyword_7 (by decide) (fun _ => ?_) (fun q9 => absurd c_4 q9)
      exact ev_sub [] rfl (ev_X10_isKeyword_p60 hO hP h)
    · rw [if_neg c_4] at h
      refine ev_if_eq (x := (lg_cmp v0 v_1)) (tgt := 60) dX10_isKeyword_7 (by decide) (fun q9 => absurd q9 c_4) (fun _ => ?_)
      refine ev_lload_n (j := 0) (x := v0) dX10_isKeyword_10 rfl rfl ?_
      refine ev_ldcS (q := ("NetlistForms$Words", 51, "input", 15)) hP (List.mem_of_getElem? (i := 32) rfl) rfl dX10_isKeyword_11 ?_
      rcases x_bind_e h with ⟨v_5, σ_6, h_7, h⟩ | ⟨E_29, σ_6, h_7, h⟩
      · have z9 := x_call (M := mX10_isKeyword) (M' := mX10_packed) (pc := 13) (st := [va_rf (some (P.ad 15)), .long v0]) (rest := [.long v0]) (av := [va_rf (some (P.ad 15))]) (x_linkS (M := mX10_isKeyword) (M' := mX10_packed) (As := [va_rf (some (P.ad 15))]) (index := 47) wd_216 wd_217 wd_118 xw_X10_packed rfl ⟨_, _, _, Or.inl wd_215⟩ (by decide) rfl rfl dX10_isKeyword_13) (ev_X10_packed hO hP h_7) xw_X10_packed rfl wd_118 dX10_isKeyword_13 (by decide) (by decide) (by simp [x_cat, x_catI, x_catJ])
        refine x_callR z9 ?_
        refine ev_at (st' := [.long v_5, .long v0]) rfl rfl ?_
        refine ev_lcmp (x := v0) (y := v_5) dX10_isKeyword_16 ?_
        by_cases c_8 : (lg_cmp v0 v_5) = 0
        · rw [if_pos c_8] at h
          refine ev_if_eq (x := (lg_cmp v0 v_5)) (tgt := 60) dX10_isKeyword_17 (by decide) (fun _ => ?_) (fun q9 => absurd c_8 q9)
          exact ev_sub [] rfl (ev_X10_isKeyword_p60 hO hP h)
        · rw [if_neg c_8] at h
          refine ev_if_eq (x := (lg_cmp v0 v_5)) (tgt := 60) dX10_isKeyword_17 (by decide) (fun q9 => absurd q9 c_8) (fun _ => ?_)
          refine ev_lload_n (j := 0) (x := v0) dX10_isKeyword_20 rfl rfl ?_
          refine ev_ldcS (q := ("NetlistForms$Words", 53, "output", 23)) hP (List.mem_of_getElem? (i := 33) rfl) rfl dX10_isKeyword_21 ?_
          rcases x_bind_e h with ⟨v_9, σ_10, h_11, h⟩ | ⟨E_28, σ_10, h_11, h⟩
          · have z9 := x_call (M := mX10_isKeyword) (M' := mX10_packed) (pc := 23) (st := [va_rf (some (P.ad 23)), .long v0]) (rest := [.long v0]) (av := [va_rf (some (P.ad 23))]) (x_linkS (M := mX10_isKeyword) (M' := mX10_packed) (As := [va_rf (some (P.ad 23))]) (index := 47) wd_216 wd_217 wd_118 xw_X10_packed rfl ⟨_, _, _, Or.inl wd_215⟩ (by decide) rfl rfl dX10_isKeyword_23) (ev_X10_packed hO hP h_11) xw_X10_packed rfl wd_118 dX10_isKeyword_23 (by decide) (by decide) (by simp [x_cat, x_catI, x_catJ])
            refine x_callR z9 ?_
            refine ev_at (st' := [.long v_9, .long v0]) rfl rfl ?_
            refine ev_lcmp (x := v0) (y := v_9) dX10_isKeyword_26 ?_
            by_cases c_12 : (lg_cmp v0 v_9) = 0
            · rw [if_pos c_12] at h
              refine ev_if_eq (x := (lg_cmp v0 v_9)) (tgt := 60) dX10_isKeyword_27 (by decide) (fun _ => ?_) (fun q9 => absurd c_12 q9)
              exact ev_sub [] rfl (ev_X10_isKeyword_p60 hO hP h)
            · rw [if_neg c_12] at h
              refine ev_if_eq (x := (lg_cmp v0 v_9)) (tgt := 60) dX10_isKeyword_27 (by decide) (fun q9 => absurd q9 c_12) (fun _ => ?_)
              refine ev_lload_n (j := 0) (x := v0) dX10_isKeyword_30 rfl rfl ?_
              refine ev_ldcS (q := ("NetlistForms$Words", 55, "wire", 29)) hP (List.mem_of_getElem? (i := 34) rfl) rfl dX10_isKeyword_31 ?_
              rcases x_bind_e h with ⟨v_13, σ_14, h_15, h⟩ | ⟨E_27, σ_14, h_15, h⟩
              · have z9 := x_call (M := mX10_isKeyword) (M' := mX10_packed) (pc := 33) (st := [va_rf (some (P.ad 29)), .long v0]) (rest := [.long v0]) (av := [va_rf (some (P.ad 29))]) (x_linkS (M := mX10_isKeyword) (M' := mX10_packed) (As := [va_rf (some (P.ad 29))]) (index := 47) wd_216 wd_217 wd_118 xw_X10_packed rfl ⟨_, _, _, Or.inl wd_215⟩ (by decide) rfl rfl dX10_isKeyword_33) (ev_X10_packed hO hP h_15) xw_X10_packed rfl wd_118 dX10_isKeyword_33 (by decide) (by decide) (by simp [x_cat, x_catI, x_catJ])
                refine x_callR z9 ?_
                refine ev_at (st' := [.long v_13, .long v0]) rfl rfl ?_
                refine ev_lcmp (x := v0) (y := v_13) dX10_isKeyword_36 ?_
                by_cases c_16 : (lg_cmp v0 v_13) = 0
                · rw [if_pos c_16] at h
                  refine ev_if_eq (x := (lg_cmp v0 v_13)) (tgt := 60) dX10_isKeyword_37 (by decide) (fun _ => ?_) (fun q9 => absurd c_16 q9)
                  exact ev_sub [] rfl (ev_X10_isKeyword_p60 hO hP h)
                · rw [if_neg c_16] at h
                  refine ev_if_eq (x := (lg_cmp v0 v_13)) (tgt := 60) dX10_isKeyword_37 (by decide) (fun q9 => absurd q9 c_16) (fun _ => ?_)
                  refine ev_lload_n (j := 0) (x := v0) dX10_isKeyword_40 rfl rfl ?_
                  refine ev_ldcS (q := ("NetlistForms$Words", 57, "assign", 7)) hP (List.mem_of_getElem? (i := 35) rfl) rfl dX10_isKeyword_41 ?_
                  rcases x_bind_e h with ⟨v_17, σ_18, h_19, h⟩ | ⟨E_26, σ_18, h_19, h⟩
                  · have z9 := x_call (M := mX10_isKeyword) (M' := mX10_packed) (pc := 43) (st := [va_rf (some (P.ad 7)), .long v0]) (rest := [.long v0]) (av := [va_rf (some (P.ad 7))]) (x_linkS (M := mX10_isKeyword) (M' := mX10_packed) (As := [va_rf (some (P.ad 7))]) (index := 47) wd_216 wd_217 wd_118 xw_X10_packed rfl ⟨_, _, _, Or.inl wd_215⟩ (by decide) rfl rfl dX10_isKeyword_43) (ev_X10_packed hO hP h_19) xw_X10_packed rfl wd_118 dX10_isKeyword_43 (by decide) (by decide) (by simp [x_cat, x_catI, x_catJ])
                    refine x_callR z9 ?_
                    refine ev_at (st' := [.long v_17, .long v0]) rfl rfl ?_
                    refine ev_lcmp (x := v0) (y := v_17) dX10_isKeyword_46 ?_
                    by_cases c_20 : (lg_cmp v0 v_17) = 0
                    · rw [if_pos c_20] at h
                      refine ev_if_eq (x := (lg_cmp v0 v_17)) (tgt := 60) dX10_isKeyword_47 (by decide) (fun _ => ?_) (fun q9 => absurd c_20 q9)
                      exact ev_sub [] rfl (ev_X10_isKeyword_p60 hO hP h)
                    · rw [if_neg c_20] at h
                      refine ev_if_eq (x := (lg_cmp v0 v_17)) (tgt := 60) dX10_isKeyword_47 (by decide) (fun q9 => absurd q9 c_20) (fun _ => ?_)
                      refine ev_lload_n (j := 0) (x := v0) dX10_isKeyword_50 rfl rfl ?_
                      refine ev_ldcS (q := ("NetlistForms$Words", 59, "end", 11)) hP (List.mem_of_getElem? (i := 36) rfl) rfl dX10_isKeyword_51 ?_
                      rcases x_bind_e h with ⟨v_21, σ_22, h_23, h⟩ | ⟨E_25, σ_22, h_23, h⟩
                      · have z9 := x_call (M := mX10_isKeyword) (M' := mX10_packed) (pc := 53) (st := [va_rf (some (P.ad 11)), .long v0]) (rest := [.long v0]) (av := [va_rf (some (P.ad 11))]) (x_linkS (M := mX10_isKeyword) (M' := mX10_packed) (As := [va_rf (some (P.ad 11))]) (index := 47) wd_216 wd_217 wd_118 xw_X10_packed rfl ⟨_, _, _, Or.inl wd_215⟩ (by decide) rfl rfl dX10_isKeyword_53) (ev_X10_packed hO hP h_23) xw_X10_packed rfl wd_118 dX10_isKeyword_53 (by decide) (by decide) (by simp [x_cat, x_catI, x_catJ])
                        refine x_callR z9 ?_
                        refine ev_at (st' := [.long v_21, .long v0]) rfl rfl ?_
                        refine ev_lcmp (x := v0) (y := v_21) dX10_isKeyword_56 ?_
                        by_cases c_24 : (lg_cmp v0 v_21) = 0
                        · rw [if_pos c_24] at h
                          refine ev_if_ne (x := (lg_cmp v0 v_21)) (tgt := 64) dX10_isKeyword_57 (by decide) (fun q9 => absurd c_24 q9) (fun _ => ?_)
                          exact ev_sub [] rfl (ev_X10_isKeyword_p60 hO hP h)
                        · rw [if_neg c_24] at h
                          refine ev_if_ne (x := (lg_cmp v0 v_21)) (tgt := 64) dX10_isKeyword_57 (by decide) (fun _ => ?_) (fun q9 => absurd q9 c_24)
                          refine ev_iconst (v := 0) dX10_isKeyword_64 (by decide) ?_
                          exact ev_sub [] rfl (ev_X10_isKeyword_p65 hO hP h)
                      · have z9 := x_call (M := mX10_isKeyword) (M' := mX10_packed) (pc := 53) (st := [va_rf (some (P.ad 11)), .long v0]) (rest := [.long v0]) (av := [va_rf (some (P.ad 11))]) (x_linkS (M := mX10_isKeyword) (M' := mX10_packed) (As := [va_rf (some (P.ad 11))]) (index := 47) wd_216 wd_217 wd_118 xw_X10_packed rfl ⟨_, _, _, Or.inl wd_215⟩ (by decide) rfl rfl dX10_isKeyword_53) (ev_X10_packed hO hP h_23) xw_X10_packed rfl wd_118 dX10_isKeyword_53 (by decide) (by decide) (by simp [x_cat, x_catI, x_catJ])
                        cases h
                        exact x_callX z9 (evX_out rfl)
                  · have z9 := x_call (M := mX10_isKeyword) (M' := mX10_packed) (pc := 43) (st := [va_rf (some (P.ad 7)), .long v0]) (rest := [.long v0]) (av := [va_rf (some (P.ad 7))]) (x_linkS (M := mX10_isKeyword) (M' := mX10_packed) (As := [va_rf (some (P.ad 7))]) (index := 47) wd_216 wd_217 wd_118 xw_X10_packed rfl ⟨_, _, _, Or.inl wd_215⟩ (by decide) rfl rfl dX10_isKeyword_43) (ev_X10_packed hO hP h_19) xw_X10_packed rfl wd_118 dX10_isKeyword_43 (by decide) (by decide) (by simp [x_cat, x_catI, x_catJ])
                    cases h
                    exact x_callX z9 (evX_out rfl)
              · have z9 := x_call (M := mX10_isKeyword) (M' := mX10_packed) (pc := 33) (st := [va_rf (some (P.ad 29)), .long v0]) (rest := [.long v0]) (av := [va_rf (some (P.ad 29))]) (x_linkS (M := mX10_isKeyword) (M' := mX10_packed) (As := [va_rf (some (P.ad 29))]) (index := 47) wd_216 wd_217 wd_118 xw_X10_packed rfl ⟨_, _, _, Or.inl wd_215⟩ (by decide) rfl rfl dX10_isKeyword_33) (ev_X10_packed hO hP h_15) xw_X10_packed rfl wd_118 dX10_isKeyword_33 (by decide) (by decide) (by simp [x_cat, x_catI, x_catJ])
                cases h
                exact x_callX z9 (evX_out rfl)
          · have z9 := x_call (M := mX10_isKeyword) (M' := mX10_packed) (pc := 23) (st := [va_rf (some (P.ad 23)), .long v0]) (rest := [.long v0]) (av := [va_rf (some (P.ad 23))]) (x_linkS (M := mX10_isKeyword) (M' := mX10_packed) (As := [va_rf (some (P.ad 23))]) (index := 47) wd_216 wd_217 wd_118 xw_X10_packed rfl ⟨_, _, _, Or.inl wd_215⟩ (by decide) rfl rfl dX10_isKeyword_23) (ev_X10_packed hO hP h_11) xw_X10_packed rfl wd_118 dX10_isKeyword_23 (by decide) (by decide) (by simp [x_cat, x_catI, x_catJ])
            cases h
            exact x_callX z9 (evX_out rfl)
      · have z9 := x_call (M := mX10_isKeyword) (M' := mX10_packed) (pc := 13) (st := [va_rf (some (P.ad 15)), .long v0]) (rest := [.long v0]) (av := [va_rf (some (P.ad 15))]) (x_linkS (M := mX10_isKeyword) (M' := mX10_packed) (As := [va_rf (some (P.ad 15))]) (index := 47) wd_216 wd_217 wd_118 xw_X10_packed rfl ⟨_, _, _, Or.inl wd_215⟩ (by decide) rfl rfl dX10_isKeyword_13) (ev_X10_packed hO hP h_7) xw_X10_packed rfl wd_118 dX10_isKeyword_13 (by decide) (by decide) (by simp [x_cat, x_catI, x_catJ])
        cases h
        exact x_callX z9 (evX_out rfl)
  · have z9 := x_call (M := mX10_isKeyword) (M' := mX10_packed) (pc := 3) (st := [va_rf (some (P.ad 19)), .long v0]) (rest := [.long v0]) (av := [va_rf (some (P.ad 19))]) (x_linkS (M := mX10_isKeyword) (M' := mX10_packed) (As := [va_rf (some (P.ad 19))]) (index := 47) wd_216 wd_217 wd_118 xw_X10_packed rfl ⟨_, _, _, Or.inl wd_215⟩ (by decide) rfl rfl dX10_isKeyword_3) (ev_X10_packed hO hP h_3) xw_X10_packed rfl wd_118 dX10_isKeyword_3 (by decide) (by decide) (by simp [x_cat, x_catI, x_catJ])
    cases h
    exact x_callX z9 (evX_out rfl)
set_option maxHeartbeats 4000000 in
set_option maxRecDepth 100000 in
theorem ev_X10_addWord_p153 {l : Launch} {G : xG} (hO : x_OK l G) {P : xP} (hP : x_PG P G) {a0 : Nat} {σ σ' : xS} {rr : Unit ⊕ String} (h : dm_X10_addWord_p153 P a0 σ = some (rr, σ')) : Ev l G mX10_addWord 153 [(0, va_rf (some a0))] [] σ (xrV rr) σ' := by
  unfold dm_X10_addWord_p153 at h
  refine ev_aload_n (j := 0) (x := (some a0)) dX10_addWord_153 rfl rfl ?_
  refine ev_dup dX10_addWord_154 (x_cat _) ?_
  obtain ⟨c_1, h⟩ := x_chk_e h
  refine ev_get (C := RX10) (T := TX10) (k := 5) inX10 (xE_10 c_1) rfl (by decide) wd_95 (Or.inl rfl) rfl dX10_addWord_155 ?_
  refine ev_iconst (v := 1) dX10_addWord_158 (by decide) ?_
  refine ev_iadd (x := (σ.I 905 a0)) (y := 1) dX10_addWord_159 ?_
  obtain ⟨c_2, h⟩ := x_chk_e h
  obtain ⟨σ_3, eσ_3, h⟩ := x_let_e h
  refine ev_put (σ2 := σ_3) (C := RX10) (T := TX10) (k := 5) inX10 tyX10 tyX10_ok nmX10 (xE_10 c_2.1) rfl (by decide) wd_95 (Or.inl rfl) rfl rfl rfl rfl (Nat.le_of_ble_eq_true rfl) (hP.2.2.2.1 ▸ c_2.2) (by rw [eσ_3]; exact xP_10_5 _ c_2.1) (by rw [eσ_3]; exact xPut_I) dX10_addWord_160 ?_
  cases h
  exact ev_vret rfl dX10_addWord_163
set_option maxHeartbeats 4000000 in
set_option maxRecDepth 100000 in
theorem ev_X10_addWord_p58 {l : Launch} {G : xG} (hO : x_OK l G) {P : xP} (hP : x_PG P G) {a0 : Nat} {s0 : Option Nat} {s1 : Int32} {s2 : Int32} {σ σ' : xS} {rr : Unit ⊕ String} (h : dm_X10_addWord_p58 P a0 s0 s1 s2 σ = some (rr, σ')) : Ev l G mX10_addWord 58 [(0, va_rf (some a0))] [.int s2, .int s1, va_rf s0] σ (xrV rr) σ' := by
  unfold dm_X10_addWord_p58 at h
  obtain ⟨a_1, ea_1, h⟩ := x_some_e h
  refine ev_at (st' := [.int s2, .int s1, va_rf (some a_1)]) rfl (by rw [ea_1]) ?_
  obtain ⟨c_2, h⟩ := x_chk_e h
  obtain ⟨σ_3, eσ_3, h⟩ := x_let_e h
  refine ev_iast c_2.1 c_2.2.1 (hP.2.2.2.1 ▸ c_2.2.2) dX10_addWord_58 (eσ_3 ▸ ?_)
  refine ev_goto (tgt := 153) dX10_addWord_59 (by decide) ?_
  exact ev_sub [0] rfl (ev_X10_addWord_p153 hO hP h)
set_option maxHeartbeats 4000000 in
set_option maxRecDepth 100000 in
theorem ev_X10_addWord_p123 {l : Launch} {G : xG} (hO : x_OK l G) {P : xP} (hP : x_PG P G) {a0 : Nat} {s0 : Option Nat} {s1 : Int32} {s2 : Int32} {σ σ' : xS} {rr : Unit ⊕ String} (h : dm_X10_addWord_p123 P a0 s0 s1 s2 σ = some (rr, σ')) : Ev l G mX10_addWord 123 [(0, va_rf (some a0))] [.int s2, .int s1, va_rf s0] σ (xrV rr) σ' := by
  unfold dm_X10_addWord_p123 at h
  obtain ⟨a_1, ea_1, h⟩ := x_some_e h
  refine ev_at (st' := [.int s2, .int s1, va_rf (some a_1)]) rfl (by rw [ea_1]) ?_
  obtain ⟨c_2, h⟩ := x_chk_e h
  obtain ⟨σ_3, eσ_3, h⟩ := x_let_e h
  refine ev_iast c_2.1 c_2.2.1 (hP.2.2.2.1 ▸ c_2.2.2) dX10_addWord_123 (eσ_3 ▸ ?_)
  refine ev_goto (tgt := 153) dX10_addWord_124 (by decide) ?_
  exact ev_sub [0] rfl (ev_X10_addWord_p153 hO hP h)
set_option maxHeartbeats 4000000 in
set_option maxRecDepth 100000 in
theorem ev_X10_addWord {l : Launch} {G : xG} (hO : x_OK l G) {P : xP} (hP : x_PG P G) {a0 : Nat} {v1 : Int32} {v2 : Int32} {σ σ' : xS} {rr : Unit ⊕ String} (h : dm_X10_addWord P a0 v1 v2 σ = some (rr, σ')) : EvM l G mX10_addWord [va_rf (some a0), .int v1, .int v2] σ (xrV rr) σ' := by
  unfold dm_X10_addWord at h
  refine evM_of hO (by decide +kernel) (x_lenI (by simp [x_cat, x_catI, x_catJ, mX10_addWord, xM.maxL])) ?_
  refine Eq.mp (congrArg (fun z => Ev l G mX10_addWord 0 z [] σ (xrV rr) σ') (show [(0, va_rf (some a0)), (1, .int v1), (2, .int v2)] = lv_args 0 [va_rf (some a0), .int v1, .int v2] by simp [lv_args, x_cat, x_catI, x_catJ])) ?_
  refine ev_aload_n (j := 0) (x := (some a0)) dX10_addWord_0 rfl rfl ?_
  obtain ⟨c_1, h⟩ := x_chk_e h
  refine ev_get (C := RX10) (T := TX10) (k := 2) inX10 (xE_10 c_1) rfl (by decide) wd_91 (Or.inl rfl) rfl dX10_addWord_1 ?_
  refine ev_aload_n (j := 0) (x := (some a0)) dX10_addWord_4 rfl rfl ?_
  refine ev_get (C := RX10) (T := TX10) (k := 5) inX10 (xE_10 c_1) rfl (by decide) wd_95 (Or.inl rfl) rfl dX10_addWord_5 ?_
  refine ev_iload_n (j := 1) (x := v1) dX10_addWord_8 rfl rfl ?_
  obtain ⟨a_2, ea_2, h⟩ := x_some_e h
  refine ev_at (st' := [.int v1, .int (σ.I 905 a0), va_rf (some a_2)]) rfl (by rw [ea_2]) ?_
  obtain ⟨c_3, h⟩ := x_chk_e h
  obtain ⟨σ_4, eσ_4, h⟩ := x_let_e h
  refine ev_iast c_3.1 c_3.2.1 (hP.2.2.2.1 ▸ c_3.2.2) dX10_addWord_9 (eσ_4 ▸ ?_)
  refine ev_aload_n (j := 0) (x := (some a0)) dX10_addWord_10 rfl rfl ?_
  obtain ⟨c_5, h⟩ := x_chk_e h
  refine ev_get (C := RX10) (T := TX10) (k := 0) inX10 (xE_10 c_5) rfl (by decide) wd_88 (Or.inl rfl) rfl dX10_addWord_11 ?_
  refine ev_iload_n (j := 1) (x := v1) dX10_addWord_14 rfl rfl ?_
  obtain ⟨a_6, ea_6, h⟩ := x_some_e h
  refine ev_at (st' := [.int v1, va_rf (some a_6)]) rfl (by rw [ea_6]) ?_
  obtain ⟨c_7, h⟩ := x_chk_e h
  refine ev_cald c_7.1 c_7.2 dX10_addWord_15 ?_
  rcases x_bind_e h with ⟨v_8, σ_9, h_10, h⟩ | ⟨E_56, σ_9, h_10, h⟩
  · have z9 := x_call (M := mX10_addWord) (M' := mX10_isDigit) (pc := 16) (st := [.int (σ_4.AI a_6 (Int32.toNatClampNeg v1))]) (rest := []) (av := [.int (σ_4.AI a_6 (Int32.toNatClampNeg v1))]) (x_linkS (M := mX10_addWord) (M' := mX10_isDigit) (As := [.int (σ_4.AI a_6 (Int32.toNatClampNeg v1))]) (index := 72) wd_201 wd_202 wd_118 xw_X10_isDigit rfl ⟨_, _, _, Or.inl wd_200⟩ (by decide) rfl rfl dX10_addWord_16) (ev_X10_isDigit hO hP h_10) xw_X10_isDigit rfl wd_118 dX10_addWord_16 (by decide) (by decide) (by simp [x_cat, x_catI, x_catJ])
    refine x_callR z9 ?_
    refine ev_at (st' := [.int v_8]) rfl rfl ?_
    by_cases c_11 : v_8 = 0
    · rw [if_pos c_11] at h
      refine ev_if_eq (x := v_8) (tgt := 62) dX10_addWord_19 (by decide) (fun _ => ?_) (fun q9 => absurd c_11 q9)
      refine ev_aload_n (j := 0) (x := (some a0)) dX10_addWord_62 rfl rfl ?_
      obtain ⟨c_12, h⟩ := x_chk_e h
      refine ev_get (C := RX10) (T := TX10) (k := 0) inX10 (xE_10 c_12) rfl (by decide) wd_88 (Or.inl rfl) rfl dX10_addWord_63 ?_
      refine ev_iload_n (j := 1) (x := v1) dX10_addWord_66 rfl rfl ?_
      obtain ⟨a_13, ea_13, h⟩ := x_some_e h
      refine ev_at (st' := [.int v1, va_rf (some a_13)]) rfl (by rw [ea_13]) ?_
      obtain ⟨c_14, h⟩ := x_chk_e h
      refine ev_cald c_14.1 c_14.2 dX10_addWord_67 ?_
      rcases x_bind_e h with ⟨v_15, σ_16, h_17, h⟩ | ⟨E_45, σ_16, h_17, h⟩
      · have z9 := x_call (M := mX10_addWord) (M' := mX10_isLetter) (pc := 68) (st := [.int (σ_9.AI a_13 (Int32.toNatClampNeg v1))]) (rest := []) (av := [.int (σ_9.AI a_13 (Int32.toNatClampNeg v1))]) (x_linkS (M := mX10_addWord) (M' := mX10_isLetter) (As := [.int (σ_9.AI a_13 (Int32.toNatClampNeg v1))]) (index := 76) wd_204 wd_205 wd_118 xw_X10_isLetter rfl ⟨_, _, _, Or.inl wd_203⟩ (by decide) rfl rfl dX10_addWord_68) (ev_X10_isLetter hO hP h_17) xw_X10_isLetter rfl wd_118 dX10_addWord_68 (by decide) (by decide) (by simp [x_cat, x_catI, x_catJ])
        refine x_callR z9 ?_
        refine ev_at (st' := [.int v_15]) rfl rfl ?_
        by_cases c_18 : v_15 = 0
        · rw [if_pos c_18] at h
          refine ev_if_eq (x := v_15) (tgt := 127) dX10_addWord_71 (by decide) (fun _ => ?_) (fun q9 => absurd c_18 q9)
          refine ev_aload_n (j := 0) (x := (some a0)) dX10_addWord_127 rfl rfl ?_
          obtain ⟨c_19, h⟩ := x_chk_e h
          refine ev_get (C := RX10) (T := TX10) (k := 4) inX10 (xE_10 c_19) rfl (by decide) wd_94 (Or.inl rfl) rfl dX10_addWord_128 ?_
          refine ev_aload_n (j := 0) (x := (some a0)) dX10_addWord_131 rfl rfl ?_
          refine ev_get (C := RX10) (T := TX10) (k := 5) inX10 (xE_10 c_19) rfl (by decide) wd_95 (Or.inl rfl) rfl dX10_addWord_132 ?_
          refine ev_aload_n (j := 0) (x := (some a0)) dX10_addWord_135 rfl rfl ?_
          refine ev_get (C := RX10) (T := TX10) (k := 0) inX10 (xE_10 c_19) rfl (by decide) wd_88 (Or.inl rfl) rfl dX10_addWord_136 ?_
          refine ev_iload_n (j := 1) (x := v1) dX10_addWord_139 rfl rfl ?_
          obtain ⟨a_20, ea_20, h⟩ := x_some_e h
          refine ev_at (st' := [.int v1, va_rf (some a_20), .int (σ_16.I 905 a0), va_rf (σ_16.R 904 a0)]) rfl (by rw [ea_20]) ?_
          obtain ⟨c_21, h⟩ := x_chk_e h
          refine ev_cald c_21.1 c_21.2 dX10_addWord_140 ?_
          refine ev_i2l (x := (σ_16.AI a_20 (Int32.toNatClampNeg v1))) dX10_addWord_141 ?_
          obtain ⟨a_22, ea_22, h⟩ := x_some_e h
          refine ev_at (st' := [.long (Int32.toInt64 (σ_16.AI a_20 (Int32.toNatClampNeg v1))), .int (σ_16.I 905 a0), va_rf (some a_22)]) rfl (by rw [ea_22]) ?_
          obtain ⟨c_23, h⟩ := x_chk_e h
          obtain ⟨σ_24, eσ_24, h⟩ := x_let_e h
          refine ev_last c_23.1 c_23.2.1 (hP.2.2.2.1 ▸ c_23.2.2) dX10_addWord_142 (eσ_24 ▸ ?_)
          refine ev_aload_n (j := 0) (x := (some a0)) dX10_addWord_143 rfl rfl ?_
          obtain ⟨c_25, h⟩ := x_chk_e h
          refine ev_get (C := RX10) (T := TX10) (k := 3) inX10 (xE_10 c_25) rfl (by decide) wd_92 (Or.inl rfl) rfl dX10_addWord_144 ?_
          refine ev_aload_n (j := 0) (x := (some a0)) dX10_addWord_147 rfl rfl ?_
          refine ev_get (C := RX10) (T := TX10) (k := 5) inX10 (xE_10 c_25) rfl (by decide) wd_95 (Or.inl rfl) rfl dX10_addWord_148 ?_
          refine ev_iconst (v := 3) dX10_addWord_151 (by decide) ?_
          obtain ⟨a_26, ea_26, h⟩ := x_some_e h
          refine ev_at (st' := [.int 3, .int (σ_24.I 905 a0), va_rf (some a_26)]) rfl (by rw [ea_26]) ?_
          obtain ⟨c_27, h⟩ := x_chk_e h
          obtain ⟨σ_28, eσ_28, h⟩ := x_let_e h
          refine ev_iast c_27.1 c_27.2.1 (hP.2.2.2.1 ▸ c_27.2.2) dX10_addWord_152 (eσ_28 ▸ ?_)
          exact ev_sub [0] rfl (ev_X10_addWord_p153 hO hP h)
        · rw [if_neg c_18] at h
          refine ev_if_eq (x := v_15) (tgt := 127) dX10_addWord_71 (by decide) (fun q9 => absurd q9 c_18) (fun _ => ?_)
          refine ev_aload_n (j := 0) (x := (some a0)) dX10_addWord_74 rfl rfl ?_
          refine ev_iload_n (j := 1) (x := v1) dX10_addWord_75 rfl rfl ?_
          refine ev_iload_n (j := 2) (x := v2) dX10_addWord_76 rfl rfl ?_
          obtain ⟨c_32, h⟩ := x_chk_e h
          rcases x_bind_e h with ⟨v_29, σ_30, h_31, h⟩ | ⟨E_44, σ_30, h_31, h⟩
          · have z9 := x_call (M := mX10_addWord) (M' := mX10_nameIn) (pc := 77) (st := [.int v2, .int v1, va_rf (some a0)]) (rest := []) (av := [va_rf (some a0), .int v1, .int v2]) (x_linkV (M := mX10_addWord) (M' := mX10_nameIn) (As := [.int v1, .int v2]) (index := 83) (C := RX10) (T := TX10) (xE_10 c_32) rfl wd_219 wd_220 (wG_in (List.mem_append_left _ (List.mem_of_getElem? (i := 5) rfl)) rfl) xw_X10_nameIn rfl (by decide) rfl rfl dX10_addWord_77) (ev_X10_nameIn hO hP h_31) xw_X10_nameIn rfl wd_118 dX10_addWord_77 (by decide) (by decide) (by simp [x_cat, x_catI, x_catJ])
            refine x_callR z9 ?_
            refine ev_at (st' := [.long v_29]) rfl rfl ?_
            refine ev_lstore_n (lv' := [(3, .long v_29), (0, va_rf (some a0)), (1, .int v1), (2, .int v2)]) dX10_addWord_80 rfl (by decide) rfl ?_
            refine ev_aload_n (j := 1) (x := (some a0)) dX10_addWord_81 rfl rfl ?_
            obtain ⟨c_33, h⟩ := x_chk_e h
            refine ev_get (C := RX10) (T := TX10) (k := 4) inX10 (xE_10 c_33) rfl (by decide) wd_94 (Or.inl rfl) rfl dX10_addWord_82 ?_
            refine ev_aload_n (j := 1) (x := (some a0)) dX10_addWord_85 rfl rfl ?_
            refine ev_get (C := RX10) (T := TX10) (k := 5) inX10 (xE_10 c_33) rfl (by decide) wd_95 (Or.inl rfl) rfl dX10_addWord_86 ?_
            refine ev_lload_n (j := 0) (x := v_29) dX10_addWord_89 rfl rfl ?_
            obtain ⟨a_34, ea_34, h⟩ := x_some_e h
            refine ev_at (st' := [.long v_29, .int (σ_30.I 905 a0), va_rf (some a_34)]) rfl (by rw [ea_34]) ?_
            obtain ⟨c_35, h⟩ := x_chk_e h
            obtain ⟨σ_36, eσ_36, h⟩ := x_let_e h
            refine ev_last c_35.1 c_35.2.1 (hP.2.2.2.1 ▸ c_35.2.2) dX10_addWord_90 (eσ_36 ▸ ?_)
            refine ev_aload_n (j := 1) (x := (some a0)) dX10_addWord_91 rfl rfl ?_
            obtain ⟨c_37, h⟩ := x_chk_e h
            refine ev_get (C := RX10) (T := TX10) (k := 3) inX10 (xE_10 c_37) rfl (by decide) wd_92 (Or.inl rfl) rfl dX10_addWord_92 ?_
            refine ev_aload_n (j := 1) (x := (some a0)) dX10_addWord_95 rfl rfl ?_
            refine ev_get (C := RX10) (T := TX10) (k := 5) inX10 (xE_10 c_37) rfl (by decide) wd_95 (Or.inl rfl) rfl dX10_addWord_96 ?_
            refine ev_iload_n (j := 3) (x := v2) dX10_addWord_99 rfl rfl ?_
            refine ev_iload_n (j := 2) (x := v1) dX10_addWord_100 rfl rfl ?_
            refine ev_isub (x := v2) (y := v1) dX10_addWord_101 ?_
            refine ev_bipush (v := 8) dX10_addWord_102 (by decide) ?_
            by_cases c_38 : (v2 - v1) ≤ 8
            · rw [if_pos c_38] at h
              refine ev_icmp_le (x := (v2 - v1)) (y := 8) (tgt := 111) dX10_addWord_104 (by decide) (fun _ => ?_) (fun q9 => absurd c_38 q9)
              refine ev_lload_n (j := 0) (x := v_29) dX10_addWord_111 rfl rfl ?_
              rcases x_bind_e h with ⟨v_39, σ_40, h_41, h⟩ | ⟨E_43, σ_40, h_41, h⟩
              · have z9 := x_call (M := mX10_addWord) (M' := mX10_isKeyword) (pc := 112) (st := [.long v_29, .int (σ_36.I 905 a0), va_rf (σ_36.R 903 a0)]) (rest := [.int (σ_36.I 905 a0), va_rf (σ_36.R 903 a0)]) (av := [.long v_29]) (x_linkS (M := mX10_addWord) (M' := mX10_isKeyword) (As := [.long v_29]) (index := 87) wd_222 wd_223 wd_118 xw_X10_isKeyword rfl ⟨_, _, _, Or.inl wd_221⟩ (by decide) rfl rfl dX10_addWord_112) (ev_X10_isKeyword hO hP h_41) xw_X10_isKeyword rfl wd_118 dX10_addWord_112 (by decide) (by decide) (by simp [x_cat, x_catI, x_catJ])
                refine x_callR z9 ?_
                refine ev_at (st' := [.int v_39, .int (σ_36.I 905 a0), va_rf (σ_36.R 903 a0)]) rfl rfl ?_
                by_cases c_42 : v_39 = 0
                · rw [if_pos c_42] at h
                  refine ev_if_eq (x := v_39) (tgt := 122) dX10_addWord_115 (by decide) (fun _ => ?_) (fun q9 => absurd c_42 q9)
                  refine ev_iconst (v := 0) dX10_addWord_122 (by decide) ?_
                  exact ev_sub [1] rfl (ev_X10_addWord_p123 hO hP h)
                · rw [if_neg c_42] at h
                  refine ev_if_eq (x := v_39) (tgt := 122) dX10_addWord_115 (by decide) (fun q9 => absurd q9 c_42) (fun _ => ?_)
                  refine ev_iconst (v := 1) dX10_addWord_118 (by decide) ?_
                  refine ev_goto (tgt := 123) dX10_addWord_119 (by decide) ?_
                  exact ev_sub [1] rfl (ev_X10_addWord_p123 hO hP h)
              · have z9 := x_call (M := mX10_addWord) (M' := mX10_isKeyword) (pc := 112) (st := [.long v_29, .int (σ_36.I 905 a0), va_rf (σ_36.R 903 a0)]) (rest := [.int (σ_36.I 905 a0), va_rf (σ_36.R 903 a0)]) (av := [.long v_29]) (x_linkS (M := mX10_addWord) (M' := mX10_isKeyword) (As := [.long v_29]) (index := 87) wd_222 wd_223 wd_118 xw_X10_isKeyword rfl ⟨_, _, _, Or.inl wd_221⟩ (by decide) rfl rfl dX10_addWord_112) (ev_X10_isKeyword hO hP h_41) xw_X10_isKeyword rfl wd_118 dX10_addWord_112 (by decide) (by decide) (by simp [x_cat, x_catI, x_catJ])
                cases h
                exact x_callX z9 (evX_out rfl)
            · rw [if_neg c_38] at h
              refine ev_icmp_le (x := (v2 - v1)) (y := 8) (tgt := 111) dX10_addWord_104 (by decide) (fun q9 => absurd q9 c_38) (fun _ => ?_)
              refine ev_iconst (v := 4) dX10_addWord_107 (by decide) ?_
              refine ev_goto (tgt := 123) dX10_addWord_108 (by decide) ?_
              exact ev_sub [1] rfl (ev_X10_addWord_p123 hO hP h)
          · have z9 := x_call (M := mX10_addWord) (M' := mX10_nameIn) (pc := 77) (st := [.int v2, .int v1, va_rf (some a0)]) (rest := []) (av := [va_rf (some a0), .int v1, .int v2]) (x_linkV (M := mX10_addWord) (M' := mX10_nameIn) (As := [.int v1, .int v2]) (index := 83) (C := RX10) (T := TX10) (xE_10 c_32) rfl wd_219 wd_220 (wG_in (List.mem_append_left _ (List.mem_of_getElem? (i := 5) rfl)) rfl) xw_X10_nameIn rfl (by decide) rfl rfl dX10_addWord_77) (ev_X10_nameIn hO hP h_31) xw_X10_nameIn rfl wd_118 dX10_addWord_77 (by decide) (by decide) (by simp [x_cat, x_catI, x_catJ])
            cases h
            exact x_callX z9 (evX_out rfl)
      · have z9 := x_call (M := mX10_addWord) (M' := mX10_isLetter) (pc := 68) (st := [.int (σ_9.AI a_13 (Int32.toNatClampNeg v1))]) (rest := []) (av := [.int (σ_9.AI a_13 (Int32.toNatClampNeg v1))]) (x_linkS (M := mX10_addWord) (M' := mX10_isLetter) (As := [.int (σ_9.AI a_13 (Int32.toNatClampNeg v1))]) (index := 76) wd_204 wd_205 wd_118 xw_X10_isLetter rfl ⟨_, _, _, Or.inl wd_203⟩ (by decide) rfl rfl dX10_addWord_68) (ev_X10_isLetter hO hP h_17) xw_X10_isLetter rfl wd_118 dX10_addWord_68 (by decide) (by decide) (by simp [x_cat, x_catI, x_catJ])
        cases h
        exact x_callX z9 (evX_out rfl)
    · rw [if_neg c_11] at h
      refine ev_if_eq (x := v_8) (tgt := 62) dX10_addWord_19 (by decide) (fun q9 => absurd q9 c_11) (fun _ => ?_)
      refine ev_aload_n (j := 0) (x := (some a0)) dX10_addWord_22 rfl rfl ?_
      obtain ⟨c_46, h⟩ := x_chk_e h
      refine ev_get (C := RX10) (T := TX10) (k := 4) inX10 (xE_10 c_46) rfl (by decide) wd_94 (Or.inl rfl) rfl dX10_addWord_23 ?_
      refine ev_aload_n (j := 0) (x := (some a0)) dX10_addWord_26 rfl rfl ?_
      refine ev_get (C := RX10) (T := TX10) (k := 5) inX10 (xE_10 c_46) rfl (by decide) wd_95 (Or.inl rfl) rfl dX10_addWord_27 ?_
      refine ev_aload_n (j := 0) (x := (some a0)) dX10_addWord_30 rfl rfl ?_
      refine ev_iload_n (j := 1) (x := v1) dX10_addWord_31 rfl rfl ?_
      refine ev_iload_n (j := 2) (x := v2) dX10_addWord_32 rfl rfl ?_
      rcases x_bind_e h with ⟨v_47, σ_48, h_49, h⟩ | ⟨E_55, σ_48, h_49, h⟩
      · have z9 := x_call (M := mX10_addWord) (M' := mX10_numberIn) (pc := 33) (st := [.int v2, .int v1, va_rf (some a0), .int (σ_9.I 905 a0), va_rf (σ_9.R 904 a0)]) (rest := [.int (σ_9.I 905 a0), va_rf (σ_9.R 904 a0)]) (av := [va_rf (some a0), .int v1, .int v2]) (x_linkV (M := mX10_addWord) (M' := mX10_numberIn) (As := [.int v1, .int v2]) (index := 79) (C := RX10) (T := TX10) (xE_10 c_46) rfl wd_225 wd_226 (wG_in (List.mem_append_left _ (List.mem_of_getElem? (i := 4) rfl)) rfl) xw_X10_numberIn rfl (by decide) rfl rfl dX10_addWord_33) (ev_X10_numberIn hO hP h_49) xw_X10_numberIn rfl wd_118 dX10_addWord_33 (by decide) (by decide) (by simp [x_cat, x_catI, x_catJ])
        refine x_callR z9 ?_
        refine ev_at (st' := [.int v_47, .int (σ_9.I 905 a0), va_rf (σ_9.R 904 a0)]) rfl rfl ?_
        refine ev_i2l (x := v_47) dX10_addWord_36 ?_
        obtain ⟨a_50, ea_50, h⟩ := x_some_e h
        refine ev_at (st' := [.long (Int32.toInt64 v_47), .int (σ_9.I 905 a0), va_rf (some a_50)]) rfl (by rw [ea_50]) ?_
        obtain ⟨c_51, h⟩ := x_chk_e h
        obtain ⟨σ_52, eσ_52, h⟩ := x_let_e h
        refine ev_last c_51.1 c_51.2.1 (hP.2.2.2.1 ▸ c_51.2.2) dX10_addWord_37 (eσ_52 ▸ ?_)
        refine ev_aload_n (j := 0) (x := (some a0)) dX10_addWord_38 rfl rfl ?_
        obtain ⟨c_53, h⟩ := x_chk_e h
        refine ev_get (C := RX10) (T := TX10) (k := 3) inX10 (xE_10 c_53) rfl (by decide) wd_92 (Or.inl rfl) rfl dX10_addWord_39 ?_
        refine ev_aload_n (j := 0) (x := (some a0)) dX10_addWord_42 rfl rfl ?_
        refine ev_get (C := RX10) (T := TX10) (k := 5) inX10 (xE_10 c_53) rfl (by decide) wd_95 (Or.inl rfl) rfl dX10_addWord_43 ?_
        refine ev_iload_n (j := 2) (x := v2) dX10_addWord_46 rfl rfl ?_
        refine ev_iload_n (j := 1) (x := v1) dX10_addWord_47 rfl rfl ?_
        refine ev_isub (x := v2) (y := v1) dX10_addWord_48 ?_
        refine ev_iconst (v := 2) dX10_addWord_49 (by decide) ?_
        by_cases c_54 : (v2 - v1) ≤ 2
        · rw [if_pos c_54] at h
          refine ev_icmp_le (x := (v2 - v1)) (y := 2) (tgt := 57) dX10_addWord_50 (by decide) (fun _ => ?_) (fun q9 => absurd c_54 q9)
          refine ev_iconst (v := 2) dX10_addWord_57 (by decide) ?_
          exact ev_sub [0] rfl (ev_X10_addWord_p58 hO hP h)
        · rw [if_neg c_54] at h
          refine ev_icmp_le (x := (v2 - v1)) (y := 2) (tgt := 57) dX10_addWord_50 (by decide) (fun q9 => absurd q9 c_54) (fun _ => ?_)
          refine ev_iconst (v := 4) dX10_addWord_53 (by decide) ?_
          refine ev_goto (tgt := 58) dX10_addWord_54 (by decide) ?_
          exact ev_sub [0] rfl (ev_X10_addWord_p58 hO hP h)
      · have z9 := x_call (M := mX10_addWord) (M' := mX10_numberIn) (pc := 33) (st := [.int v2, .int v1, va_rf (some a0), .int (σ_9.I 905 a0), va_rf (σ_9.R 904 a0)]) (rest := [.int (σ_9.I 905 a0), va_rf (σ_9.R 904 a0)]) (av := [va_rf (some a0), .int v1, .int v2]) (x_linkV (M := mX10_addWord) (M' := mX10_numberIn) (As := [.int v1, .int v2]) (index := 79) (C := RX10) (T := TX10) (xE_10 c_46) rfl wd_225 wd_226 (wG_in (List.mem_append_left _ (List.mem_of_getElem? (i := 4) rfl)) rfl) xw_X10_numberIn rfl (by decide) rfl rfl dX10_addWord_33) (ev_X10_numberIn hO hP h_49) xw_X10_numberIn rfl wd_118 dX10_addWord_33 (by decide) (by decide) (by simp [x_cat, x_catI, x_catJ])
        cases h
        exact x_callX z9 (evX_out rfl)
  · have z9 := x_call (M := mX10_addWord) (M' := mX10_isDigit) (pc := 16) (st := [.int (σ_4.AI a_6 (Int32.toNatClampNeg v1))]) (rest := []) (av := [.int (σ_4.AI a_6 (Int32.toNatClampNeg v1))]) (x_linkS (M := mX10_addWord) (M' := mX10_isDigit) (As := [.int (σ_4.AI a_6 (Int32.toNatClampNeg v1))]) (index := 72) wd_201 wd_202 wd_118 xw_X10_isDigit rfl ⟨_, _, _, Or.inl wd_200⟩ (by decide) rfl rfl dX10_addWord_16) (ev_X10_isDigit hO hP h_10) xw_X10_isDigit rfl wd_118 dX10_addWord_16 (by decide) (by decide) (by simp [x_cat, x_catI, x_catJ])
    cases h
    exact x_callX z9 (evX_out rfl)
set_option maxHeartbeats 4000000 in
set_option maxRecDepth 100000 in
theorem ev_X10_scan_p57 {l : Launch} {G : xG} (hO : x_OK l G) {P : xP} (hP : x_PG P G) {a0 : Nat} {σ σ' : xS} {rr : Unit ⊕ String} (h : dm_X10_scan_p57 P a0 σ = some (rr, σ')) : Ev l G mX10_scan 57 [(0, va_rf (some a0))] [] σ (xrV rr) σ' := by
  unfold dm_X10_scan_p57 at h
  refine ev_aload_n (j := 0) (x := (some a0)) dX10_scan_57 rfl rfl ?_
  obtain ⟨c_1, h⟩ := x_chk_e h
  refine ev_get (C := RX10) (T := TX10) (k := 2) inX10 (xE_10 c_1) rfl (by decide) wd_91 (Or.inl rfl) rfl dX10_scan_58 ?_
  refine ev_aload_n (j := 0) (x := (some a0)) dX10_scan_61 rfl rfl ?_
  refine ev_get (C := RX10) (T := TX10) (k := 5) inX10 (xE_10 c_1) rfl (by decide) wd_95 (Or.inl rfl) rfl dX10_scan_62 ?_
  refine ev_aload_n (j := 0) (x := (some a0)) dX10_scan_65 rfl rfl ?_
  refine ev_get (C := RX10) (T := TX10) (k := 1) inX10 (xE_10 c_1) rfl (by decide) wd_89 (Or.inl rfl) rfl dX10_scan_66 ?_
  obtain ⟨a_2, ea_2, h⟩ := x_some_e h
  refine ev_at (st' := [.int (σ.I 901 a0), .int (σ.I 905 a0), va_rf (some a_2)]) rfl (by rw [ea_2]) ?_
  obtain ⟨c_3, h⟩ := x_chk_e h
  obtain ⟨σ_4, eσ_4, h⟩ := x_let_e h
  refine ev_iast c_3.1 c_3.2.1 (hP.2.2.2.1 ▸ c_3.2.2) dX10_scan_69 (eσ_4 ▸ ?_)
  refine ev_aload_n (j := 0) (x := (some a0)) dX10_scan_70 rfl rfl ?_
  obtain ⟨c_5, h⟩ := x_chk_e h
  refine ev_get (C := RX10) (T := TX10) (k := 3) inX10 (xE_10 c_5) rfl (by decide) wd_92 (Or.inl rfl) rfl dX10_scan_71 ?_
  refine ev_aload_n (j := 0) (x := (some a0)) dX10_scan_74 rfl rfl ?_
  refine ev_get (C := RX10) (T := TX10) (k := 5) inX10 (xE_10 c_5) rfl (by decide) wd_95 (Or.inl rfl) rfl dX10_scan_75 ?_
  refine ev_iconst (v := 5) dX10_scan_78 (by decide) ?_
  obtain ⟨a_6, ea_6, h⟩ := x_some_e h
  refine ev_at (st' := [.int 5, .int (σ_4.I 905 a0), va_rf (some a_6)]) rfl (by rw [ea_6]) ?_
  obtain ⟨c_7, h⟩ := x_chk_e h
  obtain ⟨σ_8, eσ_8, h⟩ := x_let_e h
  refine ev_iast c_7.1 c_7.2.1 (hP.2.2.2.1 ▸ c_7.2.2) dX10_scan_79 (eσ_8 ▸ ?_)
  refine ev_aload_n (j := 0) (x := (some a0)) dX10_scan_80 rfl rfl ?_
  obtain ⟨c_9, h⟩ := x_chk_e h
  refine ev_get (C := RX10) (T := TX10) (k := 4) inX10 (xE_10 c_9) rfl (by decide) wd_94 (Or.inl rfl) rfl dX10_scan_81 ?_
  refine ev_aload_n (j := 0) (x := (some a0)) dX10_scan_84 rfl rfl ?_
  refine ev_get (C := RX10) (T := TX10) (k := 5) inX10 (xE_10 c_9) rfl (by decide) wd_95 (Or.inl rfl) rfl dX10_scan_85 ?_
  refine ev_lconst (v := 0) dX10_scan_88 (by decide) ?_
  obtain ⟨a_10, ea_10, h⟩ := x_some_e h
  refine ev_at (st' := [.long 0, .int (σ_8.I 905 a0), va_rf (some a_10)]) rfl (by rw [ea_10]) ?_
  obtain ⟨c_11, h⟩ := x_chk_e h
  obtain ⟨σ_12, eσ_12, h⟩ := x_let_e h
  refine ev_last c_11.1 c_11.2.1 (hP.2.2.2.1 ▸ c_11.2.2) dX10_scan_89 (eσ_12 ▸ ?_)
  cases h
  exact ev_vret rfl dX10_scan_90
set_option maxHeartbeats 4000000 in
set_option maxRecDepth 100000 in
theorem ev_X10_scan_L18 {l : Launch} {G : xG} (hO : x_OK l G) {P : xP} (hP : x_PG P G) {a0 : Nat} : ∀ (n : Nat) {v1 : Int32} {v2 : Int32} {σ σ' : xS} {rr : Unit ⊕ String}, dm_X10_scan_L18 P a0 n v1 v2 σ = some (rr, σ') → Ev l G mX10_scan 18 [(0, va_rf (some a0)), (1, .int v1), (2, .int v2)] [] σ (xrV rr) σ' := by
  intro n
  induction n with
  | zero => intro v1 v2 σ σ' rr h; cases h
  | succ n ih =>
    intro v1 v2 σ σ' rr h
    rw [dm_X10_scan_L18] at h
    refine ev_iload_n (j := 2) (x := v2) dX10_scan_18 rfl rfl ?_
    refine ev_sipush (v := 1000) dX10_scan_19 (by decide) ?_
    by_cases c_1 : 1000 ≤ v2
    · rw [if_pos c_1] at h
      refine ev_icmp_ge (x := v2) (y := 1000) (tgt := 57) dX10_scan_22 (by decide) (fun _ => ?_) (fun q9 => absurd c_1 q9)
      exact ev_sub [0] rfl (ev_X10_scan_p57 hO hP h)
    · rw [if_neg c_1] at h
      refine ev_icmp_ge (x := v2) (y := 1000) (tgt := 57) dX10_scan_22 (by decide) (fun q9 => absurd q9 c_1) (fun _ => ?_)
      refine ev_iload_n (j := 1) (x := v1) dX10_scan_25 rfl rfl ?_
      refine ev_aload_n (j := 0) (x := (some a0)) dX10_scan_26 rfl rfl ?_
      obtain ⟨c_2, h⟩ := x_chk_e h
      refine ev_get (C := RX10) (T := TX10) (k := 1) inX10 (xE_10 c_2) rfl (by decide) wd_89 (Or.inl rfl) rfl dX10_scan_27 ?_
      by_cases c_3 : (σ.I 901 a0) ≤ v1
      · rw [if_pos c_3] at h
        refine ev_icmp_ge (x := v1) (y := (σ.I 901 a0)) (tgt := 57) dX10_scan_30 (by decide) (fun _ => ?_) (fun q9 => absurd c_3 q9)
        exact ev_sub [0] rfl (ev_X10_scan_p57 hO hP h)
      · rw [if_neg c_3] at h
        refine ev_icmp_ge (x := v1) (y := (σ.I 901 a0)) (tgt := 57) dX10_scan_30 (by decide) (fun q9 => absurd q9 c_3) (fun _ => ?_)
        refine ev_aload_n (j := 0) (x := (some a0)) dX10_scan_33 rfl rfl ?_
        refine ev_iload_n (j := 1) (x := v1) dX10_scan_34 rfl rfl ?_
        rcases x_bind_e h with ⟨v_4, σ_5, h_6, h⟩ | ⟨E_18, σ_5, h_6, h⟩
        · have z9 := x_call (M := mX10_scan) (M' := mX10_rowEnd) (pc := 35) (st := [.int v1, va_rf (some a0)]) (rest := []) (av := [va_rf (some a0), .int v1]) (x_linkV (M := mX10_scan) (M' := mX10_rowEnd) (As := [.int v1]) (index := 65) (C := RX10) (T := TX10) (xE_10 c_2) rfl wd_231 wd_232 (wG_in (List.mem_append_left _ (List.mem_of_getElem? (i := 2) rfl)) rfl) xw_X10_rowEnd rfl (by decide) rfl rfl dX10_scan_35) (ev_X10_rowEnd hO hP h_6) xw_X10_rowEnd rfl wd_118 dX10_scan_35 (by decide) (by decide) (by simp [x_cat, x_catI, x_catJ])
          refine x_callR z9 ?_
          refine ev_at (st' := [.int v_4]) rfl rfl ?_
          refine ev_istore_n (lv' := [(3, .int v_4), (0, va_rf (some a0)), (1, .int v1), (2, .int v2)]) dX10_scan_38 rfl (by decide) rfl ?_
          refine ev_aload_n (j := 1) (x := (some a0)) dX10_scan_39 rfl rfl ?_
          refine ev_iload_n (j := 2) (x := v1) dX10_scan_40 rfl rfl ?_
          refine ev_iload_n (j := 0) (x := v_4) dX10_scan_41 rfl rfl ?_
          obtain ⟨c_10, h⟩ := x_chk_e h
          rcases x_bind_e h with ⟨v_7, σ_8, h_9, h⟩ | ⟨E_17, σ_8, h_9, h⟩
          · have z9 := x_call (M := mX10_scan) (M' := mX10_addWord) (pc := 42) (st := [.int v_4, .int v1, va_rf (some a0)]) (rest := []) (av := [va_rf (some a0), .int v1, .int v_4]) (x_linkV (M := mX10_scan) (M' := mX10_addWord) (As := [.int v1, .int v_4]) (index := 68) (C := RX10) (T := TX10) (xE_10 c_10) rfl wd_234 wd_235 (wG_in (List.mem_append_left _ (List.mem_of_getElem? (i := 3) rfl)) rfl) xw_X10_addWord rfl (by decide) rfl rfl dX10_scan_42) (ev_X10_addWord hO hP h_9) xw_X10_addWord rfl wd_118 dX10_scan_42 (by decide) (by decide) (by simp [x_cat, x_catI, x_catJ])
            refine x_callR z9 ?_
            refine ev_at (st' := []) rfl rfl ?_
            refine ev_aload_n (j := 1) (x := (some a0)) dX10_scan_45 rfl rfl ?_
            refine ev_iload_n (j := 0) (x := v_4) dX10_scan_46 rfl rfl ?_
            obtain ⟨c_14, h⟩ := x_chk_e h
            rcases x_bind_e h with ⟨v_11, σ_12, h_13, h⟩ | ⟨E_16, σ_12, h_13, h⟩
            · have z9 := x_call (M := mX10_scan) (M' := mX10_behindBlanks) (pc := 47) (st := [.int v_4, va_rf (some a0)]) (rest := []) (av := [va_rf (some a0), .int v_4]) (x_linkV (M := mX10_scan) (M' := mX10_behindBlanks) (As := [.int v_4]) (index := 61) (C := RX10) (T := TX10) (xE_10 c_14) rfl wd_228 wd_229 (wG_in (List.mem_append_left _ (List.mem_of_getElem? (i := 1) rfl)) rfl) xw_X10_behindBlanks rfl (by decide) rfl rfl dX10_scan_47) (ev_X10_behindBlanks hO hP h_13) xw_X10_behindBlanks rfl wd_118 dX10_scan_47 (by decide) (by decide) (by simp [x_cat, x_catI, x_catJ])
              refine x_callR z9 ?_
              refine ev_at (st' := [.int v_11]) rfl rfl ?_
              refine ev_istore_n (lv' := [(1, .int v_11), (3, .int v_4), (0, va_rf (some a0)), (2, .int v2)]) dX10_scan_50 rfl (by decide) (by simp [x_cat, x_catI, x_catJ]) ?_
              obtain ⟨v_15, ev_15, h⟩ := x_let_e h
              refine ev_iinc (j := 3) (x := v2) (v := v_15) (lv' := [(2, .int v_15), (1, .int v_11), (3, .int v_4), (0, va_rf (some a0))]) dX10_scan_51 rfl (by rw [ev_15]; rfl) (by decide) rfl ?_
              refine ev_goto (tgt := 18) dX10_scan_54 (by decide) ?_
              exact ev_sub [3, 1, 0] rfl (ih h)
            · have z9 := x_call (M := mX10_scan) (M' := mX10_behindBlanks) (pc := 47) (st := [.int v_4, va_rf (some a0)]) (rest := []) (av := [va_rf (some a0), .int v_4]) (x_linkV (M := mX10_scan) (M' := mX10_behindBlanks) (As := [.int v_4]) (index := 61) (C := RX10) (T := TX10) (xE_10 c_14) rfl wd_228 wd_229 (wG_in (List.mem_append_left _ (List.mem_of_getElem? (i := 1) rfl)) rfl) xw_X10_behindBlanks rfl (by decide) rfl rfl dX10_scan_47) (ev_X10_behindBlanks hO hP h_13) xw_X10_behindBlanks rfl wd_118 dX10_scan_47 (by decide) (by decide) (by simp [x_cat, x_catI, x_catJ])
              cases h
              exact x_callX z9 (evX_out rfl)
          · have z9 := x_call (M := mX10_scan) (M' := mX10_addWord) (pc := 42) (st := [.int v_4, .int v1, va_rf (some a0)]) (rest := []) (av := [va_rf (some a0), .int v1, .int v_4]) (x_linkV (M := mX10_scan) (M' := mX10_addWord) (As := [.int v1, .int v_4]) (index := 68) (C := RX10) (T := TX10) (xE_10 c_10) rfl wd_234 wd_235 (wG_in (List.mem_append_left _ (List.mem_of_getElem? (i := 3) rfl)) rfl) xw_X10_addWord rfl (by decide) rfl rfl dX10_scan_42) (ev_X10_addWord hO hP h_9) xw_X10_addWord rfl wd_118 dX10_scan_42 (by decide) (by decide) (by simp [x_cat, x_catI, x_catJ])
            cases h
            exact x_callX z9 (evX_out rfl)
        · have z9 := x_call (M := mX10_scan) (M' := mX10_rowEnd) (pc := 35) (st := [.int v1, va_rf (some a0)]) (rest := []) (av := [va_rf (some a0), .int v1]) (x_linkV (M := mX10_scan) (M' := mX10_rowEnd) (As := [.int v1]) (index := 65) (C := RX10) (T := TX10) (xE_10 c_2) rfl wd_231 wd_232 (wG_in (List.mem_append_left _ (List.mem_of_getElem? (i := 2) rfl)) rfl) xw_X10_rowEnd rfl (by decide) rfl rfl dX10_scan_35) (ev_X10_rowEnd hO hP h_6) xw_X10_rowEnd rfl wd_118 dX10_scan_35 (by decide) (by decide) (by simp [x_cat, x_catI, x_catJ])
          cases h
          exact x_callX z9 (evX_out rfl)
set_option maxHeartbeats 4000000 in
set_option maxRecDepth 100000 in
theorem ev_X10_scan {l : Launch} {G : xG} (hO : x_OK l G) {P : xP} (hP : x_PG P G) {a0 : Nat} {σ σ' : xS} {rr : Unit ⊕ String} (h : dm_X10_scan P a0 σ = some (rr, σ')) : EvM l G mX10_scan [va_rf (some a0)] σ (xrV rr) σ' := by
  unfold dm_X10_scan at h
  refine evM_of hO (by decide +kernel) (x_lenI (by simp [x_cat, x_catI, x_catJ, mX10_scan, xM.maxL])) ?_
  refine Eq.mp (congrArg (fun z => Ev l G mX10_scan 0 z [] σ (xrV rr) σ') (show [(0, va_rf (some a0))] = lv_args 0 [va_rf (some a0)] by simp [lv_args, x_cat, x_catI, x_catJ])) ?_
  refine ev_aload_n (j := 0) (x := (some a0)) dX10_scan_0 rfl rfl ?_
  refine ev_iconst (v := 0) dX10_scan_1 (by decide) ?_
  obtain ⟨c_1, h⟩ := x_chk_e h
  obtain ⟨σ_2, eσ_2, h⟩ := x_let_e h
  refine ev_put (σ2 := σ_2) (C := RX10) (T := TX10) (k := 5) inX10 tyX10 tyX10_ok nmX10 (xE_10 c_1.1) rfl (by decide) wd_95 (Or.inl rfl) rfl rfl rfl rfl (Nat.le_of_ble_eq_true rfl) (hP.2.2.2.1 ▸ c_1.2) (by rw [eσ_2]; exact xP_10_5 _ c_1.1) (by rw [eσ_2]; exact xPut_I) dX10_scan_2 ?_
  refine ev_aload_n (j := 0) (x := (some a0)) dX10_scan_5 rfl rfl ?_
  refine ev_iconst (v := 0) dX10_scan_6 (by decide) ?_
  obtain ⟨c_3, h⟩ := x_chk_e h
  obtain ⟨σ_4, eσ_4, h⟩ := x_let_e h
  refine ev_put (σ2 := σ_4) (C := RX10) (T := TX10) (k := 6) inX10 tyX10 tyX10_ok nmX10 (xE_10 c_3.1) rfl (by decide) wd_96 (Or.inl rfl) rfl rfl rfl rfl (Nat.le_of_ble_eq_true rfl) (hP.2.2.2.1 ▸ c_3.2) (by rw [eσ_4]; exact xP_10_6 _ c_3.1) (by rw [eσ_4]; exact xPut_I) dX10_scan_7 ?_
  refine ev_aload_n (j := 0) (x := (some a0)) dX10_scan_10 rfl rfl ?_
  refine ev_iconst (v := 0) dX10_scan_11 (by decide) ?_
  obtain ⟨c_8, h⟩ := x_chk_e h
  rcases x_bind_e h with ⟨v_5, σ_6, h_7, h⟩ | ⟨E_9, σ_6, h_7, h⟩
  · have z9 := x_call (M := mX10_scan) (M' := mX10_behindBlanks) (pc := 12) (st := [.int 0, va_rf (some a0)]) (rest := []) (av := [va_rf (some a0), .int 0]) (x_linkV (M := mX10_scan) (M' := mX10_behindBlanks) (As := [.int 0]) (index := 61) (C := RX10) (T := TX10) (xE_10 c_8) rfl wd_228 wd_229 (wG_in (List.mem_append_left _ (List.mem_of_getElem? (i := 1) rfl)) rfl) xw_X10_behindBlanks rfl (by decide) rfl rfl dX10_scan_12) (ev_X10_behindBlanks hO hP h_7) xw_X10_behindBlanks rfl wd_118 dX10_scan_12 (by decide) (by decide) (by simp [x_cat, x_catI, x_catJ])
    refine x_callR z9 ?_
    refine ev_at (st' := [.int v_5]) rfl rfl ?_
    refine ev_istore_n (lv' := [(1, .int v_5), (0, va_rf (some a0))]) dX10_scan_15 rfl (by decide) (by simp [x_cat, x_catI, x_catJ]) ?_
    refine ev_iconst (v := 0) dX10_scan_16 (by decide) ?_
    refine ev_istore_n (lv' := [(2, .int 0), (1, .int v_5), (0, va_rf (some a0))]) dX10_scan_17 rfl (by decide) rfl ?_
    exact ev_sub [2, 1, 0] rfl (ev_X10_scan_L18 hO hP P.N h)
  · have z9 := x_call (M := mX10_scan) (M' := mX10_behindBlanks) (pc := 12) (st := [.int 0, va_rf (some a0)]) (rest := []) (av := [va_rf (some a0), .int 0]) (x_linkV (M := mX10_scan) (M' := mX10_behindBlanks) (As := [.int 0]) (index := 61) (C := RX10) (T := TX10) (xE_10 c_8) rfl wd_228 wd_229 (wG_in (List.mem_append_left _ (List.mem_of_getElem? (i := 1) rfl)) rfl) xw_X10_behindBlanks rfl (by decide) rfl rfl dX10_scan_12) (ev_X10_behindBlanks hO hP h_7) xw_X10_behindBlanks rfl wd_118 dX10_scan_12 (by decide) (by decide) (by simp [x_cat, x_catI, x_catJ])
    cases h
    exact x_callX z9 (evX_out rfl)
set_option maxHeartbeats 4000000 in
set_option maxRecDepth 100000 in
theorem ev_X10_isText_p47 {l : Launch} {G : xG} (hO : x_OK l G) {P : xP} (hP : x_PG P G) {a0 : Nat} {s0 : Int32} {σ σ' : xS} {rr : Int32 ⊕ String} (h : dm_X10_isText_p47 P a0 s0 σ = some (rr, σ')) : Ev l G mX10_isText 47 [] [.int s0] σ (xrI rr) σ' := by
  unfold dm_X10_isText_p47 at h
  obtain ⟨c_1, h⟩ := x_chk_e h
  cases h
  exact ev_iret rfl (x_boolN c_1) dX10_isText_47
set_option maxHeartbeats 4000000 in
set_option maxRecDepth 100000 in
theorem ev_X10_isText_p46 {l : Launch} {G : xG} (hO : x_OK l G) {P : xP} (hP : x_PG P G) {a0 : Nat} {σ σ' : xS} {rr : Int32 ⊕ String} (h : dm_X10_isText_p46 P a0 σ = some (rr, σ')) : Ev l G mX10_isText 46 [] [] σ (xrI rr) σ' := by
  unfold dm_X10_isText_p46 at h
  refine ev_iconst (v := 0) dX10_isText_46 (by decide) ?_
  exact ev_sub [] rfl (ev_X10_isText_p47 hO hP h)
set_option maxHeartbeats 4000000 in
set_option maxRecDepth 100000 in
theorem ev_X10_isText_p25 {l : Launch} {G : xG} (hO : x_OK l G) {P : xP} (hP : x_PG P G) {a0 : Nat} {v1 : Option Nat} {σ σ' : xS} {rr : Int32 ⊕ String} (h : dm_X10_isText_p25 P a0 v1 σ = some (rr, σ')) : Ev l G mX10_isText 25 [(0, va_rf (some a0)), (1, va_rf v1)] [] σ (xrI rr) σ' := by
  unfold dm_X10_isText_p25 at h
  refine ev_aload_n (j := 0) (x := (some a0)) dX10_isText_25 rfl rfl ?_
  obtain ⟨c_1, h⟩ := x_chk_e h
  refine ev_get (C := RX10) (T := TX10) (k := 4) inX10 (xE_10 c_1) rfl (by decide) wd_94 (Or.inl rfl) rfl dX10_isText_26 ?_
  refine ev_aload_n (j := 0) (x := (some a0)) dX10_isText_29 rfl rfl ?_
  refine ev_get (C := RX10) (T := TX10) (k := 6) inX10 (xE_10 c_1) rfl (by decide) wd_96 (Or.inl rfl) rfl dX10_isText_30 ?_
  obtain ⟨a_2, ea_2, h⟩ := x_some_e h
  refine ev_at (st' := [.int (σ.I 906 a0), va_rf (some a_2)]) rfl (by rw [ea_2]) ?_
  obtain ⟨c_3, h⟩ := x_chk_e h
  refine ev_lald c_3.1 c_3.2 dX10_isText_33 ?_
  refine ev_aload_n (j := 1) (x := v1) dX10_isText_34 rfl rfl ?_
  rcases x_bind_e h with ⟨v_4, σ_5, h_6, h⟩ | ⟨E_8, σ_5, h_6, h⟩
  · have z9 := x_call (M := mX10_isText) (M' := mX10_packed) (pc := 35) (st := [va_rf v1, .long (σ.AJ a_2 (Int32.toNatClampNeg (σ.I 906 a0)))]) (rest := [.long (σ.AJ a_2 (Int32.toNatClampNeg (σ.I 906 a0)))]) (av := [va_rf v1]) (x_linkS (M := mX10_isText) (M' := mX10_packed) (As := [va_rf v1]) (index := 47) wd_216 wd_217 wd_118 xw_X10_packed rfl ⟨_, _, _, Or.inl wd_215⟩ (by decide) rfl rfl dX10_isText_35) (ev_X10_packed hO hP h_6) xw_X10_packed rfl wd_118 dX10_isText_35 (by decide) (by decide) (by simp [x_cat, x_catI, x_catJ])
    refine x_callR z9 ?_
    refine ev_at (st' := [.long v_4, .long (σ.AJ a_2 (Int32.toNatClampNeg (σ.I 906 a0)))]) rfl rfl ?_
    refine ev_lcmp (x := (σ.AJ a_2 (Int32.toNatClampNeg (σ.I 906 a0)))) (y := v_4) dX10_isText_38 ?_
    by_cases c_7 : (lg_cmp (σ.AJ a_2 (Int32.toNatClampNeg (σ.I 906 a0))) v_4) = 0
    · rw [if_pos c_7] at h
      refine ev_if_ne (x := (lg_cmp (σ.AJ a_2 (Int32.toNatClampNeg (σ.I 906 a0))) v_4)) (tgt := 46) dX10_isText_39 (by decide) (fun q9 => absurd c_7 q9) (fun _ => ?_)
      refine ev_iconst (v := 1) dX10_isText_42 (by decide) ?_
      refine ev_goto (tgt := 47) dX10_isText_43 (by decide) ?_
      exact ev_sub [] rfl (ev_X10_isText_p47 hO hP h)
    · rw [if_neg c_7] at h
      refine ev_if_ne (x := (lg_cmp (σ.AJ a_2 (Int32.toNatClampNeg (σ.I 906 a0))) v_4)) (tgt := 46) dX10_isText_39 (by decide) (fun _ => ?_) (fun q9 => absurd q9 c_7)
      exact ev_sub [] rfl (ev_X10_isText_p46 hO hP h)
  · have z9 := x_call (M := mX10_isText) (M' := mX10_packed) (pc := 35) (st := [va_rf v1, .long (σ.AJ a_2 (Int32.toNatClampNeg (σ.I 906 a0)))]) (rest := [.long (σ.AJ a_2 (Int32.toNatClampNeg (σ.I 906 a0)))]) (av := [va_rf v1]) (x_linkS (M := mX10_isText) (M' := mX10_packed) (As := [va_rf v1]) (index := 47) wd_216 wd_217 wd_118 xw_X10_packed rfl ⟨_, _, _, Or.inl wd_215⟩ (by decide) rfl rfl dX10_isText_35) (ev_X10_packed hO hP h_6) xw_X10_packed rfl wd_118 dX10_isText_35 (by decide) (by decide) (by simp [x_cat, x_catI, x_catJ])
    cases h
    exact x_callX z9 (evX_out rfl)
set_option maxHeartbeats 4000000 in
set_option maxRecDepth 100000 in
theorem ev_X10_isText {l : Launch} {G : xG} (hO : x_OK l G) {P : xP} (hP : x_PG P G) {a0 : Nat} {v1 : Option Nat} {σ σ' : xS} {rr : Int32 ⊕ String} (h : dm_X10_isText P a0 v1 σ = some (rr, σ')) : EvM l G mX10_isText [va_rf (some a0), va_rf v1] σ (xrI rr) σ' := by
  unfold dm_X10_isText at h
  refine evM_of hO (by decide +kernel) (x_lenI (by simp [x_cat, x_catI, x_catJ, mX10_isText, xM.maxL])) ?_
  refine Eq.mp (congrArg (fun z => Ev l G mX10_isText 0 z [] σ (xrI rr) σ') (show [(0, va_rf (some a0)), (1, va_rf v1)] = lv_args 0 [va_rf (some a0), va_rf v1] by simp [lv_args, x_cat, x_catI, x_catJ])) ?_
  refine ev_aload_n (j := 0) (x := (some a0)) dX10_isText_0 rfl rfl ?_
  obtain ⟨c_1, h⟩ := x_chk_e h
  refine ev_get (C := RX10) (T := TX10) (k := 3) inX10 (xE_10 c_1) rfl (by decide) wd_92 (Or.inl rfl) rfl dX10_isText_1 ?_
  refine ev_aload_n (j := 0) (x := (some a0)) dX10_isText_4 rfl rfl ?_
  refine ev_get (C := RX10) (T := TX10) (k := 6) inX10 (xE_10 c_1) rfl (by decide) wd_96 (Or.inl rfl) rfl dX10_isText_5 ?_
  obtain ⟨a_2, ea_2, h⟩ := x_some_e h
  refine ev_at (st' := [.int (σ.I 906 a0), va_rf (some a_2)]) rfl (by rw [ea_2]) ?_
  obtain ⟨c_3, h⟩ := x_chk_e h
  refine ev_iald c_3.1 c_3.2 dX10_isText_8 ?_
  by_cases c_4 : (σ.AI a_2 (Int32.toNatClampNeg (σ.I 906 a0))) = 0
  · rw [if_pos c_4] at h
    refine ev_if_eq (x := (σ.AI a_2 (Int32.toNatClampNeg (σ.I 906 a0)))) (tgt := 25) dX10_isText_9 (by decide) (fun _ => ?_) (fun q9 => absurd c_4 q9)
    exact ev_sub [0, 1] rfl (ev_X10_isText_p25 hO hP h)
  · rw [if_neg c_4] at h
    refine ev_if_eq (x := (σ.AI a_2 (Int32.toNatClampNeg (σ.I 906 a0)))) (tgt := 25) dX10_isText_9 (by decide) (fun q9 => absurd q9 c_4) (fun _ => ?_)
    refine ev_aload_n (j := 0) (x := (some a0)) dX10_isText_12 rfl rfl ?_
    refine ev_get (C := RX10) (T := TX10) (k := 3) inX10 (xE_10 c_1) rfl (by decide) wd_92 (Or.inl rfl) rfl dX10_isText_13 ?_
    refine ev_aload_n (j := 0) (x := (some a0)) dX10_isText_16 rfl rfl ?_
    refine ev_get (C := RX10) (T := TX10) (k := 6) inX10 (xE_10 c_1) rfl (by decide) wd_96 (Or.inl rfl) rfl dX10_isText_17 ?_
    refine ev_at (st' := [.int (σ.I 906 a0), va_rf (some a_2)]) rfl (by rw [ea_2]) ?_
    refine ev_iald c_3.1 c_3.2 dX10_isText_20 ?_
    refine ev_iconst (v := 1) dX10_isText_21 (by decide) ?_
    by_cases c_5 : (σ.AI a_2 (Int32.toNatClampNeg (σ.I 906 a0))) = 1
    · rw [if_pos c_5] at h
      refine ev_icmp_ne (x := (σ.AI a_2 (Int32.toNatClampNeg (σ.I 906 a0)))) (y := 1) (tgt := 46) dX10_isText_22 (by decide) (fun q9 => absurd c_5 q9) (fun _ => ?_)
      exact ev_sub [0, 1] rfl (ev_X10_isText_p25 hO hP h)
    · rw [if_neg c_5] at h
      refine ev_icmp_ne (x := (σ.AI a_2 (Int32.toNatClampNeg (σ.I 906 a0)))) (y := 1) (tgt := 46) dX10_isText_22 (by decide) (fun _ => ?_) (fun q9 => absurd q9 c_5)
      exact ev_sub [] rfl (ev_X10_isText_p46 hO hP h)
set_option maxHeartbeats 4000000 in
set_option maxRecDepth 100000 in
theorem ev_X10_refuseIf {l : Launch} {G : xG} (hO : x_OK l G) {P : xP} (hP : x_PG P G) {a0 : Nat} {v1 : Int32} {σ σ' : xS} {rr : Unit ⊕ String} (h : dm_X10_refuseIf P a0 v1 σ = some (rr, σ')) : EvM l G mX10_refuseIf [va_rf (some a0), .int v1] σ (xrV rr) σ' := by
  unfold dm_X10_refuseIf at h
  refine evM_of hO (by decide +kernel) (x_lenI (by simp [x_cat, x_catI, x_catJ, mX10_refuseIf, xM.maxL])) ?_
  refine Eq.mp (congrArg (fun z => Ev l G mX10_refuseIf 0 z [] σ (xrV rr) σ') (show [(0, va_rf (some a0)), (1, .int v1)] = lv_args 0 [va_rf (some a0), .int v1] by simp [lv_args, x_cat, x_catI, x_catJ])) ?_
  refine ev_iload_n (j := 1) (x := v1) dX10_refuseIf_0 rfl rfl ?_
  by_cases c_1 : v1 = 0
  · rw [if_pos c_1] at h
    refine ev_if_eq (x := v1) (tgt := 12) dX10_refuseIf_1 (by decide) (fun _ => ?_) (fun q9 => absurd c_1 q9)
    cases h
    exact ev_vret rfl dX10_refuseIf_12
  · rw [if_neg c_1] at h
    refine ev_if_eq (x := v1) (tgt := 12) dX10_refuseIf_1 (by decide) (fun q9 => absurd q9 c_1) (fun _ => ?_)
    obtain ⟨c_2, h⟩ := x_chk_e h
    cases h
    exact ev_throw (names := x_ex) (by decide +kernel) x_exf th_X10_91_93 dX10_refuseIf_4 dX10_refuseIf_7 dX10_refuseIf_8 dX10_refuseIf_11 rfl (by decide) (by decide) (hP.2.1 ▸ c_2.1) (hP.2.2.1 ▸ c_2.2)
set_option maxHeartbeats 4000000 in
set_option maxRecDepth 100000 in
theorem ev_X10_step_p21 {l : Launch} {G : xG} (hO : x_OK l G) {P : xP} (hP : x_PG P G) {a0 : Nat} {σ σ' : xS} {rr : Unit ⊕ String} (h : dm_X10_step_p21 P a0 σ = some (rr, σ')) : Ev l G mX10_step 21 [] [] σ (xrV rr) σ' := by
  unfold dm_X10_step_p21 at h
  cases h
  exact ev_vret rfl dX10_step_21
set_option maxHeartbeats 4000000 in
set_option maxRecDepth 100000 in
theorem ev_X10_step {l : Launch} {G : xG} (hO : x_OK l G) {P : xP} (hP : x_PG P G) {a0 : Nat} {σ σ' : xS} {rr : Unit ⊕ String} (h : dm_X10_step P a0 σ = some (rr, σ')) : EvM l G mX10_step [va_rf (some a0)] σ (xrV rr) σ' := by
  unfold dm_X10_step at h
  refine evM_of hO (by decide +kernel) (x_lenI (by simp [x_cat, x_catI, x_catJ, mX10_step, xM.maxL])) ?_
  refine Eq.mp (congrArg (fun z => Ev l G mX10_step 0 z [] σ (xrV rr) σ') (show [(0, va_rf (some a0))] = lv_args 0 [va_rf (some a0)] by simp [lv_args, x_cat, x_catI, x_catJ])) ?_
  refine ev_aload_n (j := 0) (x := (some a0)) dX10_step_0 rfl rfl ?_
  obtain ⟨c_1, h⟩ := x_chk_e h
  refine ev_get (C := RX10) (T := TX10) (k := 6) inX10 (xE_10 c_1) rfl (by decide) wd_96 (Or.inl rfl) rfl dX10_step_1 ?_
  refine ev_aload_n (j := 0) (x := (some a0)) dX10_step_4 rfl rfl ?_
  refine ev_get (C := RX10) (T := TX10) (k := 5) inX10 (xE_10 c_1) rfl (by decide) wd_95 (Or.inl rfl) rfl dX10_step_5 ?_
  by_cases c_2 : (σ.I 905 a0) ≤ (σ.I 906 a0)
  · rw [if_pos c_2] at h
    refine ev_icmp_ge (x := (σ.I 906 a0)) (y := (σ.I 905 a0)) (tgt := 21) dX10_step_8 (by decide) (fun _ => ?_) (fun q9 => absurd c_2 q9)
    exact ev_sub [] rfl (ev_X10_step_p21 hO hP h)
  · rw [if_neg c_2] at h
    refine ev_icmp_ge (x := (σ.I 906 a0)) (y := (σ.I 905 a0)) (tgt := 21) dX10_step_8 (by decide) (fun q9 => absurd q9 c_2) (fun _ => ?_)
    refine ev_aload_n (j := 0) (x := (some a0)) dX10_step_11 rfl rfl ?_
    refine ev_dup dX10_step_12 (x_cat _) ?_
    refine ev_get (C := RX10) (T := TX10) (k := 6) inX10 (xE_10 c_1) rfl (by decide) wd_96 (Or.inl rfl) rfl dX10_step_13 ?_
    refine ev_iconst (v := 1) dX10_step_16 (by decide) ?_
    refine ev_iadd (x := (σ.I 906 a0)) (y := 1) dX10_step_17 ?_
    obtain ⟨c_3, h⟩ := x_chk_e h
    obtain ⟨σ_4, eσ_4, h⟩ := x_let_e h
    refine ev_put (σ2 := σ_4) (C := RX10) (T := TX10) (k := 6) inX10 tyX10 tyX10_ok nmX10 (xE_10 c_3.1) rfl (by decide) wd_96 (Or.inl rfl) rfl rfl rfl rfl (Nat.le_of_ble_eq_true rfl) (hP.2.2.2.1 ▸ c_3.2) (by rw [eσ_4]; exact xP_10_6 _ c_3.1) (by rw [eσ_4]; exact xPut_I) dX10_step_18 ?_
    exact ev_sub [] rfl (ev_X10_step_p21 hO hP h)
set_option maxHeartbeats 4000000 in
set_option maxRecDepth 100000 in
theorem ev_X10_takeText_p14 {l : Launch} {G : xG} (hO : x_OK l G) {P : xP} (hP : x_PG P G) {a0 : Nat} {s0 : Option Nat} {s1 : Int32} {σ σ' : xS} {rr : Unit ⊕ String} (h : dm_X10_takeText_p14 P a0 s0 s1 σ = some (rr, σ')) : Ev l G mX10_takeText 14 [(0, va_rf (some a0))] [.int s1, va_rf s0] σ (xrV rr) σ' := by
  unfold dm_X10_takeText_p14 at h
  obtain ⟨a_1, ea_1, h⟩ := x_some_e h
  refine ev_at (st' := [.int s1, va_rf (some a_1)]) rfl (by rw [ea_1]) ?_
  obtain ⟨c_5, h⟩ := x_chk_e h
  rcases x_bind_e h with ⟨v_2, σ_3, h_4, h⟩ | ⟨E_11, σ_3, h_4, h⟩
  · have z9 := x_call (M := mX10_takeText) (M' := mX10_refuseIf) (pc := 14) (st := [.int s1, va_rf (some a_1)]) (rest := []) (av := [va_rf (some a_1), .int s1]) (x_linkV (M := mX10_takeText) (M' := mX10_refuseIf) (As := [.int s1]) (index := 98) (C := RX10) (T := TX10) (xE_10 c_5) rfl wd_242 wd_243 wd_241 xw_X10_refuseIf rfl (by decide) rfl rfl dX10_takeText_14) (ev_X10_refuseIf hO hP h_4) xw_X10_refuseIf rfl wd_118 dX10_takeText_14 (by decide) (by decide) (by simp [x_cat, x_catI, x_catJ])
    refine x_callR z9 ?_
    refine ev_at (st' := []) rfl rfl ?_
    refine ev_aload_n (j := 0) (x := (some a0)) dX10_takeText_17 rfl rfl ?_
    obtain ⟨c_9, h⟩ := x_chk_e h
    rcases x_bind_e h with ⟨v_6, σ_7, h_8, h⟩ | ⟨E_10, σ_7, h_8, h⟩
    · have z9 := x_call (M := mX10_takeText) (M' := mX10_step) (pc := 18) (st := [va_rf (some a0)]) (rest := []) (av := [va_rf (some a0)]) (x_linkV (M := mX10_takeText) (M' := mX10_step) (As := []) (index := 102) (C := RX10) (T := TX10) (xE_10 c_9) rfl wd_246 wd_247 wd_245 xw_X10_step rfl (by decide) rfl rfl dX10_takeText_18) (ev_X10_step hO hP h_8) xw_X10_step rfl wd_118 dX10_takeText_18 (by decide) (by decide) (by simp [x_cat, x_catI, x_catJ])
      refine x_callR z9 ?_
      refine ev_at (st' := []) rfl rfl ?_
      cases h
      exact ev_vret rfl dX10_takeText_21
    · have z9 := x_call (M := mX10_takeText) (M' := mX10_step) (pc := 18) (st := [va_rf (some a0)]) (rest := []) (av := [va_rf (some a0)]) (x_linkV (M := mX10_takeText) (M' := mX10_step) (As := []) (index := 102) (C := RX10) (T := TX10) (xE_10 c_9) rfl wd_246 wd_247 wd_245 xw_X10_step rfl (by decide) rfl rfl dX10_takeText_18) (ev_X10_step hO hP h_8) xw_X10_step rfl wd_118 dX10_takeText_18 (by decide) (by decide) (by simp [x_cat, x_catI, x_catJ])
      cases h
      exact x_callX z9 (evX_out rfl)
  · have z9 := x_call (M := mX10_takeText) (M' := mX10_refuseIf) (pc := 14) (st := [.int s1, va_rf (some a_1)]) (rest := []) (av := [va_rf (some a_1), .int s1]) (x_linkV (M := mX10_takeText) (M' := mX10_refuseIf) (As := [.int s1]) (index := 98) (C := RX10) (T := TX10) (xE_10 c_5) rfl wd_242 wd_243 wd_241 xw_X10_refuseIf rfl (by decide) rfl rfl dX10_takeText_14) (ev_X10_refuseIf hO hP h_4) xw_X10_refuseIf rfl wd_118 dX10_takeText_14 (by decide) (by decide) (by simp [x_cat, x_catI, x_catJ])
    cases h
    exact x_callX z9 (evX_out rfl)
set_option maxHeartbeats 4000000 in
set_option maxRecDepth 100000 in
theorem ev_X10_takeText {l : Launch} {G : xG} (hO : x_OK l G) {P : xP} (hP : x_PG P G) {a0 : Nat} {v1 : Option Nat} {σ σ' : xS} {rr : Unit ⊕ String} (h : dm_X10_takeText P a0 v1 σ = some (rr, σ')) : EvM l G mX10_takeText [va_rf (some a0), va_rf v1] σ (xrV rr) σ' := by
  unfold dm_X10_takeText at h
  refine evM_of hO (by decide +kernel) (x_lenI (by simp [x_cat, x_catI, x_catJ, mX10_takeText, xM.maxL])) ?_
  refine Eq.mp (congrArg (fun z => Ev l G mX10_takeText 0 z [] σ (xrV rr) σ') (show [(0, va_rf (some a0)), (1, va_rf v1)] = lv_args 0 [va_rf (some a0), va_rf v1] by simp [lv_args, x_cat, x_catI, x_catJ])) ?_
  refine ev_aload_n (j := 0) (x := (some a0)) dX10_takeText_0 rfl rfl ?_
  refine ev_aload_n (j := 0) (x := (some a0)) dX10_takeText_1 rfl rfl ?_
  refine ev_aload_n (j := 1) (x := v1) dX10_takeText_2 rfl rfl ?_
  obtain ⟨c_4, h⟩ := x_chk_e h
  rcases x_bind_e h with ⟨v_1, σ_2, h_3, h⟩ | ⟨E_6, σ_2, h_3, h⟩
  · have z9 := x_call (M := mX10_takeText) (M' := mX10_isText) (pc := 3) (st := [va_rf v1, va_rf (some a0), va_rf (some a0)]) (rest := [va_rf (some a0)]) (av := [va_rf (some a0), va_rf v1]) (x_linkV (M := mX10_takeText) (M' := mX10_isText) (As := [va_rf v1]) (index := 94) (C := RX10) (T := TX10) (xE_10 c_4) rfl wd_238 wd_239 wd_237 xw_X10_isText rfl (by decide) rfl rfl dX10_takeText_3) (ev_X10_isText hO hP h_3) xw_X10_isText rfl wd_118 dX10_takeText_3 (by decide) (by decide) (by simp [x_cat, x_catI, x_catJ])
    refine x_callR z9 ?_
    refine ev_at (st' := [.int v_1, va_rf (some a0)]) rfl rfl ?_
    by_cases c_5 : v_1 = 0
    · rw [if_pos c_5] at h
      refine ev_if_ne (x := v_1) (tgt := 13) dX10_takeText_6 (by decide) (fun q9 => absurd c_5 q9) (fun _ => ?_)
      refine ev_iconst (v := 1) dX10_takeText_9 (by decide) ?_
      refine ev_goto (tgt := 14) dX10_takeText_10 (by decide) ?_
      exact ev_sub [0] rfl (ev_X10_takeText_p14 hO hP h)
    · rw [if_neg c_5] at h
      refine ev_if_ne (x := v_1) (tgt := 13) dX10_takeText_6 (by decide) (fun _ => ?_) (fun q9 => absurd q9 c_5)
      refine ev_iconst (v := 0) dX10_takeText_13 (by decide) ?_
      exact ev_sub [0] rfl (ev_X10_takeText_p14 hO hP h)
  · have z9 := x_call (M := mX10_takeText) (M' := mX10_isText) (pc := 3) (st := [va_rf v1, va_rf (some a0), va_rf (some a0)]) (rest := [va_rf (some a0)]) (av := [va_rf (some a0), va_rf v1]) (x_linkV (M := mX10_takeText) (M' := mX10_isText) (As := [va_rf v1]) (index := 94) (C := RX10) (T := TX10) (xE_10 c_4) rfl wd_238 wd_239 wd_237 xw_X10_isText rfl (by decide) rfl rfl dX10_takeText_3) (ev_X10_isText hO hP h_3) xw_X10_isText rfl wd_118 dX10_takeText_3 (by decide) (by decide) (by simp [x_cat, x_catI, x_catJ])
    cases h
    exact x_callX z9 (evX_out rfl)
set_option maxHeartbeats 4000000 in
set_option maxRecDepth 100000 in
theorem ev_X10_name {l : Launch} {G : xG} (hO : x_OK l G) {P : xP} (hP : x_PG P G) {a0 : Nat} {σ σ' : xS} {rr : Int64 ⊕ String} (h : dm_X10_name P a0 σ = some (rr, σ')) : EvM l G mX10_name [va_rf (some a0)] σ (xrJ rr) σ' := by
  unfold dm_X10_name at h
  refine evM_of hO (by decide +kernel) (x_lenI (by simp [x_cat, x_catI, x_catJ, mX10_name, xM.maxL])) ?_
  refine Eq.mp (congrArg (fun z => Ev l G mX10_name 0 z [] σ (xrJ rr) σ') (show [(0, va_rf (some a0))] = lv_args 0 [va_rf (some a0)] by simp [lv_args, x_cat, x_catI, x_catJ])) ?_
  refine ev_aload_n (j := 0) (x := (some a0)) dX10_name_0 rfl rfl ?_
  obtain ⟨c_1, h⟩ := x_chk_e h
  refine ev_get (C := RX10) (T := TX10) (k := 3) inX10 (xE_10 c_1) rfl (by decide) wd_92 (Or.inl rfl) rfl dX10_name_1 ?_
  refine ev_aload_n (j := 0) (x := (some a0)) dX10_name_4 rfl rfl ?_
  refine ev_get (C := RX10) (T := TX10) (k := 6) inX10 (xE_10 c_1) rfl (by decide) wd_96 (Or.inl rfl) rfl dX10_name_5 ?_
  obtain ⟨a_2, ea_2, h⟩ := x_some_e h
  refine ev_at (st' := [.int (σ.I 906 a0), va_rf (some a_2)]) rfl (by rw [ea_2]) ?_
  obtain ⟨c_3, h⟩ := x_chk_e h
  refine ev_iald c_3.1 c_3.2 dX10_name_8 ?_
  by_cases c_4 : (σ.AI a_2 (Int32.toNatClampNeg (σ.I 906 a0))) = 0
  · rw [if_pos c_4] at h
    refine ev_if_eq (x := (σ.AI a_2 (Int32.toNatClampNeg (σ.I 906 a0)))) (tgt := 20) dX10_name_9 (by decide) (fun _ => ?_) (fun q9 => absurd c_4 q9)
    refine ev_aload_n (j := 0) (x := (some a0)) dX10_name_20 rfl rfl ?_
    refine ev_get (C := RX10) (T := TX10) (k := 4) inX10 (xE_10 c_1) rfl (by decide) wd_94 (Or.inl rfl) rfl dX10_name_21 ?_
    refine ev_aload_n (j := 0) (x := (some a0)) dX10_name_24 rfl rfl ?_
    refine ev_get (C := RX10) (T := TX10) (k := 6) inX10 (xE_10 c_1) rfl (by decide) wd_96 (Or.inl rfl) rfl dX10_name_25 ?_
    obtain ⟨a_5, ea_5, h⟩ := x_some_e h
    refine ev_at (st' := [.int (σ.I 906 a0), va_rf (some a_5)]) rfl (by rw [ea_5]) ?_
    obtain ⟨c_6, h⟩ := x_chk_e h
    refine ev_lald c_6.1 c_6.2 dX10_name_28 ?_
    cases h
    exact ev_lret rfl dX10_name_29
  · rw [if_neg c_4] at h
    refine ev_if_eq (x := (σ.AI a_2 (Int32.toNatClampNeg (σ.I 906 a0)))) (tgt := 20) dX10_name_9 (by decide) (fun q9 => absurd q9 c_4) (fun _ => ?_)
    obtain ⟨c_7, h⟩ := x_chk_e h
    cases h
    exact ev_throw (names := x_ex) (by decide +kernel) x_exf th_X10_91_93 dX10_name_12 dX10_name_15 dX10_name_16 dX10_name_19 rfl (by decide) (by decide) (hP.2.1 ▸ c_7.1) (hP.2.2.1 ▸ c_7.2)
set_option maxHeartbeats 4000000 in
set_option maxRecDepth 100000 in
theorem ev_X10_isSign_p33 {l : Launch} {G : xG} (hO : x_OK l G) {P : xP} (hP : x_PG P G) {a0 : Nat} {s0 : Int32} {σ σ' : xS} {rr : Int32 ⊕ String} (h : dm_X10_isSign_p33 P a0 s0 σ = some (rr, σ')) : Ev l G mX10_isSign 33 [] [.int s0] σ (xrI rr) σ' := by
  unfold dm_X10_isSign_p33 at h
  obtain ⟨c_1, h⟩ := x_chk_e h
  cases h
  exact ev_iret rfl (x_boolN c_1) dX10_isSign_33
set_option maxHeartbeats 4000000 in
set_option maxRecDepth 100000 in
theorem ev_X10_isSign_p32 {l : Launch} {G : xG} (hO : x_OK l G) {P : xP} (hP : x_PG P G) {a0 : Nat} {σ σ' : xS} {rr : Int32 ⊕ String} (h : dm_X10_isSign_p32 P a0 σ = some (rr, σ')) : Ev l G mX10_isSign 32 [] [] σ (xrI rr) σ' := by
  unfold dm_X10_isSign_p32 at h
  refine ev_iconst (v := 0) dX10_isSign_32 (by decide) ?_
  exact ev_sub [] rfl (ev_X10_isSign_p33 hO hP h)
set_option maxHeartbeats 4000000 in
set_option maxRecDepth 100000 in
theorem ev_X10_isSign {l : Launch} {G : xG} (hO : x_OK l G) {P : xP} (hP : x_PG P G) {a0 : Nat} {v1 : Int32} {σ σ' : xS} {rr : Int32 ⊕ String} (h : dm_X10_isSign P a0 v1 σ = some (rr, σ')) : EvM l G mX10_isSign [va_rf (some a0), .int v1] σ (xrI rr) σ' := by
  unfold dm_X10_isSign at h
  refine evM_of hO (by decide +kernel) (x_lenI (by simp [x_cat, x_catI, x_catJ, mX10_isSign, xM.maxL])) ?_
  refine Eq.mp (congrArg (fun z => Ev l G mX10_isSign 0 z [] σ (xrI rr) σ') (show [(0, va_rf (some a0)), (1, .int v1)] = lv_args 0 [va_rf (some a0), .int v1] by simp [lv_args, x_cat, x_catI, x_catJ])) ?_
  refine ev_aload_n (j := 0) (x := (some a0)) dX10_isSign_0 rfl rfl ?_
  obtain ⟨c_1, h⟩ := x_chk_e h
  refine ev_get (C := RX10) (T := TX10) (k := 3) inX10 (xE_10 c_1) rfl (by decide) wd_92 (Or.inl rfl) rfl dX10_isSign_1 ?_
  refine ev_aload_n (j := 0) (x := (some a0)) dX10_isSign_4 rfl rfl ?_
  refine ev_get (C := RX10) (T := TX10) (k := 6) inX10 (xE_10 c_1) rfl (by decide) wd_96 (Or.inl rfl) rfl dX10_isSign_5 ?_
  obtain ⟨a_2, ea_2, h⟩ := x_some_e h
  refine ev_at (st' := [.int (σ.I 906 a0), va_rf (some a_2)]) rfl (by rw [ea_2]) ?_
  obtain ⟨c_3, h⟩ := x_chk_e h
  refine ev_iald c_3.1 c_3.2 dX10_isSign_8 ?_
  refine ev_iconst (v := 3) dX10_isSign_9 (by decide) ?_
  by_cases c_4 : (σ.AI a_2 (Int32.toNatClampNeg (σ.I 906 a0))) = 3
  · rw [if_pos c_4] at h
    refine ev_icmp_ne (x := (σ.AI a_2 (Int32.toNatClampNeg (σ.I 906 a0)))) (y := 3) (tgt := 32) dX10_isSign_10 (by decide) (fun q9 => absurd c_4 q9) (fun _ => ?_)
    refine ev_aload_n (j := 0) (x := (some a0)) dX10_isSign_13 rfl rfl ?_
    refine ev_get (C := RX10) (T := TX10) (k := 4) inX10 (xE_10 c_1) rfl (by decide) wd_94 (Or.inl rfl) rfl dX10_isSign_14 ?_
    refine ev_aload_n (j := 0) (x := (some a0)) dX10_isSign_17 rfl rfl ?_
    refine ev_get (C := RX10) (T := TX10) (k := 6) inX10 (xE_10 c_1) rfl (by decide) wd_96 (Or.inl rfl) rfl dX10_isSign_18 ?_
    obtain ⟨a_5, ea_5, h⟩ := x_some_e h
    refine ev_at (st' := [.int (σ.I 906 a0), va_rf (some a_5)]) rfl (by rw [ea_5]) ?_
    obtain ⟨c_6, h⟩ := x_chk_e h
    refine ev_lald c_6.1 c_6.2 dX10_isSign_21 ?_
    refine ev_iload_n (j := 1) (x := v1) dX10_isSign_22 rfl rfl ?_
    refine ev_i2l (x := v1) dX10_isSign_23 ?_
    refine ev_lcmp (x := (σ.AJ a_5 (Int32.toNatClampNeg (σ.I 906 a0)))) (y := (Int32.toInt64 v1)) dX10_isSign_24 ?_
    by_cases c_7 : (lg_cmp (σ.AJ a_5 (Int32.toNatClampNeg (σ.I 906 a0))) (Int32.toInt64 v1)) = 0
    · rw [if_pos c_7] at h
      refine ev_if_ne (x := (lg_cmp (σ.AJ a_5 (Int32.toNatClampNeg (σ.I 906 a0))) (Int32.toInt64 v1))) (tgt := 32) dX10_isSign_25 (by decide) (fun q9 => absurd c_7 q9) (fun _ => ?_)
      refine ev_iconst (v := 1) dX10_isSign_28 (by decide) ?_
      refine ev_goto (tgt := 33) dX10_isSign_29 (by decide) ?_
      exact ev_sub [] rfl (ev_X10_isSign_p33 hO hP h)
    · rw [if_neg c_7] at h
      refine ev_if_ne (x := (lg_cmp (σ.AJ a_5 (Int32.toNatClampNeg (σ.I 906 a0))) (Int32.toInt64 v1))) (tgt := 32) dX10_isSign_25 (by decide) (fun _ => ?_) (fun q9 => absurd q9 c_7)
      exact ev_sub [] rfl (ev_X10_isSign_p32 hO hP h)
  · rw [if_neg c_4] at h
    refine ev_icmp_ne (x := (σ.AI a_2 (Int32.toNatClampNeg (σ.I 906 a0)))) (y := 3) (tgt := 32) dX10_isSign_10 (by decide) (fun _ => ?_) (fun q9 => absurd q9 c_4)
    exact ev_sub [] rfl (ev_X10_isSign_p32 hO hP h)
set_option maxHeartbeats 4000000 in
set_option maxRecDepth 100000 in
theorem ev_X10_takeNumber_p43 {l : Launch} {G : xG} (hO : x_OK l G) {P : xP} (hP : x_PG P G) {a0 : Nat} {σ σ' : xS} {rr : Int32 ⊕ String} (h : dm_X10_takeNumber_p43 P a0 σ = some (rr, σ')) : Ev l G mX10_takeNumber 43 [] [] σ (xrI rr) σ' := by
  unfold dm_X10_takeNumber_p43 at h
  obtain ⟨c_1, h⟩ := x_chk_e h
  cases h
  exact ev_throw (names := x_ex) (by decide +kernel) x_exf th_X10_91_93 dX10_takeNumber_43 dX10_takeNumber_46 dX10_takeNumber_47 dX10_takeNumber_50 rfl (by decide) (by decide) (hP.2.1 ▸ c_1.1) (hP.2.2.1 ▸ c_1.2)
set_option maxHeartbeats 4000000 in
set_option maxRecDepth 100000 in
theorem ev_X10_takeNumber {l : Launch} {G : xG} (hO : x_OK l G) {P : xP} (hP : x_PG P G) {a0 : Nat} {v1 : Int32} {v2 : Int32} {σ σ' : xS} {rr : Int32 ⊕ String} (h : dm_X10_takeNumber P a0 v1 v2 σ = some (rr, σ')) : EvM l G mX10_takeNumber [va_rf (some a0), .int v1, .int v2] σ (xrI rr) σ' := by
  unfold dm_X10_takeNumber at h
  refine evM_of hO (by decide +kernel) (x_lenI (by simp [x_cat, x_catI, x_catJ, mX10_takeNumber, xM.maxL])) ?_
  refine Eq.mp (congrArg (fun z => Ev l G mX10_takeNumber 0 z [] σ (xrI rr) σ') (show [(0, va_rf (some a0)), (1, .int v1), (2, .int v2)] = lv_args 0 [va_rf (some a0), .int v1, .int v2] by simp [lv_args, x_cat, x_catI, x_catJ])) ?_
  refine ev_aload_n (j := 0) (x := (some a0)) dX10_takeNumber_0 rfl rfl ?_
  obtain ⟨c_1, h⟩ := x_chk_e h
  refine ev_get (C := RX10) (T := TX10) (k := 3) inX10 (xE_10 c_1) rfl (by decide) wd_92 (Or.inl rfl) rfl dX10_takeNumber_1 ?_
  refine ev_aload_n (j := 0) (x := (some a0)) dX10_takeNumber_4 rfl rfl ?_
  refine ev_get (C := RX10) (T := TX10) (k := 6) inX10 (xE_10 c_1) rfl (by decide) wd_96 (Or.inl rfl) rfl dX10_takeNumber_5 ?_
  obtain ⟨a_2, ea_2, h⟩ := x_some_e h
  refine ev_at (st' := [.int (σ.I 906 a0), va_rf (some a_2)]) rfl (by rw [ea_2]) ?_
  obtain ⟨c_3, h⟩ := x_chk_e h
  refine ev_iald c_3.1 c_3.2 dX10_takeNumber_8 ?_
  refine ev_iconst (v := 2) dX10_takeNumber_9 (by decide) ?_
  by_cases c_4 : (σ.AI a_2 (Int32.toNatClampNeg (σ.I 906 a0))) = 2
  · rw [if_pos c_4] at h
    refine ev_icmp_ne (x := (σ.AI a_2 (Int32.toNatClampNeg (σ.I 906 a0)))) (y := 2) (tgt := 43) dX10_takeNumber_10 (by decide) (fun q9 => absurd c_4 q9) (fun _ => ?_)
    refine ev_aload_n (j := 0) (x := (some a0)) dX10_takeNumber_13 rfl rfl ?_
    refine ev_get (C := RX10) (T := TX10) (k := 4) inX10 (xE_10 c_1) rfl (by decide) wd_94 (Or.inl rfl) rfl dX10_takeNumber_14 ?_
    refine ev_aload_n (j := 0) (x := (some a0)) dX10_takeNumber_17 rfl rfl ?_
    refine ev_get (C := RX10) (T := TX10) (k := 6) inX10 (xE_10 c_1) rfl (by decide) wd_96 (Or.inl rfl) rfl dX10_takeNumber_18 ?_
    obtain ⟨a_5, ea_5, h⟩ := x_some_e h
    refine ev_at (st' := [.int (σ.I 906 a0), va_rf (some a_5)]) rfl (by rw [ea_5]) ?_
    obtain ⟨c_6, h⟩ := x_chk_e h
    refine ev_lald c_6.1 c_6.2 dX10_takeNumber_21 ?_
    refine ev_iload_n (j := 1) (x := v1) dX10_takeNumber_22 rfl rfl ?_
    refine ev_i2l (x := v1) dX10_takeNumber_23 ?_
    refine ev_lcmp (x := (σ.AJ a_5 (Int32.toNatClampNeg (σ.I 906 a0)))) (y := (Int32.toInt64 v1)) dX10_takeNumber_24 ?_
    by_cases c_7 : (lg_cmp (σ.AJ a_5 (Int32.toNatClampNeg (σ.I 906 a0))) (Int32.toInt64 v1)) < 0
    · rw [if_pos c_7] at h
      refine ev_if_lt (x := (lg_cmp (σ.AJ a_5 (Int32.toNatClampNeg (σ.I 906 a0))) (Int32.toInt64 v1))) (tgt := 43) dX10_takeNumber_25 (by decide) (fun _ => ?_) (fun q9 => absurd c_7 q9)
      exact ev_sub [] rfl (ev_X10_takeNumber_p43 hO hP h)
    · rw [if_neg c_7] at h
      refine ev_if_lt (x := (lg_cmp (σ.AJ a_5 (Int32.toNatClampNeg (σ.I 906 a0))) (Int32.toInt64 v1))) (tgt := 43) dX10_takeNumber_25 (by decide) (fun q9 => absurd q9 c_7) (fun _ => ?_)
      refine ev_aload_n (j := 0) (x := (some a0)) dX10_takeNumber_28 rfl rfl ?_
      refine ev_get (C := RX10) (T := TX10) (k := 4) inX10 (xE_10 c_1) rfl (by decide) wd_94 (Or.inl rfl) rfl dX10_takeNumber_29 ?_
      refine ev_aload_n (j := 0) (x := (some a0)) dX10_takeNumber_32 rfl rfl ?_
      refine ev_get (C := RX10) (T := TX10) (k := 6) inX10 (xE_10 c_1) rfl (by decide) wd_96 (Or.inl rfl) rfl dX10_takeNumber_33 ?_
      refine ev_at (st' := [.int (σ.I 906 a0), va_rf (some a_5)]) rfl (by rw [ea_5]) ?_
      refine ev_lald c_6.1 c_6.2 dX10_takeNumber_36 ?_
      refine ev_iload_n (j := 2) (x := v2) dX10_takeNumber_37 rfl rfl ?_
      refine ev_i2l (x := v2) dX10_takeNumber_38 ?_
      refine ev_lcmp (x := (σ.AJ a_5 (Int32.toNatClampNeg (σ.I 906 a0)))) (y := (Int32.toInt64 v2)) dX10_takeNumber_39 ?_
      by_cases c_8 : (lg_cmp (σ.AJ a_5 (Int32.toNatClampNeg (σ.I 906 a0))) (Int32.toInt64 v2)) ≤ 0
      · rw [if_pos c_8] at h
        refine ev_if_le (x := (lg_cmp (σ.AJ a_5 (Int32.toNatClampNeg (σ.I 906 a0))) (Int32.toInt64 v2))) (tgt := 51) dX10_takeNumber_40 (by decide) (fun _ => ?_) (fun q9 => absurd c_8 q9)
        refine ev_aload_n (j := 0) (x := (some a0)) dX10_takeNumber_51 rfl rfl ?_
        refine ev_get (C := RX10) (T := TX10) (k := 4) inX10 (xE_10 c_1) rfl (by decide) wd_94 (Or.inl rfl) rfl dX10_takeNumber_52 ?_
        refine ev_aload_n (j := 0) (x := (some a0)) dX10_takeNumber_55 rfl rfl ?_
        refine ev_get (C := RX10) (T := TX10) (k := 6) inX10 (xE_10 c_1) rfl (by decide) wd_96 (Or.inl rfl) rfl dX10_takeNumber_56 ?_
        refine ev_at (st' := [.int (σ.I 906 a0), va_rf (some a_5)]) rfl (by rw [ea_5]) ?_
        refine ev_lald c_6.1 c_6.2 dX10_takeNumber_59 ?_
        refine ev_l2i (x := (σ.AJ a_5 (Int32.toNatClampNeg (σ.I 906 a0)))) dX10_takeNumber_60 ?_
        obtain ⟨v_9, ev_9, h⟩ := x_let_e h
        rw [← ev_9]
        refine ev_istore_n (lv' := [(3, .int v_9), (0, va_rf (some a0)), (1, .int v1), (2, .int v2)]) dX10_takeNumber_61 rfl (by decide) rfl ?_
        refine ev_aload_n (j := 1) (x := (some a0)) dX10_takeNumber_62 rfl rfl ?_
        refine ev_dup dX10_takeNumber_63 (x_cat _) ?_
        refine ev_get (C := RX10) (T := TX10) (k := 6) inX10 (xE_10 c_1) rfl (by decide) wd_96 (Or.inl rfl) rfl dX10_takeNumber_64 ?_
        refine ev_iconst (v := 1) dX10_takeNumber_67 (by decide) ?_
        refine ev_iadd (x := (σ.I 906 a0)) (y := 1) dX10_takeNumber_68 ?_
        obtain ⟨c_10, h⟩ := x_chk_e h
        obtain ⟨σ_11, eσ_11, h⟩ := x_let_e h
        refine ev_put (σ2 := σ_11) (C := RX10) (T := TX10) (k := 6) inX10 tyX10 tyX10_ok nmX10 (xE_10 c_10.1) rfl (by decide) wd_96 (Or.inl rfl) rfl rfl rfl rfl (Nat.le_of_ble_eq_true rfl) (hP.2.2.2.1 ▸ c_10.2) (by rw [eσ_11]; exact xP_10_6 _ c_10.1) (by rw [eσ_11]; exact xPut_I) dX10_takeNumber_69 ?_
        refine ev_iload_n (j := 0) (x := v_9) dX10_takeNumber_72 rfl rfl ?_
        cases h
        exact ev_iret rfl rfl dX10_takeNumber_73
      · rw [if_neg c_8] at h
        refine ev_if_le (x := (lg_cmp (σ.AJ a_5 (Int32.toNatClampNeg (σ.I 906 a0))) (Int32.toInt64 v2))) (tgt := 51) dX10_takeNumber_40 (by decide) (fun q9 => absurd q9 c_8) (fun _ => ?_)
        exact ev_sub [] rfl (ev_X10_takeNumber_p43 hO hP h)
  · rw [if_neg c_4] at h
    refine ev_icmp_ne (x := (σ.AI a_2 (Int32.toNatClampNeg (σ.I 906 a0)))) (y := 2) (tgt := 43) dX10_takeNumber_10 (by decide) (fun _ => ?_) (fun q9 => absurd q9 c_4)
    exact ev_sub [] rfl (ev_X10_takeNumber_p43 hO hP h)
