set_option maxHeartbeats 4000000 in
set_option maxRecDepth 100000 in
theorem ev_X11_refuseUnless {l : Launch} {G : xG} (hO : x_OK l G) {P : xP} (hP : x_PG P G) {v0 : Int32} {σ σ' : xS} {rr : Unit ⊕ String} (h : dm_X11_refuseUnless P v0 σ = some (rr, σ')) : EvM l G mX11_refuseUnless [.int v0] σ (xrV rr) σ' := by
  unfold dm_X11_refuseUnless at h
  refine evM_of hO (by decide +kernel) (x_lenI (by simp [x_cat, x_catI, x_catJ, mX11_refuseUnless, xM.maxL])) ?_
  refine Eq.mp (congrArg (fun z => Ev l G mX11_refuseUnless 0 z [] σ (xrV rr) σ') (show [(0, .int v0)] = lv_args 0 [.int v0] by simp [lv_args, x_cat, x_catI, x_catJ])) ?_
  refine ev_iload_n (j := 0) (x := v0) dX11_refuseUnless_0 rfl rfl ?_
  by_cases c_1 : v0 = 0
  · rw [if_pos c_1] at h
    refine ev_if_ne (x := v0) (tgt := 12) dX11_refuseUnless_1 (by decide) (fun q9 => absurd c_1 q9) (fun _ => ?_)
    obtain ⟨c_2, h⟩ := x_chk_e h
    cases h
    exact ev_throw (names := x_ex) (by decide +kernel) x_exf th_X11_101_103 dX11_refuseUnless_4 dX11_refuseUnless_7 dX11_refuseUnless_8 dX11_refuseUnless_11 rfl (by decide) (by decide) (hP.2.1 ▸ c_2.1) (hP.2.2.1 ▸ c_2.2)
  · rw [if_neg c_1] at h
    refine ev_if_ne (x := v0) (tgt := 12) dX11_refuseUnless_1 (by decide) (fun _ => ?_) (fun q9 => absurd q9 c_1)
    cases h
    exact ev_vret rfl dX11_refuseUnless_12
set_option maxHeartbeats 4000000 in
set_option maxRecDepth 100000 in
theorem ev_X11_moduleAt_p20 {l : Launch} {G : xG} (hO : x_OK l G) {P : xP} (hP : x_PG P G) {a0 : Nat} {v1 : Int32} {s0 : Int32} {σ σ' : xS} {rr : Option Nat ⊕ String} (h : dm_X11_moduleAt_p20 P a0 v1 s0 σ = some (rr, σ')) : Ev l G mX11_moduleAt 20 [(0, va_rf (some a0)), (1, .int v1)] [.int s0] σ (xrR rr) σ' := by
  unfold dm_X11_moduleAt_p20 at h
  rcases x_bind_e h with ⟨v_1, σ_2, h_3, h⟩ | ⟨E_9, σ_2, h_3, h⟩
  · have z9 := x_call (M := mX11_moduleAt) (M' := mX11_refuseUnless) (pc := 20) (st := [.int s0]) (rest := []) (av := [.int s0]) (x_linkS (M := mX11_moduleAt) (M' := mX11_refuseUnless) (As := [.int s0]) (index := 57) wd_3 wd_4 wd_5 xw_X11_refuseUnless rfl ⟨_, _, _, Or.inl wd_2⟩ (by decide) rfl rfl dX11_moduleAt_20) (ev_X11_refuseUnless hO hP h_3) xw_X11_refuseUnless rfl wd_5 dX11_moduleAt_20 (by decide) (by decide) (by simp [x_cat, x_catI, x_catJ])
    refine x_callR z9 ?_
    refine ev_at (st' := []) rfl rfl ?_
    refine ev_aload_n (j := 0) (x := (some a0)) dX11_moduleAt_23 rfl rfl ?_
    obtain ⟨c_4, h⟩ := x_chk_e h
    refine ev_get (C := RX11) (T := TX11) (k := 4) inX11 (xE_11 c_4) rfl (by decide) wd_0 (Or.inl rfl) rfl dX11_moduleAt_24 ?_
    obtain ⟨a_5, ea_5, h⟩ := x_some_e h
    refine ev_at (st' := [va_rf (some a_5)]) rfl (by rw [ea_5]) ?_
    obtain ⟨c_6, h⟩ := x_chk_e h
    refine ev_get (C := RX0) (T := TX0) (k := 0) inX0 (xE_1 c_6) rfl (by decide) wd_6 (Or.inl rfl) rfl dX11_moduleAt_27 ?_
    refine ev_iload_n (j := 1) (x := v1) dX11_moduleAt_30 rfl rfl ?_
    obtain ⟨a_7, ea_7, h⟩ := x_some_e h
    refine ev_at (st' := [.int v1, va_rf (some a_7)]) rfl (by rw [ea_7]) ?_
    obtain ⟨c_8, h⟩ := x_chk_e h
    refine ev_aald_27 c_8.1 c_8.2 dX11_moduleAt_31 ?_
    cases h
    exact ev_aret rfl dX11_moduleAt_32
  · have z9 := x_call (M := mX11_moduleAt) (M' := mX11_refuseUnless) (pc := 20) (st := [.int s0]) (rest := []) (av := [.int s0]) (x_linkS (M := mX11_moduleAt) (M' := mX11_refuseUnless) (As := [.int s0]) (index := 57) wd_3 wd_4 wd_5 xw_X11_refuseUnless rfl ⟨_, _, _, Or.inl wd_2⟩ (by decide) rfl rfl dX11_moduleAt_20) (ev_X11_refuseUnless hO hP h_3) xw_X11_refuseUnless rfl wd_5 dX11_moduleAt_20 (by decide) (by decide) (by simp [x_cat, x_catI, x_catJ])
    cases h
    exact x_callX z9 (evX_out rfl)
set_option maxHeartbeats 4000000 in
set_option maxRecDepth 100000 in
theorem ev_X11_moduleAt_p19 {l : Launch} {G : xG} (hO : x_OK l G) {P : xP} (hP : x_PG P G) {a0 : Nat} {v1 : Int32} {σ σ' : xS} {rr : Option Nat ⊕ String} (h : dm_X11_moduleAt_p19 P a0 v1 σ = some (rr, σ')) : Ev l G mX11_moduleAt 19 [(0, va_rf (some a0)), (1, .int v1)] [] σ (xrR rr) σ' := by
  unfold dm_X11_moduleAt_p19 at h
  refine ev_iconst (v := 0) dX11_moduleAt_19 (by decide) ?_
  exact ev_sub [0, 1] rfl (ev_X11_moduleAt_p20 hO hP h)
set_option maxHeartbeats 4000000 in
set_option maxRecDepth 100000 in
theorem ev_X11_moduleAt {l : Launch} {G : xG} (hO : x_OK l G) {P : xP} (hP : x_PG P G) {a0 : Nat} {v1 : Int32} {σ σ' : xS} {rr : Option Nat ⊕ String} (h : dm_X11_moduleAt P a0 v1 σ = some (rr, σ')) : EvM l G mX11_moduleAt [va_rf (some a0), .int v1] σ (xrR rr) σ' := by
  unfold dm_X11_moduleAt at h
  refine evM_of hO (by decide +kernel) (x_lenI (by simp [x_cat, x_catI, x_catJ, mX11_moduleAt, xM.maxL])) ?_
  refine Eq.mp (congrArg (fun z => Ev l G mX11_moduleAt 0 z [] σ (xrR rr) σ') (show [(0, va_rf (some a0)), (1, .int v1)] = lv_args 0 [va_rf (some a0), .int v1] by simp [lv_args, x_cat, x_catI, x_catJ])) ?_
  refine ev_iload_n (j := 1) (x := v1) dX11_moduleAt_0 rfl rfl ?_
  by_cases c_1 : v1 < 0
  · rw [if_pos c_1] at h
    refine ev_if_lt (x := v1) (tgt := 19) dX11_moduleAt_1 (by decide) (fun _ => ?_) (fun q9 => absurd c_1 q9)
    exact ev_sub [0, 1] rfl (ev_X11_moduleAt_p19 hO hP h)
  · rw [if_neg c_1] at h
    refine ev_if_lt (x := v1) (tgt := 19) dX11_moduleAt_1 (by decide) (fun q9 => absurd q9 c_1) (fun _ => ?_)
    refine ev_iload_n (j := 1) (x := v1) dX11_moduleAt_4 rfl rfl ?_
    refine ev_aload_n (j := 0) (x := (some a0)) dX11_moduleAt_5 rfl rfl ?_
    obtain ⟨c_2, h⟩ := x_chk_e h
    refine ev_get (C := RX11) (T := TX11) (k := 4) inX11 (xE_11 c_2) rfl (by decide) wd_0 (Or.inl rfl) rfl dX11_moduleAt_6 ?_
    obtain ⟨a_3, ea_3, h⟩ := x_some_e h
    refine ev_at (st' := [va_rf (some a_3), .int v1]) rfl (by rw [ea_3]) ?_
    obtain ⟨c_4, h⟩ := x_chk_e h
    refine ev_get (C := RX0) (T := TX0) (k := 1) inX0 (xE_1 c_4) rfl (by decide) wd_1 (Or.inl rfl) rfl dX11_moduleAt_9 ?_
    by_cases c_5 : (σ.I 1 a_3) ≤ v1
    · rw [if_pos c_5] at h
      refine ev_icmp_ge (x := v1) (y := (σ.I 1 a_3)) (tgt := 19) dX11_moduleAt_12 (by decide) (fun _ => ?_) (fun q9 => absurd c_5 q9)
      exact ev_sub [0, 1] rfl (ev_X11_moduleAt_p19 hO hP h)
    · rw [if_neg c_5] at h
      refine ev_icmp_ge (x := v1) (y := (σ.I 1 a_3)) (tgt := 19) dX11_moduleAt_12 (by decide) (fun q9 => absurd q9 c_5) (fun _ => ?_)
      refine ev_iconst (v := 1) dX11_moduleAt_15 (by decide) ?_
      refine ev_goto (tgt := 20) dX11_moduleAt_16 (by decide) ?_
      exact ev_sub [0, 1] rfl (ev_X11_moduleAt_p20 hO hP h)
set_option maxHeartbeats 4000000 in
set_option maxRecDepth 100000 in
theorem ev_X6_width {l : Launch} {G : xG} (hO : x_OK l G) {P : xP} (hP : x_PG P G) {a0 : Nat} {σ σ' : xS} {rr : Int32 ⊕ String} (h : dm_X6_width P a0 σ = some (rr, σ')) : EvM l G mX6_width [va_rf (some a0)] σ (xrI rr) σ' := by
  unfold dm_X6_width at h
  refine evM_of hO (by decide +kernel) (x_lenI (by simp [x_cat, x_catI, x_catJ, mX6_width, xM.maxL])) ?_
  refine Eq.mp (congrArg (fun z => Ev l G mX6_width 0 z [] σ (xrI rr) σ') (show [(0, va_rf (some a0))] = lv_args 0 [va_rf (some a0)] by simp [lv_args, x_cat, x_catI, x_catJ])) ?_
  refine ev_aload_n (j := 0) (x := (some a0)) dX6_width_0 rfl rfl ?_
  obtain ⟨c_1, h⟩ := x_chk_e h
  refine ev_get (C := RX6) (T := TX6) (k := 3) inX6 (xE_7 c_1) rfl (by decide) wd_7 (Or.inl rfl) rfl dX6_width_1 ?_
  refine ev_aload_n (j := 0) (x := (some a0)) dX6_width_4 rfl rfl ?_
  refine ev_get (C := RX6) (T := TX6) (k := 4) inX6 (xE_7 c_1) rfl (by decide) wd_8 (Or.inl rfl) rfl dX6_width_5 ?_
  refine ev_isub (x := (σ.I 603 a0)) (y := (σ.I 604 a0)) dX6_width_8 ?_
  refine ev_iconst (v := 1) dX6_width_9 (by decide) ?_
  refine ev_iadd (x := ((σ.I 603 a0) - (σ.I 604 a0))) (y := 1) dX6_width_10 ?_
  cases h
  exact ev_iret rfl rfl dX6_width_11
set_option maxHeartbeats 4000000 in
set_option maxRecDepth 100000 in
theorem ev_X6_bitAt_p26 {l : Launch} {G : xG} (hO : x_OK l G) {P : xP} (hP : x_PG P G) {a0 : Nat} {s0 : Int32} {σ σ' : xS} {rr : Int32 ⊕ String} (h : dm_X6_bitAt_p26 P a0 s0 σ = some (rr, σ')) : Ev l G mX6_bitAt 26 [] [.int s0] σ (xrI rr) σ' := by
  unfold dm_X6_bitAt_p26 at h
  cases h
  exact ev_iret rfl rfl dX6_bitAt_26
set_option maxHeartbeats 4000000 in
set_option maxRecDepth 100000 in
theorem ev_X6_bitAt {l : Launch} {G : xG} (hO : x_OK l G) {P : xP} (hP : x_PG P G) {a0 : Nat} {v1 : Int32} {σ σ' : xS} {rr : Int32 ⊕ String} (h : dm_X6_bitAt P a0 v1 σ = some (rr, σ')) : EvM l G mX6_bitAt [va_rf (some a0), .int v1] σ (xrI rr) σ' := by
  unfold dm_X6_bitAt at h
  refine evM_of hO (by decide +kernel) (x_lenI (by simp [x_cat, x_catI, x_catJ, mX6_bitAt, xM.maxL])) ?_
  refine Eq.mp (congrArg (fun z => Ev l G mX6_bitAt 0 z [] σ (xrI rr) σ') (show [(0, va_rf (some a0)), (1, .int v1)] = lv_args 0 [va_rf (some a0), .int v1] by simp [lv_args, x_cat, x_catI, x_catJ])) ?_
  refine ev_aload_n (j := 0) (x := (some a0)) dX6_bitAt_0 rfl rfl ?_
  obtain ⟨c_1, h⟩ := x_chk_e h
  refine ev_get (C := RX6) (T := TX6) (k := 2) inX6 (xE_7 c_1) rfl (by decide) wd_9 (Or.inl rfl) rfl dX6_bitAt_1 ?_
  by_cases c_2 : (σ.R 602 a0) = none
  · rw [if_pos c_2] at h
    refine ev_ifnonnull (x := (σ.R 602 a0)) (tgt := 27) dX6_bitAt_4 (by decide) (fun q9 => absurd c_2 q9) (fun _ => ?_)
    refine ev_aload_n (j := 0) (x := (some a0)) dX6_bitAt_7 rfl rfl ?_
    refine ev_get (C := RX6) (T := TX6) (k := 5) inX6 (xE_7 c_1) rfl (by decide) wd_11 (Or.inl rfl) rfl dX6_bitAt_8 ?_
    refine ev_iload_n (j := 1) (x := v1) dX6_bitAt_11 rfl rfl ?_
    refine ev_ishr (x := (σ.I 605 a0)) (y := v1) dX6_bitAt_12 ?_
    refine ev_iconst (v := 1) dX6_bitAt_13 (by decide) ?_
    refine ev_iand (x := ((σ.I 605 a0) >>> (v1 &&& 31))) (y := 1) dX6_bitAt_14 ?_
    refine ev_iconst (v := 1) dX6_bitAt_15 (by decide) ?_
    by_cases c_5 : (((σ.I 605 a0) >>> (v1 &&& 31)) &&& 1) = 1
    · rw [if_pos c_5] at h
      refine ev_icmp_ne (x := (((σ.I 605 a0) >>> (v1 &&& 31)) &&& 1)) (y := 1) (tgt := 24) dX6_bitAt_16 (by decide) (fun q9 => absurd c_5 q9) (fun _ => ?_)
      refine ev_bipush (v := -3) dX6_bitAt_19 (by decide) ?_
      refine ev_goto (tgt := 26) dX6_bitAt_21 (by decide) ?_
      exact ev_sub [] rfl (ev_X6_bitAt_p26 hO hP h)
    · rw [if_neg c_5] at h
      refine ev_icmp_ne (x := (((σ.I 605 a0) >>> (v1 &&& 31)) &&& 1)) (y := 1) (tgt := 24) dX6_bitAt_16 (by decide) (fun _ => ?_) (fun q9 => absurd q9 c_5)
      refine ev_bipush (v := -2) dX6_bitAt_24 (by decide) ?_
      exact ev_sub [] rfl (ev_X6_bitAt_p26 hO hP h)
  · rw [if_neg c_2] at h
    refine ev_ifnonnull (x := (σ.R 602 a0)) (tgt := 27) dX6_bitAt_4 (by decide) (fun _ => ?_) (fun q9 => absurd q9 c_2)
    refine ev_aload_n (j := 0) (x := (some a0)) dX6_bitAt_27 rfl rfl ?_
    refine ev_get (C := RX6) (T := TX6) (k := 2) inX6 (xE_7 c_1) rfl (by decide) wd_9 (Or.inl rfl) rfl dX6_bitAt_28 ?_
    obtain ⟨a_3, ea_3, h⟩ := x_some_e h
    refine ev_at (st' := [va_rf (some a_3)]) rfl (by rw [ea_3]) ?_
    obtain ⟨c_4, h⟩ := x_chk_e h
    refine ev_get (C := RX4) (T := TX4) (k := 3) inX4 (xE_5 c_4) rfl (by decide) wd_10 (Or.inl rfl) rfl dX6_bitAt_31 ?_
    refine ev_aload_n (j := 0) (x := (some a0)) dX6_bitAt_34 rfl rfl ?_
    refine ev_get (C := RX6) (T := TX6) (k := 4) inX6 (xE_7 c_1) rfl (by decide) wd_8 (Or.inl rfl) rfl dX6_bitAt_35 ?_
    refine ev_iadd (x := (σ.I 403 a_3)) (y := (σ.I 604 a0)) dX6_bitAt_38 ?_
    refine ev_iload_n (j := 1) (x := v1) dX6_bitAt_39 rfl rfl ?_
    refine ev_iadd (x := ((σ.I 403 a_3) + (σ.I 604 a0))) (y := v1) dX6_bitAt_40 ?_
    cases h
    exact ev_iret rfl rfl dX6_bitAt_41
set_option maxHeartbeats 4000000 in
set_option maxRecDepth 100000 in
theorem ev_X11_assign_p88 {l : Launch} {G : xG} (hO : x_OK l G) {P : xP} (hP : x_PG P G) {a0 : Nat} {v4 : Int32} {v6 : Option Nat} {s0 : Int32} {σ σ' : xS} {rr : Int32 ⊕ String} (h : dm_X11_assign_p88 P a0 v4 v6 s0 σ = some (rr, σ')) : Ev l G mX11_assign 88 [(4, .int v4), (6, va_rf v6)] [.int s0] σ (xrI rr) σ' := by
  unfold dm_X11_assign_p88 at h
  rcases x_bind_e h with ⟨v_1, σ_2, h_3, h⟩ | ⟨E_10, σ_2, h_3, h⟩
  · have z9 := x_call (M := mX11_assign) (M' := mX11_refuseUnless) (pc := 88) (st := [.int s0]) (rest := []) (av := [.int s0]) (x_linkS (M := mX11_assign) (M' := mX11_refuseUnless) (As := [.int s0]) (index := 57) wd_3 wd_4 wd_5 xw_X11_refuseUnless rfl ⟨_, _, _, Or.inl wd_2⟩ (by decide) rfl rfl dX11_assign_88) (ev_X11_refuseUnless hO hP h_3) xw_X11_refuseUnless rfl wd_5 dX11_assign_88 (by decide) (by decide) (by simp [x_cat, x_catI, x_catJ])
    refine x_callR z9 ?_
    refine ev_at (st' := []) rfl rfl ?_
    refine ev_aload (j := 1) (x := v6) dX11_assign_91 rfl ?_
    refine ev_iload (j := 0) (x := v4) dX11_assign_93 rfl ?_
    obtain ⟨a_4, ea_4, h⟩ := x_some_e h
    refine ev_at (st' := [.int v4, va_rf (some a_4)]) rfl (by rw [ea_4]) ?_
    obtain ⟨c_8, h⟩ := x_chk_e h
    rcases x_bind_e h with ⟨v_5, σ_6, h_7, h⟩ | ⟨E_9, σ_6, h_7, h⟩
    · have z9 := x_call (M := mX11_assign) (M' := mX6_bitAt) (pc := 95) (st := [.int v4, va_rf (some a_4)]) (rest := []) (av := [va_rf (some a_4), .int v4]) (x_linkV (M := mX11_assign) (M' := mX6_bitAt) (As := [.int v4]) (index := 150) (C := RX6) (T := TX6) (xE_7 c_8) rfl wd_25 wd_26 wd_24 xw_X6_bitAt rfl (by decide) rfl rfl dX11_assign_95) (ev_X6_bitAt hO hP h_7) xw_X6_bitAt rfl wd_22 dX11_assign_95 (by decide) (by decide) (by simp [x_cat, x_catI, x_catJ])
      refine x_callR z9 ?_
      refine ev_at (st' := [.int v_5]) rfl rfl ?_
      cases h
      exact ev_iret rfl rfl dX11_assign_98
    · have z9 := x_call (M := mX11_assign) (M' := mX6_bitAt) (pc := 95) (st := [.int v4, va_rf (some a_4)]) (rest := []) (av := [va_rf (some a_4), .int v4]) (x_linkV (M := mX11_assign) (M' := mX6_bitAt) (As := [.int v4]) (index := 150) (C := RX6) (T := TX6) (xE_7 c_8) rfl wd_25 wd_26 wd_24 xw_X6_bitAt rfl (by decide) rfl rfl dX11_assign_95) (ev_X6_bitAt hO hP h_7) xw_X6_bitAt rfl wd_22 dX11_assign_95 (by decide) (by decide) (by simp [x_cat, x_catI, x_catJ])
      cases h
      exact x_callX z9 (evX_out rfl)
  · have z9 := x_call (M := mX11_assign) (M' := mX11_refuseUnless) (pc := 88) (st := [.int s0]) (rest := []) (av := [.int s0]) (x_linkS (M := mX11_assign) (M' := mX11_refuseUnless) (As := [.int s0]) (index := 57) wd_3 wd_4 wd_5 xw_X11_refuseUnless rfl ⟨_, _, _, Or.inl wd_2⟩ (by decide) rfl rfl dX11_assign_88) (ev_X11_refuseUnless hO hP h_3) xw_X11_refuseUnless rfl wd_5 dX11_assign_88 (by decide) (by decide) (by simp [x_cat, x_catI, x_catJ])
    cases h
    exact x_callX z9 (evX_out rfl)
set_option maxHeartbeats 4000000 in
set_option maxRecDepth 100000 in
theorem ev_X11_assign_p87 {l : Launch} {G : xG} (hO : x_OK l G) {P : xP} (hP : x_PG P G) {a0 : Nat} {v4 : Int32} {v6 : Option Nat} {σ σ' : xS} {rr : Int32 ⊕ String} (h : dm_X11_assign_p87 P a0 v4 v6 σ = some (rr, σ')) : Ev l G mX11_assign 87 [(4, .int v4), (6, va_rf v6)] [] σ (xrI rr) σ' := by
  unfold dm_X11_assign_p87 at h
  refine ev_iconst (v := 0) dX11_assign_87 (by decide) ?_
  exact ev_sub [0, 1] rfl (ev_X11_assign_p88 hO hP h)
set_option maxHeartbeats 4000000 in
set_option maxRecDepth 100000 in
theorem ev_X11_assign_p66 {l : Launch} {G : xG} (hO : x_OK l G) {P : xP} (hP : x_PG P G) {a0 : Nat} {v4 : Int32} {s0 : Option Nat} {σ σ' : xS} {rr : Int32 ⊕ String} (h : dm_X11_assign_p66 P a0 v4 s0 σ = some (rr, σ')) : Ev l G mX11_assign 66 [(4, .int v4)] [va_rf s0] σ (xrI rr) σ' := by
  unfold dm_X11_assign_p66 at h
  refine ev_astore (i := 6) (lv' := [(6, va_rf s0), (4, .int v4)]) dX11_assign_66 (by decide) rfl ?_
  refine ev_iload (j := 1) (x := v4) dX11_assign_68 rfl ?_
  by_cases c_1 : v4 < 0
  · rw [if_pos c_1] at h
    refine ev_if_lt (x := v4) (tgt := 87) dX11_assign_70 (by decide) (fun _ => ?_) (fun q9 => absurd c_1 q9)
    exact ev_sub [1, 0] rfl (ev_X11_assign_p87 hO hP h)
  · rw [if_neg c_1] at h
    refine ev_if_lt (x := v4) (tgt := 87) dX11_assign_70 (by decide) (fun q9 => absurd q9 c_1) (fun _ => ?_)
    refine ev_iload (j := 1) (x := v4) dX11_assign_73 rfl ?_
    refine ev_aload (j := 0) (x := s0) dX11_assign_75 rfl ?_
    obtain ⟨a_2, ea_2, h⟩ := x_some_e h
    refine ev_at (st' := [va_rf (some a_2), .int v4]) rfl (by rw [ea_2]) ?_
    obtain ⟨c_6, h⟩ := x_chk_e h
    rcases x_bind_e h with ⟨v_3, σ_4, h_5, h⟩ | ⟨E_8, σ_4, h_5, h⟩
    · have z9 := x_call (M := mX11_assign) (M' := mX6_width) (pc := 77) (st := [va_rf (some a_2), .int v4]) (rest := [.int v4]) (av := [va_rf (some a_2)]) (x_linkV (M := mX11_assign) (M' := mX6_width) (As := []) (index := 162) (C := RX6) (T := TX6) (xE_7 c_6) rfl wd_20 wd_21 wd_19 xw_X6_width rfl (by decide) rfl rfl dX11_assign_77) (ev_X6_width hO hP h_5) xw_X6_width rfl wd_22 dX11_assign_77 (by decide) (by decide) (by simp [x_cat, x_catI, x_catJ])
      refine x_callR z9 ?_
      refine ev_at (st' := [.int v_3, .int v4]) rfl rfl ?_
      by_cases c_7 : v_3 ≤ v4
      · rw [if_pos c_7] at h
        refine ev_icmp_ge (x := v4) (y := v_3) (tgt := 87) dX11_assign_80 (by decide) (fun _ => ?_) (fun q9 => absurd c_7 q9)
        exact ev_sub [1, 0] rfl (ev_X11_assign_p87 hO hP h)
      · rw [if_neg c_7] at h
        refine ev_icmp_ge (x := v4) (y := v_3) (tgt := 87) dX11_assign_80 (by decide) (fun q9 => absurd q9 c_7) (fun _ => ?_)
        refine ev_iconst (v := 1) dX11_assign_83 (by decide) ?_
        refine ev_goto (tgt := 88) dX11_assign_84 (by decide) ?_
        exact ev_sub [1, 0] rfl (ev_X11_assign_p88 hO hP h)
    · have z9 := x_call (M := mX11_assign) (M' := mX6_width) (pc := 77) (st := [va_rf (some a_2), .int v4]) (rest := [.int v4]) (av := [va_rf (some a_2)]) (x_linkV (M := mX11_assign) (M' := mX6_width) (As := []) (index := 162) (C := RX6) (T := TX6) (xE_7 c_6) rfl wd_20 wd_21 wd_19 xw_X6_width rfl (by decide) rfl rfl dX11_assign_77) (ev_X6_width hO hP h_5) xw_X6_width rfl wd_22 dX11_assign_77 (by decide) (by decide) (by simp [x_cat, x_catI, x_catJ])
      cases h
      exact x_callX z9 (evX_out rfl)
set_option maxHeartbeats 4000000 in
set_option maxRecDepth 100000 in
theorem ev_X11_assign_p42 {l : Launch} {G : xG} (hO : x_OK l G) {P : xP} (hP : x_PG P G) {a0 : Nat} {v2 : Int32} {v3 : Int32} {v4 : Int32} {v5 : Option Nat} {s0 : Int32} {σ σ' : xS} {rr : Int32 ⊕ String} (h : dm_X11_assign_p42 P a0 v2 v3 v4 v5 s0 σ = some (rr, σ')) : Ev l G mX11_assign 42 [(2, .int v2), (3, .int v3), (4, .int v4), (5, va_rf v5)] [.int s0] σ (xrI rr) σ' := by
  unfold dm_X11_assign_p42 at h
  rcases x_bind_e h with ⟨v_1, σ_2, h_3, h⟩ | ⟨E_13, σ_2, h_3, h⟩
  · have z9 := x_call (M := mX11_assign) (M' := mX11_refuseUnless) (pc := 42) (st := [.int s0]) (rest := []) (av := [.int s0]) (x_linkS (M := mX11_assign) (M' := mX11_refuseUnless) (As := [.int s0]) (index := 57) wd_3 wd_4 wd_5 xw_X11_refuseUnless rfl ⟨_, _, _, Or.inl wd_2⟩ (by decide) rfl rfl dX11_assign_42) (ev_X11_refuseUnless hO hP h_3) xw_X11_refuseUnless rfl wd_5 dX11_assign_42 (by decide) (by decide) (by simp [x_cat, x_catI, x_catJ])
    refine x_callR z9 ?_
    refine ev_at (st' := []) rfl rfl ?_
    refine ev_iload_n (j := 1) (x := v3) dX11_assign_45 rfl rfl ?_
    by_cases c_4 : v3 = 0
    · rw [if_pos c_4] at h
      refine ev_if_ne (x := v3) (tgt := 59) dX11_assign_46 (by decide) (fun q9 => absurd c_4 q9) (fun _ => ?_)
      refine ev_aload (j := 3) (x := v5) dX11_assign_49 rfl ?_
      obtain ⟨a_9, ea_9, h⟩ := x_some_e h
      refine ev_at (st' := [va_rf (some a_9)]) rfl (by rw [ea_9]) ?_
      obtain ⟨c_10, h⟩ := x_chk_e h
      refine ev_get (C := RX5) (T := TX5) (k := 7) inX5 (xE_6 c_10) rfl (by decide) wd_17 (Or.inl rfl) rfl dX11_assign_51 ?_
      refine ev_iload_n (j := 0) (x := v2) dX11_assign_54 rfl rfl ?_
      obtain ⟨a_11, ea_11, h⟩ := x_some_e h
      refine ev_at (st' := [.int v2, va_rf (some a_11)]) rfl (by rw [ea_11]) ?_
      obtain ⟨c_12, h⟩ := x_chk_e h
      refine ev_aald_28 c_12.1 c_12.2 dX11_assign_55 ?_
      refine ev_goto (tgt := 66) dX11_assign_56 (by decide) ?_
      exact ev_sub [2] rfl (ev_X11_assign_p66 hO hP h)
    · rw [if_neg c_4] at h
      refine ev_if_ne (x := v3) (tgt := 59) dX11_assign_46 (by decide) (fun _ => ?_) (fun q9 => absurd q9 c_4)
      refine ev_aload (j := 3) (x := v5) dX11_assign_59 rfl ?_
      obtain ⟨a_5, ea_5, h⟩ := x_some_e h
      refine ev_at (st' := [va_rf (some a_5)]) rfl (by rw [ea_5]) ?_
      obtain ⟨c_6, h⟩ := x_chk_e h
      refine ev_get (C := RX5) (T := TX5) (k := 8) inX5 (xE_6 c_6) rfl (by decide) wd_16 (Or.inl rfl) rfl dX11_assign_61 ?_
      refine ev_iload_n (j := 0) (x := v2) dX11_assign_64 rfl rfl ?_
      obtain ⟨a_7, ea_7, h⟩ := x_some_e h
      refine ev_at (st' := [.int v2, va_rf (some a_7)]) rfl (by rw [ea_7]) ?_
      obtain ⟨c_8, h⟩ := x_chk_e h
      refine ev_aald_28 c_8.1 c_8.2 dX11_assign_65 ?_
      exact ev_sub [2] rfl (ev_X11_assign_p66 hO hP h)
  · have z9 := x_call (M := mX11_assign) (M' := mX11_refuseUnless) (pc := 42) (st := [.int s0]) (rest := []) (av := [.int s0]) (x_linkS (M := mX11_assign) (M' := mX11_refuseUnless) (As := [.int s0]) (index := 57) wd_3 wd_4 wd_5 xw_X11_refuseUnless rfl ⟨_, _, _, Or.inl wd_2⟩ (by decide) rfl rfl dX11_assign_42) (ev_X11_refuseUnless hO hP h_3) xw_X11_refuseUnless rfl wd_5 dX11_assign_42 (by decide) (by decide) (by simp [x_cat, x_catI, x_catJ])
    cases h
    exact x_callX z9 (evX_out rfl)
set_option maxHeartbeats 4000000 in
set_option maxRecDepth 100000 in
theorem ev_X11_assign_p37 {l : Launch} {G : xG} (hO : x_OK l G) {P : xP} (hP : x_PG P G) {a0 : Nat} {v2 : Int32} {v3 : Int32} {v4 : Int32} {v5 : Option Nat} {σ σ' : xS} {rr : Int32 ⊕ String} (h : dm_X11_assign_p37 P a0 v2 v3 v4 v5 σ = some (rr, σ')) : Ev l G mX11_assign 37 [(2, .int v2), (3, .int v3), (4, .int v4), (5, va_rf v5)] [] σ (xrI rr) σ' := by
  unfold dm_X11_assign_p37 at h
  refine ev_iconst (v := 1) dX11_assign_37 (by decide) ?_
  refine ev_goto (tgt := 42) dX11_assign_38 (by decide) ?_
  exact ev_sub [0, 1, 2, 3] rfl (ev_X11_assign_p42 hO hP h)
set_option maxHeartbeats 4000000 in
set_option maxRecDepth 100000 in
theorem ev_X11_assign_p25 {l : Launch} {G : xG} (hO : x_OK l G) {P : xP} (hP : x_PG P G) {a0 : Nat} {v2 : Int32} {v3 : Int32} {v4 : Int32} {v5 : Option Nat} {s0 : Int32} {σ σ' : xS} {rr : Int32 ⊕ String} (h : dm_X11_assign_p25 P a0 v2 v3 v4 v5 s0 σ = some (rr, σ')) : Ev l G mX11_assign 25 [(2, .int v2), (3, .int v3), (4, .int v4), (5, va_rf v5)] [.int s0] σ (xrI rr) σ' := by
  unfold dm_X11_assign_p25 at h
  rcases x_bind_e h with ⟨v_1, σ_2, h_3, h⟩ | ⟨E_6, σ_2, h_3, h⟩
  · have z9 := x_call (M := mX11_assign) (M' := mX11_refuseUnless) (pc := 25) (st := [.int s0]) (rest := []) (av := [.int s0]) (x_linkS (M := mX11_assign) (M' := mX11_refuseUnless) (As := [.int s0]) (index := 57) wd_3 wd_4 wd_5 xw_X11_refuseUnless rfl ⟨_, _, _, Or.inl wd_2⟩ (by decide) rfl rfl dX11_assign_25) (ev_X11_refuseUnless hO hP h_3) xw_X11_refuseUnless rfl wd_5 dX11_assign_25 (by decide) (by decide) (by simp [x_cat, x_catI, x_catJ])
    refine x_callR z9 ?_
    refine ev_at (st' := []) rfl rfl ?_
    refine ev_iload_n (j := 1) (x := v3) dX11_assign_28 rfl rfl ?_
    by_cases c_4 : v3 = 0
    · rw [if_pos c_4] at h
      refine ev_if_eq (x := v3) (tgt := 37) dX11_assign_29 (by decide) (fun _ => ?_) (fun q9 => absurd c_4 q9)
      exact ev_sub [0, 1, 2, 3] rfl (ev_X11_assign_p37 hO hP h)
    · rw [if_neg c_4] at h
      refine ev_if_eq (x := v3) (tgt := 37) dX11_assign_29 (by decide) (fun q9 => absurd q9 c_4) (fun _ => ?_)
      refine ev_iload_n (j := 1) (x := v3) dX11_assign_32 rfl rfl ?_
      refine ev_iconst (v := 1) dX11_assign_33 (by decide) ?_
      by_cases c_5 : v3 = 1
      · rw [if_pos c_5] at h
        refine ev_icmp_ne (x := v3) (y := 1) (tgt := 41) dX11_assign_34 (by decide) (fun q9 => absurd c_5 q9) (fun _ => ?_)
        exact ev_sub [0, 1, 2, 3] rfl (ev_X11_assign_p37 hO hP h)
      · rw [if_neg c_5] at h
        refine ev_icmp_ne (x := v3) (y := 1) (tgt := 41) dX11_assign_34 (by decide) (fun _ => ?_) (fun q9 => absurd q9 c_5)
        refine ev_iconst (v := 0) dX11_assign_41 (by decide) ?_
        exact ev_sub [0, 1, 2, 3] rfl (ev_X11_assign_p42 hO hP h)
  · have z9 := x_call (M := mX11_assign) (M' := mX11_refuseUnless) (pc := 25) (st := [.int s0]) (rest := []) (av := [.int s0]) (x_linkS (M := mX11_assign) (M' := mX11_refuseUnless) (As := [.int s0]) (index := 57) wd_3 wd_4 wd_5 xw_X11_refuseUnless rfl ⟨_, _, _, Or.inl wd_2⟩ (by decide) rfl rfl dX11_assign_25) (ev_X11_refuseUnless hO hP h_3) xw_X11_refuseUnless rfl wd_5 dX11_assign_25 (by decide) (by decide) (by simp [x_cat, x_catI, x_catJ])
    cases h
    exact x_callX z9 (evX_out rfl)
set_option maxHeartbeats 4000000 in
set_option maxRecDepth 100000 in
theorem ev_X11_assign_p24 {l : Launch} {G : xG} (hO : x_OK l G) {P : xP} (hP : x_PG P G) {a0 : Nat} {v2 : Int32} {v3 : Int32} {v4 : Int32} {v5 : Option Nat} {σ σ' : xS} {rr : Int32 ⊕ String} (h : dm_X11_assign_p24 P a0 v2 v3 v4 v5 σ = some (rr, σ')) : Ev l G mX11_assign 24 [(2, .int v2), (3, .int v3), (4, .int v4), (5, va_rf v5)] [] σ (xrI rr) σ' := by
  unfold dm_X11_assign_p24 at h
  refine ev_iconst (v := 0) dX11_assign_24 (by decide) ?_
  exact ev_sub [0, 1, 2, 3] rfl (ev_X11_assign_p25 hO hP h)
set_option maxHeartbeats 4000000 in
set_option maxRecDepth 100000 in
theorem ev_X11_assign {l : Launch} {G : xG} (hO : x_OK l G) {P : xP} (hP : x_PG P G) {a0 : Nat} {v1 : Int32} {v2 : Int32} {v3 : Int32} {v4 : Int32} {σ σ' : xS} {rr : Int32 ⊕ String} (h : dm_X11_assign P a0 v1 v2 v3 v4 σ = some (rr, σ')) : EvM l G mX11_assign [va_rf (some a0), .int v1, .int v2, .int v3, .int v4] σ (xrI rr) σ' := by
  unfold dm_X11_assign at h
  refine evM_of hO (by decide +kernel) (x_lenI (by simp [x_cat, x_catI, x_catJ, mX11_assign, xM.maxL])) ?_
  refine Eq.mp (congrArg (fun z => Ev l G mX11_assign 0 z [] σ (xrI rr) σ') (show [(0, va_rf (some a0)), (1, .int v1), (2, .int v2), (3, .int v3), (4, .int v4)] = lv_args 0 [va_rf (some a0), .int v1, .int v2, .int v3, .int v4] by simp [lv_args, x_cat, x_catI, x_catJ])) ?_
  refine ev_aload_n (j := 0) (x := (some a0)) dX11_assign_0 rfl rfl ?_
  refine ev_iload_n (j := 1) (x := v1) dX11_assign_1 rfl rfl ?_
  obtain ⟨c_4, h⟩ := x_chk_e h
  rcases x_bind_e h with ⟨v_1, σ_2, h_3, h⟩ | ⟨E_9, σ_2, h_3, h⟩
  · have z9 := x_call (M := mX11_assign) (M' := mX11_moduleAt) (pc := 2) (st := [.int v1, va_rf (some a0)]) (rest := []) (av := [va_rf (some a0), .int v1]) (x_linkV (M := mX11_assign) (M' := mX11_moduleAt) (As := [.int v1]) (index := 77) (C := RX11) (T := TX11) (xE_11 c_4) rfl wd_13 wd_14 (wG_in (List.mem_append_left _ (List.mem_of_getElem? (i := 18) rfl)) rfl) xw_X11_moduleAt rfl (by decide) rfl rfl dX11_assign_2) (ev_X11_moduleAt hO hP h_3) xw_X11_moduleAt rfl wd_5 dX11_assign_2 (by decide) (by decide) (by simp [x_cat, x_catI, x_catJ])
    refine x_callR z9 ?_
    refine ev_at (st' := [va_rf v_1]) rfl rfl ?_
    refine ev_astore (i := 5) (lv' := [(5, va_rf v_1), (0, va_rf (some a0)), (1, .int v1), (2, .int v2), (3, .int v3), (4, .int v4)]) dX11_assign_5 (by decide) rfl ?_
    refine ev_iload_n (j := 3) (x := v2) dX11_assign_7 rfl rfl ?_
    by_cases c_5 : v2 < 0
    · rw [if_pos c_5] at h
      refine ev_if_lt (x := v2) (tgt := 24) dX11_assign_8 (by decide) (fun _ => ?_) (fun q9 => absurd c_5 q9)
      exact ev_sub [3, 4, 5, 0] rfl (ev_X11_assign_p24 hO hP h)
    · rw [if_neg c_5] at h
      refine ev_if_lt (x := v2) (tgt := 24) dX11_assign_8 (by decide) (fun q9 => absurd q9 c_5) (fun _ => ?_)
      refine ev_iload_n (j := 3) (x := v2) dX11_assign_11 rfl rfl ?_
      refine ev_aload (j := 0) (x := v_1) dX11_assign_12 rfl ?_
      obtain ⟨a_6, ea_6, h⟩ := x_some_e h
      refine ev_at (st' := [va_rf (some a_6), .int v2]) rfl (by rw [ea_6]) ?_
      obtain ⟨c_7, h⟩ := x_chk_e h
      refine ev_get (C := RX5) (T := TX5) (k := 9) inX5 (xE_6 c_7) rfl (by decide) wd_15 (Or.inl rfl) rfl dX11_assign_14 ?_
      by_cases c_8 : (σ_2.I 509 a_6) ≤ v2
      · rw [if_pos c_8] at h
        refine ev_icmp_ge (x := v2) (y := (σ_2.I 509 a_6)) (tgt := 24) dX11_assign_17 (by decide) (fun _ => ?_) (fun q9 => absurd c_8 q9)
        exact ev_sub [3, 4, 5, 0] rfl (ev_X11_assign_p24 hO hP h)
      · rw [if_neg c_8] at h
        refine ev_icmp_ge (x := v2) (y := (σ_2.I 509 a_6)) (tgt := 24) dX11_assign_17 (by decide) (fun q9 => absurd q9 c_8) (fun _ => ?_)
        refine ev_iconst (v := 1) dX11_assign_20 (by decide) ?_
        refine ev_goto (tgt := 25) dX11_assign_21 (by decide) ?_
        exact ev_sub [3, 4, 5, 0] rfl (ev_X11_assign_p25 hO hP h)
  · have z9 := x_call (M := mX11_assign) (M' := mX11_moduleAt) (pc := 2) (st := [.int v1, va_rf (some a0)]) (rest := []) (av := [va_rf (some a0), .int v1]) (x_linkV (M := mX11_assign) (M' := mX11_moduleAt) (As := [.int v1]) (index := 77) (C := RX11) (T := TX11) (xE_11 c_4) rfl wd_13 wd_14 (wG_in (List.mem_append_left _ (List.mem_of_getElem? (i := 18) rfl)) rfl) xw_X11_moduleAt rfl (by decide) rfl rfl dX11_assign_2) (ev_X11_moduleAt hO hP h_3) xw_X11_moduleAt rfl wd_5 dX11_assign_2 (by decide) (by decide) (by simp [x_cat, x_catI, x_catJ])
    cases h
    exact x_callX z9 (evX_out rfl)
set_option maxHeartbeats 4000000 in
set_option maxRecDepth 100000 in
theorem ev_L_assign {l : Launch} {G : xG} (hO : x_OK l G) {P : xP} (hP : x_PG P G) {v0 : Option Nat} {v1 : Int32} {v2 : Int32} {v3 : Int32} {v4 : Int32} {v5 : Option Nat} {σ σ' : xS} {rr : Int32 ⊕ String} (h : dm_L_assign P v0 v1 v2 v3 v4 v5 σ = some (rr, σ')) : EvM l G mL_assign [va_rf v0, .int v1, .int v2, .int v3, .int v4, va_rf v5] σ (xrI rr) σ' := by
  unfold dm_L_assign at h
  refine evM_of hO (by decide +kernel) (x_lenI (by simp [x_cat, x_catI, x_catJ, mL_assign, xM.maxL])) ?_
  refine Eq.mp (congrArg (fun z => Ev l G mL_assign 0 z [] σ (xrI rr) σ') (show [(0, va_rf v0), (1, .int v1), (2, .int v2), (3, .int v3), (4, .int v4), (5, va_rf v5)] = lv_args 0 [va_rf v0, .int v1, .int v2, .int v3, .int v4, va_rf v5] by simp [lv_args, x_cat, x_catI, x_catJ])) ?_
  refine ev_aload (j := 5) (x := v5) dL_assign_0 rfl ?_
  refine ev_iconst (v := 0) dL_assign_2 (by decide) ?_
  refine ev_aload_n (j := 0) (x := v0) dL_assign_3 rfl rfl ?_
  refine ev_iload_n (j := 1) (x := v1) dL_assign_4 rfl rfl ?_
  refine ev_iload_n (j := 2) (x := v2) dL_assign_5 rfl rfl ?_
  refine ev_iload_n (j := 3) (x := v3) dL_assign_6 rfl rfl ?_
  refine ev_iload (j := 4) (x := v4) dL_assign_7 rfl ?_
  obtain ⟨a_1, ea_1, h⟩ := x_some_e h
  refine ev_at (st' := [.int v4, .int v3, .int v2, .int v1, va_rf (some a_1), .int 0, va_rf v5]) rfl (by rw [ea_1]) ?_
  obtain ⟨c_5, h⟩ := x_chk_e h
  rcases x_bind_e h with ⟨v_2, σ_3, h_4, h⟩ | ⟨E_9, σ_3, h_4, h⟩
  · have z9 := x_call (M := mL_assign) (M' := mX11_assign) (pc := 9) (st := [.int v4, .int v3, .int v2, .int v1, va_rf (some a_1), .int 0, va_rf v5]) (rest := [.int 0, va_rf v5]) (av := [va_rf (some a_1), .int v1, .int v2, .int v3, .int v4]) (x_linkV (M := mL_assign) (M' := mX11_assign) (As := [.int v1, .int v2, .int v3, .int v4]) (index := 30) (C := RX11) (T := TX11) (xE_11 c_5) rfl wd_29 wd_30 wd_28 xw_X11_assign rfl (by decide) rfl rfl dL_assign_9) (ev_X11_assign hO hP h_4) xw_X11_assign rfl wd_5 dL_assign_9 (by decide) (by decide) (by simp [x_cat, x_catI, x_catJ])
    refine x_callR z9 ?_
    refine ev_at (st' := [.int v_2, .int 0, va_rf v5]) rfl rfl ?_
    refine ev_i2l (x := v_2) dL_assign_12 ?_
    obtain ⟨a_6, ea_6, h⟩ := x_some_e h
    refine ev_at (st' := [.long (Int32.toInt64 v_2), .int 0, va_rf (some a_6)]) rfl (by rw [ea_6]) ?_
    obtain ⟨c_7, h⟩ := x_chk_e h
    obtain ⟨σ_8, eσ_8, h⟩ := x_let_e h
    refine ev_last_42 c_7.1 c_7.2.1 (hP.2.2.2.1 ▸ c_7.2.2) dL_assign_13 (eσ_8 ▸ ?_)
    refine ev_goto (tgt := 21) dL_assign_14 (by decide) ?_
    refine ev_iconst (v := 0) dL_assign_21 (by decide) ?_
    cases h
    exact ev_iret rfl rfl dL_assign_22
  · have z9 := x_call (M := mL_assign) (M' := mX11_assign) (pc := 9) (st := [.int v4, .int v3, .int v2, .int v1, va_rf (some a_1), .int 0, va_rf v5]) (rest := [.int 0, va_rf v5]) (av := [va_rf (some a_1), .int v1, .int v2, .int v3, .int v4]) (x_linkV (M := mL_assign) (M' := mX11_assign) (As := [.int v1, .int v2, .int v3, .int v4]) (index := 30) (C := RX11) (T := TX11) (xE_11 c_5) rfl wd_29 wd_30 wd_28 xw_X11_assign rfl (by decide) rfl rfl dL_assign_9) (ev_X11_assign hO hP h_4) xw_X11_assign rfl wd_5 dL_assign_9 (by decide) (by decide) (by simp [x_cat, x_catI, x_catJ])
    obtain ⟨c_11, h9⟩ := x_chk_e h
    clear h
    subst c_11
    have h := h9
    clear h9
    refine x_callX z9 (evX_catch (name := "java/lang/IndexOutOfBoundsException") (x := (0, 14, 17, 13)) (xs := []) rfl (by decide) (by decide) wd_31 wd_32 (fun q_10 => ?_))
    refine ev_astore (i := 6) (lv' := [(6, va_rf (some q_10)), (0, va_rf v0), (1, .int v1), (2, .int v2), (3, .int v3), (4, .int v4), (5, va_rf v5)]) dL_assign_17 (by decide) (by simp [x_cat, x_catI, x_catJ]) ?_
    refine ev_iconst (v := 1) dL_assign_19 (by decide) ?_
    cases h
    exact ev_iret rfl rfl dL_assign_20
set_option maxHeartbeats 4000000 in
set_option maxRecDepth 100000 in
theorem ev_X11_count_p38 {l : Launch} {G : xG} (hO : x_OK l G) {P : xP} (hP : x_PG P G) {a0 : Nat} {s0 : Int32} {σ σ' : xS} {rr : Int32 ⊕ String} (h : dm_X11_count_p38 P a0 s0 σ = some (rr, σ')) : Ev l G mX11_count 38 [] [.int s0] σ (xrI rr) σ' := by
  unfold dm_X11_count_p38 at h
  cases h
  exact ev_iret rfl rfl dX11_count_38
set_option maxHeartbeats 4000000 in
set_option maxRecDepth 100000 in
theorem ev_X11_count_p14 {l : Launch} {G : xG} (hO : x_OK l G) {P : xP} (hP : x_PG P G) {a0 : Nat} {v1 : Int32} {s0 : Int32} {σ σ' : xS} {rr : Int32 ⊕ String} (h : dm_X11_count_p14 P a0 v1 s0 σ = some (rr, σ')) : Ev l G mX11_count 14 [(0, va_rf (some a0)), (1, .int v1)] [.int s0] σ (xrI rr) σ' := by
  unfold dm_X11_count_p14 at h
  rcases x_bind_e h with ⟨v_1, σ_2, h_3, h⟩ | ⟨E_11, σ_2, h_3, h⟩
  · have z9 := x_call (M := mX11_count) (M' := mX11_refuseUnless) (pc := 14) (st := [.int s0]) (rest := []) (av := [.int s0]) (x_linkS (M := mX11_count) (M' := mX11_refuseUnless) (As := [.int s0]) (index := 57) wd_3 wd_4 wd_5 xw_X11_refuseUnless rfl ⟨_, _, _, Or.inl wd_2⟩ (by decide) rfl rfl dX11_count_14) (ev_X11_refuseUnless hO hP h_3) xw_X11_refuseUnless rfl wd_5 dX11_count_14 (by decide) (by decide) (by simp [x_cat, x_catI, x_catJ])
    refine x_callR z9 ?_
    refine ev_at (st' := []) rfl rfl ?_
    refine ev_iload_n (j := 1) (x := v1) dX11_count_17 rfl rfl ?_
    by_cases c_4 : v1 = 0
    · rw [if_pos c_4] at h
      refine ev_if_ne (x := v1) (tgt := 31) dX11_count_18 (by decide) (fun q9 => absurd c_4 q9) (fun _ => ?_)
      refine ev_aload_n (j := 0) (x := (some a0)) dX11_count_21 rfl rfl ?_
      obtain ⟨c_8, h⟩ := x_chk_e h
      refine ev_get (C := RX11) (T := TX11) (k := 4) inX11 (xE_11 c_8) rfl (by decide) wd_0 (Or.inl rfl) rfl dX11_count_22 ?_
      obtain ⟨a_9, ea_9, h⟩ := x_some_e h
      refine ev_at (st' := [va_rf (some a_9)]) rfl (by rw [ea_9]) ?_
      obtain ⟨c_10, h⟩ := x_chk_e h
      refine ev_get (C := RX0) (T := TX0) (k := 1) inX0 (xE_1 c_10) rfl (by decide) wd_1 (Or.inl rfl) rfl dX11_count_25 ?_
      refine ev_goto (tgt := 38) dX11_count_28 (by decide) ?_
      exact ev_sub [] rfl (ev_X11_count_p38 hO hP h)
    · rw [if_neg c_4] at h
      refine ev_if_ne (x := v1) (tgt := 31) dX11_count_18 (by decide) (fun _ => ?_) (fun q9 => absurd q9 c_4)
      refine ev_aload_n (j := 0) (x := (some a0)) dX11_count_31 rfl rfl ?_
      obtain ⟨c_5, h⟩ := x_chk_e h
      refine ev_get (C := RX11) (T := TX11) (k := 0) inX11 (xE_11 c_5) rfl (by decide) wd_33 (Or.inl rfl) rfl dX11_count_32 ?_
      obtain ⟨a_6, ea_6, h⟩ := x_some_e h
      refine ev_at (st' := [va_rf (some a_6)]) rfl (by rw [ea_6]) ?_
      obtain ⟨c_7, h⟩ := x_chk_e h
      refine ev_getN (C := RX10) (T := TX10) (k := 1) inX10 (xE_10 c_7) rfl (by decide) wd_34 rfl rfl dX11_count_35 ?_
      exact ev_sub [] rfl (ev_X11_count_p38 hO hP h)
  · have z9 := x_call (M := mX11_count) (M' := mX11_refuseUnless) (pc := 14) (st := [.int s0]) (rest := []) (av := [.int s0]) (x_linkS (M := mX11_count) (M' := mX11_refuseUnless) (As := [.int s0]) (index := 57) wd_3 wd_4 wd_5 xw_X11_refuseUnless rfl ⟨_, _, _, Or.inl wd_2⟩ (by decide) rfl rfl dX11_count_14) (ev_X11_refuseUnless hO hP h_3) xw_X11_refuseUnless rfl wd_5 dX11_count_14 (by decide) (by decide) (by simp [x_cat, x_catI, x_catJ])
    cases h
    exact x_callX z9 (evX_out rfl)
set_option maxHeartbeats 4000000 in
set_option maxRecDepth 100000 in
theorem ev_X11_count_p9 {l : Launch} {G : xG} (hO : x_OK l G) {P : xP} (hP : x_PG P G) {a0 : Nat} {v1 : Int32} {σ σ' : xS} {rr : Int32 ⊕ String} (h : dm_X11_count_p9 P a0 v1 σ = some (rr, σ')) : Ev l G mX11_count 9 [(0, va_rf (some a0)), (1, .int v1)] [] σ (xrI rr) σ' := by
  unfold dm_X11_count_p9 at h
  refine ev_iconst (v := 1) dX11_count_9 (by decide) ?_
  refine ev_goto (tgt := 14) dX11_count_10 (by decide) ?_
  exact ev_sub [0, 1] rfl (ev_X11_count_p14 hO hP h)
set_option maxHeartbeats 4000000 in
set_option maxRecDepth 100000 in
theorem ev_X11_count {l : Launch} {G : xG} (hO : x_OK l G) {P : xP} (hP : x_PG P G) {a0 : Nat} {v1 : Int32} {σ σ' : xS} {rr : Int32 ⊕ String} (h : dm_X11_count P a0 v1 σ = some (rr, σ')) : EvM l G mX11_count [va_rf (some a0), .int v1] σ (xrI rr) σ' := by
  unfold dm_X11_count at h
  refine evM_of hO (by decide +kernel) (x_lenI (by simp [x_cat, x_catI, x_catJ, mX11_count, xM.maxL])) ?_
  refine Eq.mp (congrArg (fun z => Ev l G mX11_count 0 z [] σ (xrI rr) σ') (show [(0, va_rf (some a0)), (1, .int v1)] = lv_args 0 [va_rf (some a0), .int v1] by simp [lv_args, x_cat, x_catI, x_catJ])) ?_
  refine ev_iload_n (j := 1) (x := v1) dX11_count_0 rfl rfl ?_
  by_cases c_1 : v1 = 0
  · rw [if_pos c_1] at h
    refine ev_if_eq (x := v1) (tgt := 9) dX11_count_1 (by decide) (fun _ => ?_) (fun q9 => absurd c_1 q9)
    exact ev_sub [0, 1] rfl (ev_X11_count_p9 hO hP h)
  · rw [if_neg c_1] at h
    refine ev_if_eq (x := v1) (tgt := 9) dX11_count_1 (by decide) (fun q9 => absurd q9 c_1) (fun _ => ?_)
    refine ev_iload_n (j := 1) (x := v1) dX11_count_4 rfl rfl ?_
    refine ev_iconst (v := 1) dX11_count_5 (by decide) ?_
    by_cases c_2 : v1 = 1
    · rw [if_pos c_2] at h
      refine ev_icmp_ne (x := v1) (y := 1) (tgt := 13) dX11_count_6 (by decide) (fun q9 => absurd c_2 q9) (fun _ => ?_)
      exact ev_sub [0, 1] rfl (ev_X11_count_p9 hO hP h)
    · rw [if_neg c_2] at h
      refine ev_icmp_ne (x := v1) (y := 1) (tgt := 13) dX11_count_6 (by decide) (fun _ => ?_) (fun q9 => absurd q9 c_2)
      refine ev_iconst (v := 0) dX11_count_13 (by decide) ?_
      exact ev_sub [0, 1] rfl (ev_X11_count_p14 hO hP h)
set_option maxHeartbeats 4000000 in
set_option maxRecDepth 100000 in
theorem ev_L_count {l : Launch} {G : xG} (hO : x_OK l G) {P : xP} (hP : x_PG P G) {v0 : Option Nat} {v1 : Int32} {v2 : Option Nat} {σ σ' : xS} {rr : Int32 ⊕ String} (h : dm_L_count P v0 v1 v2 σ = some (rr, σ')) : EvM l G mL_count [va_rf v0, .int v1, va_rf v2] σ (xrI rr) σ' := by
  unfold dm_L_count at h
  refine evM_of hO (by decide +kernel) (x_lenI (by simp [x_cat, x_catI, x_catJ, mL_count, xM.maxL])) ?_
  refine Eq.mp (congrArg (fun z => Ev l G mL_count 0 z [] σ (xrI rr) σ') (show [(0, va_rf v0), (1, .int v1), (2, va_rf v2)] = lv_args 0 [va_rf v0, .int v1, va_rf v2] by simp [lv_args, x_cat, x_catI, x_catJ])) ?_
  refine ev_aload_n (j := 2) (x := v2) dL_count_0 rfl rfl ?_
  refine ev_iconst (v := 0) dL_count_1 (by decide) ?_
  refine ev_aload_n (j := 0) (x := v0) dL_count_2 rfl rfl ?_
  refine ev_iload_n (j := 1) (x := v1) dL_count_3 rfl rfl ?_
  obtain ⟨a_1, ea_1, h⟩ := x_some_e h
  refine ev_at (st' := [.int v1, va_rf (some a_1), .int 0, va_rf v2]) rfl (by rw [ea_1]) ?_
  obtain ⟨c_5, h⟩ := x_chk_e h
  rcases x_bind_e h with ⟨v_2, σ_3, h_4, h⟩ | ⟨E_9, σ_3, h_4, h⟩
  · have z9 := x_call (M := mL_count) (M' := mX11_count) (pc := 4) (st := [.int v1, va_rf (some a_1), .int 0, va_rf v2]) (rest := [.int 0, va_rf v2]) (av := [va_rf (some a_1), .int v1]) (x_linkV (M := mL_count) (M' := mX11_count) (As := [.int v1]) (index := 39) (C := RX11) (T := TX11) (xE_11 c_5) rfl wd_37 wd_38 wd_36 xw_X11_count rfl (by decide) rfl rfl dL_count_4) (ev_X11_count hO hP h_4) xw_X11_count rfl wd_5 dL_count_4 (by decide) (by decide) (by simp [x_cat, x_catI, x_catJ])
    refine x_callR z9 ?_
    refine ev_at (st' := [.int v_2, .int 0, va_rf v2]) rfl rfl ?_
    refine ev_i2l (x := v_2) dL_count_7 ?_
    obtain ⟨a_6, ea_6, h⟩ := x_some_e h
    refine ev_at (st' := [.long (Int32.toInt64 v_2), .int 0, va_rf (some a_6)]) rfl (by rw [ea_6]) ?_
    obtain ⟨c_7, h⟩ := x_chk_e h
    obtain ⟨σ_8, eσ_8, h⟩ := x_let_e h
    refine ev_last_42 c_7.1 c_7.2.1 (hP.2.2.2.1 ▸ c_7.2.2) dL_count_8 (eσ_8 ▸ ?_)
    refine ev_goto (tgt := 15) dL_count_9 (by decide) ?_
    refine ev_iconst (v := 0) dL_count_15 (by decide) ?_
    cases h
    exact ev_iret rfl rfl dL_count_16
  · have z9 := x_call (M := mL_count) (M' := mX11_count) (pc := 4) (st := [.int v1, va_rf (some a_1), .int 0, va_rf v2]) (rest := [.int 0, va_rf v2]) (av := [va_rf (some a_1), .int v1]) (x_linkV (M := mL_count) (M' := mX11_count) (As := [.int v1]) (index := 39) (C := RX11) (T := TX11) (xE_11 c_5) rfl wd_37 wd_38 wd_36 xw_X11_count rfl (by decide) rfl rfl dL_count_4) (ev_X11_count hO hP h_4) xw_X11_count rfl wd_5 dL_count_4 (by decide) (by decide) (by simp [x_cat, x_catI, x_catJ])
    obtain ⟨c_11, h9⟩ := x_chk_e h
    clear h
    subst c_11
    have h := h9
    clear h9
    refine x_callX z9 (evX_catch (name := "java/lang/IndexOutOfBoundsException") (x := (0, 9, 12, 13)) (xs := []) rfl (by decide) (by decide) wd_31 wd_32 (fun q_10 => ?_))
    refine ev_astore_n (i := 3) (lv' := [(3, va_rf (some q_10)), (0, va_rf v0), (1, .int v1), (2, va_rf v2)]) dL_count_12 rfl (by decide) (by simp [x_cat, x_catI, x_catJ]) ?_
    refine ev_iconst (v := 1) dL_count_13 (by decide) ?_
    cases h
    exact ev_iret rfl rfl dL_count_14
set_option maxHeartbeats 4000000 in
set_option maxRecDepth 100000 in
theorem ev_X11_instanceAt_p23 {l : Launch} {G : xG} (hO : x_OK l G) {P : xP} (hP : x_PG P G) {a0 : Nat} {v2 : Int32} {v3 : Option Nat} {s0 : Int32} {σ σ' : xS} {rr : Option Nat ⊕ String} (h : dm_X11_instanceAt_p23 P a0 v2 v3 s0 σ = some (rr, σ')) : Ev l G mX11_instanceAt 23 [(2, .int v2), (3, va_rf v3)] [.int s0] σ (xrR rr) σ' := by
  unfold dm_X11_instanceAt_p23 at h
  rcases x_bind_e h with ⟨v_1, σ_2, h_3, h⟩ | ⟨E_8, σ_2, h_3, h⟩
  · have z9 := x_call (M := mX11_instanceAt) (M' := mX11_refuseUnless) (pc := 23) (st := [.int s0]) (rest := []) (av := [.int s0]) (x_linkS (M := mX11_instanceAt) (M' := mX11_refuseUnless) (As := [.int s0]) (index := 57) wd_3 wd_4 wd_5 xw_X11_refuseUnless rfl ⟨_, _, _, Or.inl wd_2⟩ (by decide) rfl rfl dX11_instanceAt_23) (ev_X11_refuseUnless hO hP h_3) xw_X11_refuseUnless rfl wd_5 dX11_instanceAt_23 (by decide) (by decide) (by simp [x_cat, x_catI, x_catJ])
    refine x_callR z9 ?_
    refine ev_at (st' := []) rfl rfl ?_
    refine ev_aload_n (j := 1) (x := v3) dX11_instanceAt_26 rfl rfl ?_
    obtain ⟨a_4, ea_4, h⟩ := x_some_e h
    refine ev_at (st' := [va_rf (some a_4)]) rfl (by rw [ea_4]) ?_
    obtain ⟨c_5, h⟩ := x_chk_e h
    refine ev_get (C := RX5) (T := TX5) (k := 10) inX5 (xE_6 c_5) rfl (by decide) wd_40 (Or.inl rfl) rfl dX11_instanceAt_27 ?_
    refine ev_iload_n (j := 0) (x := v2) dX11_instanceAt_30 rfl rfl ?_
    obtain ⟨a_6, ea_6, h⟩ := x_some_e h
    refine ev_at (st' := [.int v2, va_rf (some a_6)]) rfl (by rw [ea_6]) ?_
    obtain ⟨c_7, h⟩ := x_chk_e h
    refine ev_aald_24 c_7.1 c_7.2 dX11_instanceAt_31 ?_
    cases h
    exact ev_aret rfl dX11_instanceAt_32
  · have z9 := x_call (M := mX11_instanceAt) (M' := mX11_refuseUnless) (pc := 23) (st := [.int s0]) (rest := []) (av := [.int s0]) (x_linkS (M := mX11_instanceAt) (M' := mX11_refuseUnless) (As := [.int s0]) (index := 57) wd_3 wd_4 wd_5 xw_X11_refuseUnless rfl ⟨_, _, _, Or.inl wd_2⟩ (by decide) rfl rfl dX11_instanceAt_23) (ev_X11_refuseUnless hO hP h_3) xw_X11_refuseUnless rfl wd_5 dX11_instanceAt_23 (by decide) (by decide) (by simp [x_cat, x_catI, x_catJ])
    cases h
    exact x_callX z9 (evX_out rfl)
set_option maxHeartbeats 4000000 in
set_option maxRecDepth 100000 in
theorem ev_X11_instanceAt_p22 {l : Launch} {G : xG} (hO : x_OK l G) {P : xP} (hP : x_PG P G) {a0 : Nat} {v2 : Int32} {v3 : Option Nat} {σ σ' : xS} {rr : Option Nat ⊕ String} (h : dm_X11_instanceAt_p22 P a0 v2 v3 σ = some (rr, σ')) : Ev l G mX11_instanceAt 22 [(2, .int v2), (3, va_rf v3)] [] σ (xrR rr) σ' := by
  unfold dm_X11_instanceAt_p22 at h
  refine ev_iconst (v := 0) dX11_instanceAt_22 (by decide) ?_
  exact ev_sub [0, 1] rfl (ev_X11_instanceAt_p23 hO hP h)
set_option maxHeartbeats 4000000 in
set_option maxRecDepth 100000 in
theorem ev_X11_instanceAt {l : Launch} {G : xG} (hO : x_OK l G) {P : xP} (hP : x_PG P G) {a0 : Nat} {v1 : Int32} {v2 : Int32} {σ σ' : xS} {rr : Option Nat ⊕ String} (h : dm_X11_instanceAt P a0 v1 v2 σ = some (rr, σ')) : EvM l G mX11_instanceAt [va_rf (some a0), .int v1, .int v2] σ (xrR rr) σ' := by
  unfold dm_X11_instanceAt at h
  refine evM_of hO (by decide +kernel) (x_lenI (by simp [x_cat, x_catI, x_catJ, mX11_instanceAt, xM.maxL])) ?_
  refine Eq.mp (congrArg (fun z => Ev l G mX11_instanceAt 0 z [] σ (xrR rr) σ') (show [(0, va_rf (some a0)), (1, .int v1), (2, .int v2)] = lv_args 0 [va_rf (some a0), .int v1, .int v2] by simp [lv_args, x_cat, x_catI, x_catJ])) ?_
  refine ev_aload_n (j := 0) (x := (some a0)) dX11_instanceAt_0 rfl rfl ?_
  refine ev_iload_n (j := 1) (x := v1) dX11_instanceAt_1 rfl rfl ?_
  obtain ⟨c_4, h⟩ := x_chk_e h
  rcases x_bind_e h with ⟨v_1, σ_2, h_3, h⟩ | ⟨E_9, σ_2, h_3, h⟩
  · have z9 := x_call (M := mX11_instanceAt) (M' := mX11_moduleAt) (pc := 2) (st := [.int v1, va_rf (some a0)]) (rest := []) (av := [va_rf (some a0), .int v1]) (x_linkV (M := mX11_instanceAt) (M' := mX11_moduleAt) (As := [.int v1]) (index := 77) (C := RX11) (T := TX11) (xE_11 c_4) rfl wd_13 wd_14 (wG_in (List.mem_append_left _ (List.mem_of_getElem? (i := 18) rfl)) rfl) xw_X11_moduleAt rfl (by decide) rfl rfl dX11_instanceAt_2) (ev_X11_moduleAt hO hP h_3) xw_X11_moduleAt rfl wd_5 dX11_instanceAt_2 (by decide) (by decide) (by simp [x_cat, x_catI, x_catJ])
    refine x_callR z9 ?_
    refine ev_at (st' := [va_rf v_1]) rfl rfl ?_
    refine ev_astore_n (i := 3) (lv' := [(3, va_rf v_1), (0, va_rf (some a0)), (1, .int v1), (2, .int v2)]) dX11_instanceAt_5 rfl (by decide) rfl ?_
    refine ev_iload_n (j := 3) (x := v2) dX11_instanceAt_6 rfl rfl ?_
    by_cases c_5 : v2 < 0
    · rw [if_pos c_5] at h
      refine ev_if_lt (x := v2) (tgt := 22) dX11_instanceAt_7 (by decide) (fun _ => ?_) (fun q9 => absurd c_5 q9)
      exact ev_sub [3, 0] rfl (ev_X11_instanceAt_p22 hO hP h)
    · rw [if_neg c_5] at h
      refine ev_if_lt (x := v2) (tgt := 22) dX11_instanceAt_7 (by decide) (fun q9 => absurd q9 c_5) (fun _ => ?_)
      refine ev_iload_n (j := 3) (x := v2) dX11_instanceAt_10 rfl rfl ?_
      refine ev_aload_n (j := 0) (x := v_1) dX11_instanceAt_11 rfl rfl ?_
      obtain ⟨a_6, ea_6, h⟩ := x_some_e h
      refine ev_at (st' := [va_rf (some a_6), .int v2]) rfl (by rw [ea_6]) ?_
      obtain ⟨c_7, h⟩ := x_chk_e h
      refine ev_get (C := RX5) (T := TX5) (k := 11) inX5 (xE_6 c_7) rfl (by decide) wd_39 (Or.inl rfl) rfl dX11_instanceAt_12 ?_
      by_cases c_8 : (σ_2.I 511 a_6) ≤ v2
      · rw [if_pos c_8] at h
        refine ev_icmp_ge (x := v2) (y := (σ_2.I 511 a_6)) (tgt := 22) dX11_instanceAt_15 (by decide) (fun _ => ?_) (fun q9 => absurd c_8 q9)
        exact ev_sub [3, 0] rfl (ev_X11_instanceAt_p22 hO hP h)
      · rw [if_neg c_8] at h
        refine ev_icmp_ge (x := v2) (y := (σ_2.I 511 a_6)) (tgt := 22) dX11_instanceAt_15 (by decide) (fun q9 => absurd q9 c_8) (fun _ => ?_)
        refine ev_iconst (v := 1) dX11_instanceAt_18 (by decide) ?_
        refine ev_goto (tgt := 23) dX11_instanceAt_19 (by decide) ?_
        exact ev_sub [3, 0] rfl (ev_X11_instanceAt_p23 hO hP h)
  · have z9 := x_call (M := mX11_instanceAt) (M' := mX11_moduleAt) (pc := 2) (st := [.int v1, va_rf (some a0)]) (rest := []) (av := [va_rf (some a0), .int v1]) (x_linkV (M := mX11_instanceAt) (M' := mX11_moduleAt) (As := [.int v1]) (index := 77) (C := RX11) (T := TX11) (xE_11 c_4) rfl wd_13 wd_14 (wG_in (List.mem_append_left _ (List.mem_of_getElem? (i := 18) rfl)) rfl) xw_X11_moduleAt rfl (by decide) rfl rfl dX11_instanceAt_2) (ev_X11_moduleAt hO hP h_3) xw_X11_moduleAt rfl wd_5 dX11_instanceAt_2 (by decide) (by decide) (by simp [x_cat, x_catI, x_catJ])
    cases h
    exact x_callX z9 (evX_out rfl)
set_option maxHeartbeats 4000000 in
set_option maxRecDepth 100000 in
theorem ev_X1_pinCount_p21 {l : Launch} {G : xG} (hO : x_OK l G) {P : xP} (hP : x_PG P G) {a0 : Nat} {s0 : Int32} {σ σ' : xS} {rr : Int32 ⊕ String} (h : dm_X1_pinCount_p21 P a0 s0 σ = some (rr, σ')) : Ev l G mX1_pinCount 21 [] [.int s0] σ (xrI rr) σ' := by
  unfold dm_X1_pinCount_p21 at h
  cases h
  exact ev_iret rfl rfl dX1_pinCount_21
set_option maxHeartbeats 4000000 in
set_option maxRecDepth 100000 in
theorem ev_X1_pinCount {l : Launch} {G : xG} (hO : x_OK l G) {P : xP} (hP : x_PG P G) {a0 : Nat} {σ σ' : xS} {rr : Int32 ⊕ String} (h : dm_X1_pinCount P a0 σ = some (rr, σ')) : EvM l G mX1_pinCount [va_rf (some a0)] σ (xrI rr) σ' := by
  unfold dm_X1_pinCount at h
  refine evM_of hO (by decide +kernel) (x_lenI (by simp [x_cat, x_catI, x_catJ, mX1_pinCount, xM.maxL])) ?_
  refine Eq.mp (congrArg (fun z => Ev l G mX1_pinCount 0 z [] σ (xrI rr) σ') (show [(0, va_rf (some a0))] = lv_args 0 [va_rf (some a0)] by simp [lv_args, x_cat, x_catI, x_catJ])) ?_
  refine ev_aload_n (j := 0) (x := (some a0)) dX1_pinCount_0 rfl rfl ?_
  obtain ⟨c_1, h⟩ := x_chk_e h
  refine ev_get (C := RX1) (T := TX1) (k := 6) inX1 (xE_2 c_1) rfl (by decide) wd_41 (Or.inl rfl) rfl dX1_pinCount_1 ?_
  by_cases c_2 : (σ.R 106 a0) = none
  · rw [if_pos c_2] at h
    refine ev_ifnonnull (x := (σ.R 106 a0)) (tgt := 14) dX1_pinCount_4 (by decide) (fun q9 => absurd c_2 q9) (fun _ => ?_)
    refine ev_aload_n (j := 0) (x := (some a0)) dX1_pinCount_7 rfl rfl ?_
    refine ev_get (C := RX1) (T := TX1) (k := 5) inX1 (xE_2 c_1) rfl (by decide) wd_43 (Or.inl rfl) rfl dX1_pinCount_8 ?_
    refine ev_goto (tgt := 21) dX1_pinCount_11 (by decide) ?_
    exact ev_sub [] rfl (ev_X1_pinCount_p21 hO hP h)
  · rw [if_neg c_2] at h
    refine ev_ifnonnull (x := (σ.R 106 a0)) (tgt := 14) dX1_pinCount_4 (by decide) (fun _ => ?_) (fun q9 => absurd q9 c_2)
    refine ev_aload_n (j := 0) (x := (some a0)) dX1_pinCount_14 rfl rfl ?_
    refine ev_get (C := RX1) (T := TX1) (k := 6) inX1 (xE_2 c_1) rfl (by decide) wd_41 (Or.inl rfl) rfl dX1_pinCount_15 ?_
    obtain ⟨a_3, ea_3, h⟩ := x_some_e h
    refine ev_at (st' := [va_rf (some a_3)]) rfl (by rw [ea_3]) ?_
    obtain ⟨c_4, h⟩ := x_chk_e h
    refine ev_get (C := RX5) (T := TX5) (k := 5) inX5 (xE_6 c_4) rfl (by decide) wd_42 (Or.inl rfl) rfl dX1_pinCount_18 ?_
    exact ev_sub [] rfl (ev_X1_pinCount_p21 hO hP h)
set_option maxHeartbeats 4000000 in
set_option maxRecDepth 100000 in
theorem ev_X11_instance_p60 {l : Launch} {G : xG} (hO : x_OK l G) {P : xP} (hP : x_PG P G) {a0 : Nat} {s0 : Int32} {σ σ' : xS} {rr : Int32 ⊕ String} (h : dm_X11_instance_p60 P a0 s0 σ = some (rr, σ')) : Ev l G mX11_instance 60 [] [.int s0] σ (xrI rr) σ' := by
  unfold dm_X11_instance_p60 at h
  cases h
  exact ev_iret rfl rfl dX11_instance_60
set_option maxHeartbeats 4000000 in
set_option maxRecDepth 100000 in
theorem ev_X11_instance_p86 {l : Launch} {G : xG} (hO : x_OK l G) {P : xP} (hP : x_PG P G) {a0 : Nat} {s0 : Int32} {σ σ' : xS} {rr : Int32 ⊕ String} (h : dm_X11_instance_p86 P a0 s0 σ = some (rr, σ')) : Ev l G mX11_instance 86 [] [.int s0] σ (xrI rr) σ' := by
  unfold dm_X11_instance_p86 at h
  cases h
  exact ev_iret rfl rfl dX11_instance_86
set_option maxHeartbeats 4000000 in
set_option maxRecDepth 100000 in
theorem ev_X11_instance {l : Launch} {G : xG} (hO : x_OK l G) {P : xP} (hP : x_PG P G) {a0 : Nat} {v1 : Int32} {v2 : Int32} {v3 : Int32} {σ σ' : xS} {rr : Int32 ⊕ String} (h : dm_X11_instance P a0 v1 v2 v3 σ = some (rr, σ')) : EvM l G mX11_instance [va_rf (some a0), .int v1, .int v2, .int v3] σ (xrI rr) σ' := by
  unfold dm_X11_instance at h
  refine evM_of hO (by decide +kernel) (x_lenI (by simp [x_cat, x_catI, x_catJ, mX11_instance, xM.maxL])) ?_
  refine Eq.mp (congrArg (fun z => Ev l G mX11_instance 0 z [] σ (xrI rr) σ') (show [(0, va_rf (some a0)), (1, .int v1), (2, .int v2), (3, .int v3)] = lv_args 0 [va_rf (some a0), .int v1, .int v2, .int v3] by simp [lv_args, x_cat, x_catI, x_catJ])) ?_
  refine ev_aload_n (j := 0) (x := (some a0)) dX11_instance_0 rfl rfl ?_
  refine ev_iload_n (j := 1) (x := v1) dX11_instance_1 rfl rfl ?_
  refine ev_iload_n (j := 2) (x := v2) dX11_instance_2 rfl rfl ?_
  obtain ⟨c_4, h⟩ := x_chk_e h
  rcases x_bind_e h with ⟨v_1, σ_2, h_3, h⟩ | ⟨E_27, σ_2, h_3, h⟩
  · have z9 := x_call (M := mX11_instance) (M' := mX11_instanceAt) (pc := 3) (st := [.int v2, .int v1, va_rf (some a0)]) (rest := []) (av := [va_rf (some a0), .int v1, .int v2]) (x_linkV (M := mX11_instance) (M' := mX11_instanceAt) (As := [.int v1, .int v2]) (index := 119) (C := RX11) (T := TX11) (xE_11 c_4) rfl wd_45 wd_46 (wG_in (List.mem_append_left _ (List.mem_of_getElem? (i := 20) rfl)) rfl) xw_X11_instanceAt rfl (by decide) rfl rfl dX11_instance_3) (ev_X11_instanceAt hO hP h_3) xw_X11_instanceAt rfl wd_5 dX11_instance_3 (by decide) (by decide) (by simp [x_cat, x_catI, x_catJ])
    refine x_callR z9 ?_
    refine ev_at (st' := [va_rf v_1]) rfl rfl ?_
    refine ev_astore (i := 4) (lv' := [(4, va_rf v_1), (0, va_rf (some a0)), (1, .int v1), (2, .int v2), (3, .int v3)]) dX11_instance_6 (by decide) rfl ?_
    refine ev_iload_n (j := 4) (x := v3) dX11_instance_8 rfl rfl ?_
    obtain ⟨v_5, ev_5, h⟩ := x_let_e h
    rw [← ev_5]
    by_cases c_6 : v_5 = 0
    · rw [if_pos c_6] at h
      refine ev_at (st' := .int 0 :: []) rfl (by rw [c_6]) ?_
      refine ev_tableIn (tgt := 40) (off := 31) dX11_instance_9 (by decide) (by decide) rfl (by decide) ?_
      refine ev_aload (j := 0) (x := v_1) dX11_instance_40 rfl ?_
      obtain ⟨a_7, ea_7, h⟩ := x_some_e h
      refine ev_at (st' := [va_rf (some a_7)]) rfl (by rw [ea_7]) ?_
      obtain ⟨c_8, h⟩ := x_chk_e h
      refine ev_get (C := RX1) (T := TX1) (k := 6) inX1 (xE_2 c_8) rfl (by decide) wd_47 (Or.inl rfl) rfl dX11_instance_42 ?_
      by_cases c_9 : (σ_2.R 106 a_7) = none
      · rw [if_pos c_9] at h
        refine ev_ifnonnull (x := (σ_2.R 106 a_7)) (tgt := 52) dX11_instance_45 (by decide) (fun q9 => absurd c_9 q9) (fun _ => ?_)
        refine ev_iconst (v := -1) dX11_instance_48 (by decide) ?_
        refine ev_goto (tgt := 60) dX11_instance_49 (by decide) ?_
        exact ev_sub [] rfl (ev_X11_instance_p60 hO hP h)
      · rw [if_neg c_9] at h
        refine ev_ifnonnull (x := (σ_2.R 106 a_7)) (tgt := 52) dX11_instance_45 (by decide) (fun _ => ?_) (fun q9 => absurd q9 c_9)
        refine ev_aload (j := 0) (x := v_1) dX11_instance_52 rfl ?_
        refine ev_at (st' := [va_rf (some a_7)]) rfl (by rw [ea_7]) ?_
        refine ev_get (C := RX1) (T := TX1) (k := 6) inX1 (xE_2 c_8) rfl (by decide) wd_47 (Or.inl rfl) rfl dX11_instance_54 ?_
        obtain ⟨a_10, ea_10, h⟩ := x_some_e h
        refine ev_at (st' := [va_rf (some a_10)]) rfl (by rw [ea_10]) ?_
        obtain ⟨c_11, h⟩ := x_chk_e h
        refine ev_get (C := RX5) (T := TX5) (k := 0) inX5 (xE_6 c_11) rfl (by decide) wd_48 (Or.inl rfl) rfl dX11_instance_57 ?_
        exact ev_sub [] rfl (ev_X11_instance_p60 hO hP h)
    rw [if_neg c_6] at h
    by_cases c_12 : v_5 = 1
    · rw [if_pos c_12] at h
      refine ev_at (st' := .int 1 :: []) rfl (by rw [c_12]) ?_
      refine ev_tableIn (tgt := 61) (off := 52) dX11_instance_9 (by decide) (by decide) rfl (by decide) ?_
      refine ev_aload (j := 0) (x := v_1) dX11_instance_61 rfl ?_
      obtain ⟨a_13, ea_13, h⟩ := x_some_e h
      refine ev_at (st' := [va_rf (some a_13)]) rfl (by rw [ea_13]) ?_
      obtain ⟨c_17, h⟩ := x_chk_e h
      rcases x_bind_e h with ⟨v_14, σ_15, h_16, h⟩ | ⟨E_18, σ_15, h_16, h⟩
      · have z9 := x_call (M := mX11_instance) (M' := mX1_pinCount) (pc := 63) (st := [va_rf (some a_13)]) (rest := []) (av := [va_rf (some a_13)]) (x_linkV (M := mX11_instance) (M' := mX1_pinCount) (As := []) (index := 132) (C := RX1) (T := TX1) (xE_2 c_17) rfl wd_51 wd_52 wd_50 xw_X1_pinCount rfl (by decide) rfl rfl dX11_instance_63) (ev_X1_pinCount hO hP h_16) xw_X1_pinCount rfl wd_53 dX11_instance_63 (by decide) (by decide) (by simp [x_cat, x_catI, x_catJ])
        refine x_callR z9 ?_
        refine ev_at (st' := [.int v_14]) rfl rfl ?_
        cases h
        exact ev_iret rfl rfl dX11_instance_66
      · have z9 := x_call (M := mX11_instance) (M' := mX1_pinCount) (pc := 63) (st := [va_rf (some a_13)]) (rest := []) (av := [va_rf (some a_13)]) (x_linkV (M := mX11_instance) (M' := mX1_pinCount) (As := []) (index := 132) (C := RX1) (T := TX1) (xE_2 c_17) rfl wd_51 wd_52 wd_50 xw_X1_pinCount rfl (by decide) rfl rfl dX11_instance_63) (ev_X1_pinCount hO hP h_16) xw_X1_pinCount rfl wd_53 dX11_instance_63 (by decide) (by decide) (by simp [x_cat, x_catI, x_catJ])
        cases h
        exact x_callX z9 (evX_out rfl)
    rw [if_neg c_12] at h
    by_cases c_19 : v_5 = 2
    · rw [if_pos c_19] at h
      refine ev_at (st' := .int 2 :: []) rfl (by rw [c_19]) ?_
      refine ev_tableIn (tgt := 67) (off := 58) dX11_instance_9 (by decide) (by decide) rfl (by decide) ?_
      refine ev_aload (j := 0) (x := v_1) dX11_instance_67 rfl ?_
      obtain ⟨a_20, ea_20, h⟩ := x_some_e h
      refine ev_at (st' := [va_rf (some a_20)]) rfl (by rw [ea_20]) ?_
      obtain ⟨c_21, h⟩ := x_chk_e h
      refine ev_get (C := RX1) (T := TX1) (k := 2) inX1 (xE_2 c_21) rfl (by decide) wd_54 (Or.inl rfl) rfl dX11_instance_69 ?_
      cases h
      exact ev_iret rfl rfl dX11_instance_72
    rw [if_neg c_19] at h
    by_cases c_22 : v_5 = 3
    · rw [if_pos c_22] at h
      refine ev_at (st' := .int 3 :: []) rfl (by rw [c_22]) ?_
      refine ev_tableIn (tgt := 73) (off := 64) dX11_instance_9 (by decide) (by decide) rfl (by decide) ?_
      refine ev_aload (j := 0) (x := v_1) dX11_instance_73 rfl ?_
      obtain ⟨a_23, ea_23, h⟩ := x_some_e h
      refine ev_at (st' := [va_rf (some a_23)]) rfl (by rw [ea_23]) ?_
      obtain ⟨c_24, h⟩ := x_chk_e h
      refine ev_get (C := RX1) (T := TX1) (k := 3) inX1 (xE_2 c_24) rfl (by decide) wd_55 (Or.inl rfl) rfl dX11_instance_75 ?_
      by_cases c_25 : (σ_2.I 103 a_23) = 0
      · rw [if_pos c_25] at h
        refine ev_if_eq (x := (σ_2.I 103 a_23)) (tgt := 85) dX11_instance_78 (by decide) (fun _ => ?_) (fun q9 => absurd c_25 q9)
        refine ev_iconst (v := 0) dX11_instance_85 (by decide) ?_
        exact ev_sub [] rfl (ev_X11_instance_p86 hO hP h)
      · rw [if_neg c_25] at h
        refine ev_if_eq (x := (σ_2.I 103 a_23)) (tgt := 85) dX11_instance_78 (by decide) (fun q9 => absurd q9 c_25) (fun _ => ?_)
        refine ev_iconst (v := 1) dX11_instance_81 (by decide) ?_
        refine ev_goto (tgt := 86) dX11_instance_82 (by decide) ?_
        exact ev_sub [] rfl (ev_X11_instance_p86 hO hP h)
    rw [if_neg c_22] at h
    refine ev_tableOut (tgt := 87) dX11_instance_9 (x_sw 3 (fun k9 h9 => by match k9, h9 with | 0, _ => exact c_6 | 1, _ => exact c_12 | 2, _ => exact c_19 | 3, _ => exact c_22 | k9 + 4, h9 => omega)) (by decide) ?_
    obtain ⟨c_26, h⟩ := x_chk_e h
    cases h
    exact ev_throw (names := x_ex) (by decide +kernel) x_exf th_X11_101_103 dX11_instance_87 dX11_instance_90 dX11_instance_91 dX11_instance_94 rfl (by decide) (by decide) (hP.2.1 ▸ c_26.1) (hP.2.2.1 ▸ c_26.2)
  · have z9 := x_call (M := mX11_instance) (M' := mX11_instanceAt) (pc := 3) (st := [.int v2, .int v1, va_rf (some a0)]) (rest := []) (av := [va_rf (some a0), .int v1, .int v2]) (x_linkV (M := mX11_instance) (M' := mX11_instanceAt) (As := [.int v1, .int v2]) (index := 119) (C := RX11) (T := TX11) (xE_11 c_4) rfl wd_45 wd_46 (wG_in (List.mem_append_left _ (List.mem_of_getElem? (i := 20) rfl)) rfl) xw_X11_instanceAt rfl (by decide) rfl rfl dX11_instance_3) (ev_X11_instanceAt hO hP h_3) xw_X11_instanceAt rfl wd_5 dX11_instance_3 (by decide) (by decide) (by simp [x_cat, x_catI, x_catJ])
    cases h
    exact x_callX z9 (evX_out rfl)
set_option maxHeartbeats 4000000 in
set_option maxRecDepth 100000 in
theorem ev_L_instance {l : Launch} {G : xG} (hO : x_OK l G) {P : xP} (hP : x_PG P G) {v0 : Option Nat} {v1 : Int32} {v2 : Int32} {v3 : Int32} {v4 : Option Nat} {σ σ' : xS} {rr : Int32 ⊕ String} (h : dm_L_instance P v0 v1 v2 v3 v4 σ = some (rr, σ')) : EvM l G mL_instance [va_rf v0, .int v1, .int v2, .int v3, va_rf v4] σ (xrI rr) σ' := by
  unfold dm_L_instance at h
  refine evM_of hO (by decide +kernel) (x_lenI (by simp [x_cat, x_catI, x_catJ, mL_instance, xM.maxL])) ?_
  refine Eq.mp (congrArg (fun z => Ev l G mL_instance 0 z [] σ (xrI rr) σ') (show [(0, va_rf v0), (1, .int v1), (2, .int v2), (3, .int v3), (4, va_rf v4)] = lv_args 0 [va_rf v0, .int v1, .int v2, .int v3, va_rf v4] by simp [lv_args, x_cat, x_catI, x_catJ])) ?_
  refine ev_aload (j := 4) (x := v4) dL_instance_0 rfl ?_
  refine ev_iconst (v := 0) dL_instance_2 (by decide) ?_
  refine ev_aload_n (j := 0) (x := v0) dL_instance_3 rfl rfl ?_
  refine ev_iload_n (j := 1) (x := v1) dL_instance_4 rfl rfl ?_
  refine ev_iload_n (j := 2) (x := v2) dL_instance_5 rfl rfl ?_
  refine ev_iload_n (j := 3) (x := v3) dL_instance_6 rfl rfl ?_
  obtain ⟨a_1, ea_1, h⟩ := x_some_e h
  refine ev_at (st' := [.int v3, .int v2, .int v1, va_rf (some a_1), .int 0, va_rf v4]) rfl (by rw [ea_1]) ?_
  obtain ⟨c_5, h⟩ := x_chk_e h
  rcases x_bind_e h with ⟨v_2, σ_3, h_4, h⟩ | ⟨E_9, σ_3, h_4, h⟩
  · have z9 := x_call (M := mL_instance) (M' := mX11_instance) (pc := 7) (st := [.int v3, .int v2, .int v1, va_rf (some a_1), .int 0, va_rf v4]) (rest := [.int 0, va_rf v4]) (av := [va_rf (some a_1), .int v1, .int v2, .int v3]) (x_linkV (M := mL_instance) (M' := mX11_instance) (As := [.int v1, .int v2, .int v3]) (index := 23) (C := RX11) (T := TX11) (xE_11 c_5) rfl wd_58 wd_59 wd_57 xw_X11_instance rfl (by decide) rfl rfl dL_instance_7) (ev_X11_instance hO hP h_4) xw_X11_instance rfl wd_5 dL_instance_7 (by decide) (by decide) (by simp [x_cat, x_catI, x_catJ])
    refine x_callR z9 ?_
    refine ev_at (st' := [.int v_2, .int 0, va_rf v4]) rfl rfl ?_
    refine ev_i2l (x := v_2) dL_instance_10 ?_
    obtain ⟨a_6, ea_6, h⟩ := x_some_e h
    refine ev_at (st' := [.long (Int32.toInt64 v_2), .int 0, va_rf (some a_6)]) rfl (by rw [ea_6]) ?_
    obtain ⟨c_7, h⟩ := x_chk_e h
    obtain ⟨σ_8, eσ_8, h⟩ := x_let_e h
    refine ev_last_42 c_7.1 c_7.2.1 (hP.2.2.2.1 ▸ c_7.2.2) dL_instance_11 (eσ_8 ▸ ?_)
    refine ev_goto (tgt := 19) dL_instance_12 (by decide) ?_
    refine ev_iconst (v := 0) dL_instance_19 (by decide) ?_
    cases h
    exact ev_iret rfl rfl dL_instance_20
  · have z9 := x_call (M := mL_instance) (M' := mX11_instance) (pc := 7) (st := [.int v3, .int v2, .int v1, va_rf (some a_1), .int 0, va_rf v4]) (rest := [.int 0, va_rf v4]) (av := [va_rf (some a_1), .int v1, .int v2, .int v3]) (x_linkV (M := mL_instance) (M' := mX11_instance) (As := [.int v1, .int v2, .int v3]) (index := 23) (C := RX11) (T := TX11) (xE_11 c_5) rfl wd_58 wd_59 wd_57 xw_X11_instance rfl (by decide) rfl rfl dL_instance_7) (ev_X11_instance hO hP h_4) xw_X11_instance rfl wd_5 dL_instance_7 (by decide) (by decide) (by simp [x_cat, x_catI, x_catJ])
    obtain ⟨c_11, h9⟩ := x_chk_e h
    clear h
    subst c_11
    have h := h9
    clear h9
    refine x_callX z9 (evX_catch (name := "java/lang/IndexOutOfBoundsException") (x := (0, 12, 15, 13)) (xs := []) rfl (by decide) (by decide) wd_31 wd_32 (fun q_10 => ?_))
    refine ev_astore (i := 5) (lv' := [(5, va_rf (some q_10)), (0, va_rf v0), (1, .int v1), (2, .int v2), (3, .int v3), (4, va_rf v4)]) dL_instance_15 (by decide) (by simp [x_cat, x_catI, x_catJ]) ?_
    refine ev_iconst (v := 1) dL_instance_17 (by decide) ?_
    cases h
    exact ev_iret rfl rfl dL_instance_18
set_option maxHeartbeats 4000000 in
set_option maxRecDepth 100000 in
theorem ev_X1_pinWidth_p48 {l : Launch} {G : xG} (hO : x_OK l G) {P : xP} (hP : x_PG P G) {a0 : Nat} {s0 : Int32} {σ σ' : xS} {rr : Int32 ⊕ String} (h : dm_X1_pinWidth_p48 P a0 s0 σ = some (rr, σ')) : Ev l G mX1_pinWidth 48 [] [.int s0] σ (xrI rr) σ' := by
  unfold dm_X1_pinWidth_p48 at h
  cases h
  exact ev_iret rfl rfl dX1_pinWidth_48
set_option maxHeartbeats 4000000 in
set_option maxRecDepth 100000 in
theorem ev_X1_pinWidth {l : Launch} {G : xG} (hO : x_OK l G) {P : xP} (hP : x_PG P G) {a0 : Nat} {v1 : Int32} {σ σ' : xS} {rr : Int32 ⊕ String} (h : dm_X1_pinWidth P a0 v1 σ = some (rr, σ')) : EvM l G mX1_pinWidth [va_rf (some a0), .int v1] σ (xrI rr) σ' := by
  unfold dm_X1_pinWidth at h
  refine evM_of hO (by decide +kernel) (x_lenI (by simp [x_cat, x_catI, x_catJ, mX1_pinWidth, xM.maxL])) ?_
  refine Eq.mp (congrArg (fun z => Ev l G mX1_pinWidth 0 z [] σ (xrI rr) σ') (show [(0, va_rf (some a0)), (1, .int v1)] = lv_args 0 [va_rf (some a0), .int v1] by simp [lv_args, x_cat, x_catI, x_catJ])) ?_
  refine ev_aload_n (j := 0) (x := (some a0)) dX1_pinWidth_0 rfl rfl ?_
  obtain ⟨c_1, h⟩ := x_chk_e h
  refine ev_get (C := RX1) (T := TX1) (k := 6) inX1 (xE_2 c_1) rfl (by decide) wd_41 (Or.inl rfl) rfl dX1_pinWidth_1 ?_
  by_cases c_2 : (σ.R 106 a0) = none
  · rw [if_pos c_2] at h
    refine ev_ifnull (x := (σ.R 106 a0)) (tgt := 20) dX1_pinWidth_4 (by decide) (fun _ => ?_) (fun q9 => absurd c_2 q9)
    refine ev_aload_n (j := 0) (x := (some a0)) dX1_pinWidth_20 rfl rfl ?_
    refine ev_get (C := RX1) (T := TX1) (k := 4) inX1 (xE_2 c_1) rfl (by decide) wd_60 (Or.inl rfl) rfl dX1_pinWidth_21 ?_
    refine ev_iload_n (j := 1) (x := v1) dX1_pinWidth_24 rfl rfl ?_
    obtain ⟨a_3, ea_3, h⟩ := x_some_e h
    refine ev_at (st' := [.int v1, va_rf (some a_3)]) rfl (by rw [ea_3]) ?_
    obtain ⟨c_4, h⟩ := x_chk_e h
    refine ev_aald_25 c_4.1 c_4.2 dX1_pinWidth_25 ?_
    obtain ⟨a_5, ea_5, h⟩ := x_some_e h
    refine ev_at (st' := [va_rf (some a_5)]) rfl (by rw [ea_5]) ?_
    obtain ⟨c_6, h⟩ := x_chk_e h
    refine ev_get (C := RX2) (T := TX2) (k := 2) inX2 (xE_3 c_6) rfl (by decide) wd_61 (Or.inl rfl) rfl dX1_pinWidth_26 ?_
    by_cases c_7 : (σ.R 202 a_5) = none
    · rw [if_pos c_7] at h
      refine ev_ifnonnull (x := (σ.R 202 a_5)) (tgt := 36) dX1_pinWidth_29 (by decide) (fun q9 => absurd c_7 q9) (fun _ => ?_)
      refine ev_iconst (v := 1) dX1_pinWidth_32 (by decide) ?_
      refine ev_goto (tgt := 48) dX1_pinWidth_33 (by decide) ?_
      exact ev_sub [] rfl (ev_X1_pinWidth_p48 hO hP h)
    · rw [if_neg c_7] at h
      refine ev_ifnonnull (x := (σ.R 202 a_5)) (tgt := 36) dX1_pinWidth_29 (by decide) (fun _ => ?_) (fun q9 => absurd q9 c_7)
      refine ev_aload_n (j := 0) (x := (some a0)) dX1_pinWidth_36 rfl rfl ?_
      refine ev_get (C := RX1) (T := TX1) (k := 4) inX1 (xE_2 c_1) rfl (by decide) wd_60 (Or.inl rfl) rfl dX1_pinWidth_37 ?_
      refine ev_iload_n (j := 1) (x := v1) dX1_pinWidth_40 rfl rfl ?_
      refine ev_at (st' := [.int v1, va_rf (some a_3)]) rfl (by rw [ea_3]) ?_
      refine ev_aald_25 c_4.1 c_4.2 dX1_pinWidth_41 ?_
      refine ev_at (st' := [va_rf (some a_5)]) rfl (by rw [ea_5]) ?_
      refine ev_get (C := RX2) (T := TX2) (k := 2) inX2 (xE_3 c_6) rfl (by decide) wd_61 (Or.inl rfl) rfl dX1_pinWidth_42 ?_
      obtain ⟨a_8, ea_8, h⟩ := x_some_e h
      refine ev_at (st' := [va_rf (some a_8)]) rfl (by rw [ea_8]) ?_
      obtain ⟨c_12, h⟩ := x_chk_e h
      rcases x_bind_e h with ⟨v_9, σ_10, h_11, h⟩ | ⟨E_13, σ_10, h_11, h⟩
      · have z9 := x_call (M := mX1_pinWidth) (M' := mX6_width) (pc := 45) (st := [va_rf (some a_8)]) (rest := []) (av := [va_rf (some a_8)]) (x_linkV (M := mX1_pinWidth) (M' := mX6_width) (As := []) (index := 61) (C := RX6) (T := TX6) (xE_7 c_12) rfl wd_62 wd_21 wd_19 xw_X6_width rfl (by decide) rfl rfl dX1_pinWidth_45) (ev_X6_width hO hP h_11) xw_X6_width rfl wd_22 dX1_pinWidth_45 (by decide) (by decide) (by simp [x_cat, x_catI, x_catJ])
        refine x_callR z9 ?_
        refine ev_at (st' := [.int v_9]) rfl rfl ?_
        exact ev_sub [] rfl (ev_X1_pinWidth_p48 hO hP h)
      · have z9 := x_call (M := mX1_pinWidth) (M' := mX6_width) (pc := 45) (st := [va_rf (some a_8)]) (rest := []) (av := [va_rf (some a_8)]) (x_linkV (M := mX1_pinWidth) (M' := mX6_width) (As := []) (index := 61) (C := RX6) (T := TX6) (xE_7 c_12) rfl wd_62 wd_21 wd_19 xw_X6_width rfl (by decide) rfl rfl dX1_pinWidth_45) (ev_X6_width hO hP h_11) xw_X6_width rfl wd_22 dX1_pinWidth_45 (by decide) (by decide) (by simp [x_cat, x_catI, x_catJ])
        cases h
        exact x_callX z9 (evX_out rfl)
  · rw [if_neg c_2] at h
    refine ev_ifnull (x := (σ.R 106 a0)) (tgt := 20) dX1_pinWidth_4 (by decide) (fun q9 => absurd q9 c_2) (fun _ => ?_)
    refine ev_aload_n (j := 0) (x := (some a0)) dX1_pinWidth_7 rfl rfl ?_
    refine ev_get (C := RX1) (T := TX1) (k := 6) inX1 (xE_2 c_1) rfl (by decide) wd_41 (Or.inl rfl) rfl dX1_pinWidth_8 ?_
    obtain ⟨a_14, ea_14, h⟩ := x_some_e h
    refine ev_at (st' := [va_rf (some a_14)]) rfl (by rw [ea_14]) ?_
    obtain ⟨c_15, h⟩ := x_chk_e h
    refine ev_get (C := RX5) (T := TX5) (k := 3) inX5 (xE_6 c_15) rfl (by decide) wd_63 (Or.inl rfl) rfl dX1_pinWidth_11 ?_
    refine ev_iload_n (j := 1) (x := v1) dX1_pinWidth_14 rfl rfl ?_
    obtain ⟨a_16, ea_16, h⟩ := x_some_e h
    refine ev_at (st' := [.int v1, va_rf (some a_16)]) rfl (by rw [ea_16]) ?_
    obtain ⟨c_17, h⟩ := x_chk_e h
    refine ev_aald_26 c_17.1 c_17.2 dX1_pinWidth_15 ?_
    obtain ⟨a_18, ea_18, h⟩ := x_some_e h
    refine ev_at (st' := [va_rf (some a_18)]) rfl (by rw [ea_18]) ?_
    obtain ⟨c_19, h⟩ := x_chk_e h
    refine ev_get (C := RX4) (T := TX4) (k := 2) inX4 (xE_5 c_19) rfl (by decide) wd_64 (Or.inl rfl) rfl dX1_pinWidth_16 ?_
    cases h
    exact ev_iret rfl rfl dX1_pinWidth_19
set_option maxHeartbeats 4000000 in
set_option maxRecDepth 100000 in
theorem ev_X1_linkTo_L2 {l : Launch} {G : xG} (hO : x_OK l G) {P : xP} (hP : x_PG P G) {a0 : Nat} : ∀ (n : Nat) {v1 : Int64} {v3 : Int32} {σ σ' : xS} {rr : Option Nat ⊕ String}, dm_X1_linkTo_L2 P a0 n v1 v3 σ = some (rr, σ') → Ev l G mX1_linkTo 2 [(0, va_rf (some a0)), (1, .long v1), (3, .int v3)] [] σ (xrR rr) σ' := by
  intro n
  induction n with
  | zero => intro v1 v3 σ σ' rr h; cases h
  | succ n ih =>
    intro v1 v3 σ σ' rr h
    rw [dm_X1_linkTo_L2] at h
    refine ev_iload_n (j := 2) (x := v3) dX1_linkTo_2 rfl rfl ?_
    refine ev_aload_n (j := 0) (x := (some a0)) dX1_linkTo_3 rfl rfl ?_
    obtain ⟨c_1, h⟩ := x_chk_e h
    refine ev_get (C := RX1) (T := TX1) (k := 5) inX1 (xE_2 c_1) rfl (by decide) wd_43 (Or.inl rfl) rfl dX1_linkTo_4 ?_
    by_cases c_2 : (σ.I 105 a0) ≤ v3
    · rw [if_pos c_2] at h
      refine ev_icmp_ge (x := v3) (y := (σ.I 105 a0)) (tgt := 37) dX1_linkTo_7 (by decide) (fun _ => ?_) (fun q9 => absurd c_2 q9)
      refine ev_null dX1_linkTo_37 ?_
      cases h
      exact ev_aret rfl dX1_linkTo_38
    · rw [if_neg c_2] at h
      refine ev_icmp_ge (x := v3) (y := (σ.I 105 a0)) (tgt := 37) dX1_linkTo_7 (by decide) (fun q9 => absurd q9 c_2) (fun _ => ?_)
      refine ev_aload_n (j := 0) (x := (some a0)) dX1_linkTo_10 rfl rfl ?_
      refine ev_get (C := RX1) (T := TX1) (k := 4) inX1 (xE_2 c_1) rfl (by decide) wd_60 (Or.inl rfl) rfl dX1_linkTo_11 ?_
      refine ev_iload_n (j := 2) (x := v3) dX1_linkTo_14 rfl rfl ?_
      obtain ⟨a_3, ea_3, h⟩ := x_some_e h
      refine ev_at (st' := [.int v3, va_rf (some a_3)]) rfl (by rw [ea_3]) ?_
      obtain ⟨c_4, h⟩ := x_chk_e h
      refine ev_aald_25 c_4.1 c_4.2 dX1_linkTo_15 ?_
      obtain ⟨a_5, ea_5, h⟩ := x_some_e h
      refine ev_at (st' := [va_rf (some a_5)]) rfl (by rw [ea_5]) ?_
      obtain ⟨c_6, h⟩ := x_chk_e h
      refine ev_get (C := RX2) (T := TX2) (k := 0) inX2 (xE_3 c_6) rfl (by decide) wd_65 (Or.inl rfl) rfl dX1_linkTo_16 ?_
      refine ev_lload_n (j := 1) (x := v1) dX1_linkTo_19 rfl rfl ?_
      refine ev_lcmp (x := (σ.J 200 a_5)) (y := v1) dX1_linkTo_20 ?_
      by_cases c_7 : (lg_cmp (σ.J 200 a_5) v1) = 0
      · rw [if_pos c_7] at h
        refine ev_if_ne (x := (lg_cmp (σ.J 200 a_5) v1)) (tgt := 31) dX1_linkTo_21 (by decide) (fun q9 => absurd c_7 q9) (fun _ => ?_)
        refine ev_aload_n (j := 0) (x := (some a0)) dX1_linkTo_24 rfl rfl ?_
        refine ev_get (C := RX1) (T := TX1) (k := 4) inX1 (xE_2 c_1) rfl (by decide) wd_60 (Or.inl rfl) rfl dX1_linkTo_25 ?_
        refine ev_iload_n (j := 2) (x := v3) dX1_linkTo_28 rfl rfl ?_
        refine ev_at (st' := [.int v3, va_rf (some a_3)]) rfl (by rw [ea_3]) ?_
        refine ev_aald_25 c_4.1 c_4.2 dX1_linkTo_29 ?_
        cases h
        exact ev_aret rfl dX1_linkTo_30
      · rw [if_neg c_7] at h
        refine ev_if_ne (x := (lg_cmp (σ.J 200 a_5) v1)) (tgt := 31) dX1_linkTo_21 (by decide) (fun _ => ?_) (fun q9 => absurd q9 c_7)
        obtain ⟨v_8, ev_8, h⟩ := x_let_e h
        refine ev_iinc (j := 2) (x := v3) (v := v_8) (lv' := [(3, .int v_8), (0, va_rf (some a0)), (1, .long v1)]) dX1_linkTo_31 rfl (by rw [ev_8]; rfl) (by decide) rfl ?_
        refine ev_goto (tgt := 2) dX1_linkTo_34 (by decide) ?_
        exact ev_sub [1, 2, 0] rfl (ih h)
set_option maxHeartbeats 4000000 in
set_option maxRecDepth 100000 in
theorem ev_X1_linkTo {l : Launch} {G : xG} (hO : x_OK l G) {P : xP} (hP : x_PG P G) {a0 : Nat} {v1 : Int64} {σ σ' : xS} {rr : Option Nat ⊕ String} (h : dm_X1_linkTo P a0 v1 σ = some (rr, σ')) : EvM l G mX1_linkTo [va_rf (some a0), .long v1] σ (xrR rr) σ' := by
  unfold dm_X1_linkTo at h
  refine evM_of hO (by decide +kernel) (x_lenI (by simp [x_cat, x_catI, x_catJ, mX1_linkTo, xM.maxL])) ?_
  refine Eq.mp (congrArg (fun z => Ev l G mX1_linkTo 0 z [] σ (xrR rr) σ') (show [(0, va_rf (some a0)), (1, .long v1)] = lv_args 0 [va_rf (some a0), .long v1] by simp [lv_args, x_cat, x_catI, x_catJ])) ?_
  refine ev_iconst (v := 0) dX1_linkTo_0 (by decide) ?_
  refine ev_istore_n (i := 3) (lv' := [(3, .int 0), (0, va_rf (some a0)), (1, .long v1)]) dX1_linkTo_1 rfl (by decide) rfl ?_
  exact ev_sub [1, 2, 0] rfl (ev_X1_linkTo_L2 hO hP P.N h)
set_option maxHeartbeats 4000000 in
set_option maxRecDepth 100000 in
theorem ev_X1_partAt_p52 {l : Launch} {G : xG} (hO : x_OK l G) {P : xP} (hP : x_PG P G) {a0 : Nat} {s0 : Option Nat} {σ σ' : xS} {rr : Option Nat ⊕ String} (h : dm_X1_partAt_p52 P a0 s0 σ = some (rr, σ')) : Ev l G mX1_partAt 52 [] [va_rf s0] σ (xrR rr) σ' := by
  unfold dm_X1_partAt_p52 at h
  cases h
  exact ev_aret rfl dX1_partAt_52
set_option maxHeartbeats 4000000 in
set_option maxRecDepth 100000 in
theorem ev_X1_partAt_p39 {l : Launch} {G : xG} (hO : x_OK l G) {P : xP} (hP : x_PG P G) {a0 : Nat} {s0 : Option Nat} {σ σ' : xS} {rr : Option Nat ⊕ String} (h : dm_X1_partAt_p39 P a0 s0 σ = some (rr, σ')) : Ev l G mX1_partAt 39 [] [va_rf s0] σ (xrR rr) σ' := by
  unfold dm_X1_partAt_p39 at h
  refine ev_astore_n (i := 2) (lv' := [(2, va_rf s0)]) dX1_partAt_39 rfl (by decide) rfl ?_
  refine ev_aload_n (j := 0) (x := s0) dX1_partAt_40 rfl rfl ?_
  by_cases c_1 : s0 = none
  · rw [if_pos c_1] at h
    refine ev_ifnonnull (x := s0) (tgt := 48) dX1_partAt_41 (by decide) (fun q9 => absurd c_1 q9) (fun _ => ?_)
    refine ev_null dX1_partAt_44 ?_
    refine ev_goto (tgt := 52) dX1_partAt_45 (by decide) ?_
    exact ev_sub [] rfl (ev_X1_partAt_p52 hO hP h)
  · rw [if_neg c_1] at h
    refine ev_ifnonnull (x := s0) (tgt := 48) dX1_partAt_41 (by decide) (fun _ => ?_) (fun q9 => absurd q9 c_1)
    refine ev_aload_n (j := 0) (x := s0) dX1_partAt_48 rfl rfl ?_
    obtain ⟨a_2, ea_2, h⟩ := x_some_e h
    refine ev_at (st' := [va_rf (some a_2)]) rfl (by rw [ea_2]) ?_
    obtain ⟨c_3, h⟩ := x_chk_e h
    refine ev_get (C := RX2) (T := TX2) (k := 2) inX2 (xE_3 c_3) rfl (by decide) wd_61 (Or.inl rfl) rfl dX1_partAt_49 ?_
    exact ev_sub [] rfl (ev_X1_partAt_p52 hO hP h)
set_option maxHeartbeats 4000000 in
set_option maxRecDepth 100000 in
theorem ev_X1_partAt_p33 {l : Launch} {G : xG} (hO : x_OK l G) {P : xP} (hP : x_PG P G) {a0 : Nat} {v1 : Int32} {σ σ' : xS} {rr : Option Nat ⊕ String} (h : dm_X1_partAt_p33 P a0 v1 σ = some (rr, σ')) : Ev l G mX1_partAt 33 [(0, va_rf (some a0)), (1, .int v1)] [] σ (xrR rr) σ' := by
  unfold dm_X1_partAt_p33 at h
  refine ev_aload_n (j := 0) (x := (some a0)) dX1_partAt_33 rfl rfl ?_
  obtain ⟨c_1, h⟩ := x_chk_e h
  refine ev_get (C := RX1) (T := TX1) (k := 4) inX1 (xE_2 c_1) rfl (by decide) wd_60 (Or.inl rfl) rfl dX1_partAt_34 ?_
  refine ev_iload_n (j := 1) (x := v1) dX1_partAt_37 rfl rfl ?_
  obtain ⟨a_2, ea_2, h⟩ := x_some_e h
  refine ev_at (st' := [.int v1, va_rf (some a_2)]) rfl (by rw [ea_2]) ?_
  obtain ⟨c_3, h⟩ := x_chk_e h
  refine ev_aald_25 c_3.1 c_3.2 dX1_partAt_38 ?_
  exact ev_sub [] rfl (ev_X1_partAt_p39 hO hP h)
set_option maxHeartbeats 4000000 in
set_option maxRecDepth 100000 in
theorem ev_X1_partAt {l : Launch} {G : xG} (hO : x_OK l G) {P : xP} (hP : x_PG P G) {a0 : Nat} {v1 : Int32} {σ σ' : xS} {rr : Option Nat ⊕ String} (h : dm_X1_partAt P a0 v1 σ = some (rr, σ')) : EvM l G mX1_partAt [va_rf (some a0), .int v1] σ (xrR rr) σ' := by
  unfold dm_X1_partAt at h
  refine evM_of hO (by decide +kernel) (x_lenI (by simp [x_cat, x_catI, x_catJ, mX1_partAt, xM.maxL])) ?_
  refine Eq.mp (congrArg (fun z => Ev l G mX1_partAt 0 z [] σ (xrR rr) σ') (show [(0, va_rf (some a0)), (1, .int v1)] = lv_args 0 [va_rf (some a0), .int v1] by simp [lv_args, x_cat, x_catI, x_catJ])) ?_
  refine ev_aload_n (j := 0) (x := (some a0)) dX1_partAt_0 rfl rfl ?_
  obtain ⟨c_1, h⟩ := x_chk_e h
  refine ev_get (C := RX1) (T := TX1) (k := 6) inX1 (xE_2 c_1) rfl (by decide) wd_41 (Or.inl rfl) rfl dX1_partAt_1 ?_
  by_cases c_2 : (σ.R 106 a0) = none
  · rw [if_pos c_2] at h
    refine ev_ifnull (x := (σ.R 106 a0)) (tgt := 33) dX1_partAt_4 (by decide) (fun _ => ?_) (fun q9 => absurd c_2 q9)
    exact ev_sub [0, 1] rfl (ev_X1_partAt_p33 hO hP h)
  · rw [if_neg c_2] at h
    refine ev_ifnull (x := (σ.R 106 a0)) (tgt := 33) dX1_partAt_4 (by decide) (fun q9 => absurd q9 c_2) (fun _ => ?_)
    refine ev_aload_n (j := 0) (x := (some a0)) dX1_partAt_7 rfl rfl ?_
    refine ev_get (C := RX1) (T := TX1) (k := 3) inX1 (xE_2 c_1) rfl (by decide) wd_66 (Or.inl rfl) rfl dX1_partAt_8 ?_
    by_cases c_3 : (σ.I 103 a0) = 0
    · rw [if_pos c_3] at h
      refine ev_if_eq (x := (σ.I 103 a0)) (tgt := 33) dX1_partAt_11 (by decide) (fun _ => ?_) (fun q9 => absurd c_3 q9)
      exact ev_sub [0, 1] rfl (ev_X1_partAt_p33 hO hP h)
    · rw [if_neg c_3] at h
      refine ev_if_eq (x := (σ.I 103 a0)) (tgt := 33) dX1_partAt_11 (by decide) (fun q9 => absurd q9 c_3) (fun _ => ?_)
      refine ev_aload_n (j := 0) (x := (some a0)) dX1_partAt_14 rfl rfl ?_
      refine ev_aload_n (j := 0) (x := (some a0)) dX1_partAt_15 rfl rfl ?_
      refine ev_get (C := RX1) (T := TX1) (k := 6) inX1 (xE_2 c_1) rfl (by decide) wd_41 (Or.inl rfl) rfl dX1_partAt_16 ?_
      obtain ⟨a_4, ea_4, h⟩ := x_some_e h
      refine ev_at (st' := [va_rf (some a_4), va_rf (some a0)]) rfl (by rw [ea_4]) ?_
      obtain ⟨c_5, h⟩ := x_chk_e h
      refine ev_get (C := RX5) (T := TX5) (k := 3) inX5 (xE_6 c_5) rfl (by decide) wd_63 (Or.inl rfl) rfl dX1_partAt_19 ?_
      refine ev_iload_n (j := 1) (x := v1) dX1_partAt_22 rfl rfl ?_
      obtain ⟨a_6, ea_6, h⟩ := x_some_e h
      refine ev_at (st' := [.int v1, va_rf (some a_6), va_rf (some a0)]) rfl (by rw [ea_6]) ?_
      obtain ⟨c_7, h⟩ := x_chk_e h
      refine ev_aald_26 c_7.1 c_7.2 dX1_partAt_23 ?_
      obtain ⟨a_8, ea_8, h⟩ := x_some_e h
      refine ev_at (st' := [va_rf (some a_8), va_rf (some a0)]) rfl (by rw [ea_8]) ?_
      obtain ⟨c_9, h⟩ := x_chk_e h
      refine ev_get (C := RX4) (T := TX4) (k := 0) inX4 (xE_5 c_9) rfl (by decide) wd_67 (Or.inl rfl) rfl dX1_partAt_24 ?_
      rcases x_bind_e h with ⟨v_10, σ_11, h_12, h⟩ | ⟨E_13, σ_11, h_12, h⟩
      · have z9 := x_call (M := mX1_partAt) (M' := mX1_linkTo) (pc := 27) (st := [.long (σ.J 400 a_8), va_rf (some a0)]) (rest := []) (av := [va_rf (some a0), .long (σ.J 400 a_8)]) (x_linkV (M := mX1_partAt) (M' := mX1_linkTo) (As := [.long (σ.J 400 a_8)]) (index := 66) (C := RX1) (T := TX1) (xE_2 c_1) rfl wd_70 wd_71 wd_69 xw_X1_linkTo rfl (by decide) rfl rfl dX1_partAt_27) (ev_X1_linkTo hO hP h_12) xw_X1_linkTo rfl wd_53 dX1_partAt_27 (by decide) (by decide) (by simp [x_cat, x_catI, x_catJ])
        refine x_callR z9 ?_
        refine ev_at (st' := [va_rf v_10]) rfl rfl ?_
        refine ev_goto (tgt := 39) dX1_partAt_30 (by decide) ?_
        exact ev_sub [] rfl (ev_X1_partAt_p39 hO hP h)
      · have z9 := x_call (M := mX1_partAt) (M' := mX1_linkTo) (pc := 27) (st := [.long (σ.J 400 a_8), va_rf (some a0)]) (rest := []) (av := [va_rf (some a0), .long (σ.J 400 a_8)]) (x_linkV (M := mX1_partAt) (M' := mX1_linkTo) (As := [.long (σ.J 400 a_8)]) (index := 66) (C := RX1) (T := TX1) (xE_2 c_1) rfl wd_70 wd_71 wd_69 xw_X1_linkTo rfl (by decide) rfl rfl dX1_partAt_27) (ev_X1_linkTo hO hP h_12) xw_X1_linkTo rfl wd_53 dX1_partAt_27 (by decide) (by decide) (by simp [x_cat, x_catI, x_catJ])
        cases h
        exact x_callX z9 (evX_out rfl)
set_option maxHeartbeats 4000000 in
set_option maxRecDepth 100000 in
theorem ev_X11_joined_p77 {l : Launch} {G : xG} (hO : x_OK l G) {P : xP} (hP : x_PG P G) {a0 : Nat} {s0 : Int32} {σ σ' : xS} {rr : Int32 ⊕ String} (h : dm_X11_joined_p77 P a0 s0 σ = some (rr, σ')) : Ev l G mX11_joined 77 [] [.int s0] σ (xrI rr) σ' := by
  unfold dm_X11_joined_p77 at h
  cases h
  exact ev_iret rfl rfl dX11_joined_77
set_option maxHeartbeats 4000000 in
set_option maxRecDepth 100000 in
theorem ev_X11_joined_p50 {l : Launch} {G : xG} (hO : x_OK l G) {P : xP} (hP : x_PG P G) {a0 : Nat} {v3 : Int32} {v4 : Int32} {v5 : Option Nat} {s0 : Int32} {σ σ' : xS} {rr : Int32 ⊕ String} (h : dm_X11_joined_p50 P a0 v3 v4 v5 s0 σ = some (rr, σ')) : Ev l G mX11_joined 50 [(3, .int v3), (4, .int v4), (5, va_rf v5)] [.int s0] σ (xrI rr) σ' := by
  unfold dm_X11_joined_p50 at h
  rcases x_bind_e h with ⟨v_1, σ_2, h_3, h⟩ | ⟨E_17, σ_2, h_3, h⟩
  · have z9 := x_call (M := mX11_joined) (M' := mX11_refuseUnless) (pc := 50) (st := [.int s0]) (rest := []) (av := [.int s0]) (x_linkS (M := mX11_joined) (M' := mX11_refuseUnless) (As := [.int s0]) (index := 57) wd_3 wd_4 wd_5 xw_X11_refuseUnless rfl ⟨_, _, _, Or.inl wd_2⟩ (by decide) rfl rfl dX11_joined_50) (ev_X11_refuseUnless hO hP h_3) xw_X11_refuseUnless rfl wd_5 dX11_joined_50 (by decide) (by decide) (by simp [x_cat, x_catI, x_catJ])
    refine x_callR z9 ?_
    refine ev_at (st' := []) rfl rfl ?_
    refine ev_aload (j := 2) (x := v5) dX11_joined_53 rfl ?_
    refine ev_iload_n (j := 0) (x := v3) dX11_joined_55 rfl rfl ?_
    obtain ⟨a_4, ea_4, h⟩ := x_some_e h
    refine ev_at (st' := [.int v3, va_rf (some a_4)]) rfl (by rw [ea_4]) ?_
    obtain ⟨c_8, h⟩ := x_chk_e h
    rcases x_bind_e h with ⟨v_5, σ_6, h_7, h⟩ | ⟨E_16, σ_6, h_7, h⟩
    · have z9 := x_call (M := mX11_joined) (M' := mX1_partAt) (pc := 56) (st := [.int v3, va_rf (some a_4)]) (rest := []) (av := [va_rf (some a_4), .int v3]) (x_linkV (M := mX11_joined) (M' := mX1_partAt) (As := [.int v3]) (index := 146) (C := RX1) (T := TX1) (xE_2 c_8) rfl wd_78 wd_79 wd_77 xw_X1_partAt rfl (by decide) rfl rfl dX11_joined_56) (ev_X1_partAt hO hP h_7) xw_X1_partAt rfl wd_53 dX11_joined_56 (by decide) (by decide) (by simp [x_cat, x_catI, x_catJ])
      refine x_callR z9 ?_
      refine ev_at (st' := [va_rf v_5]) rfl rfl ?_
      refine ev_astore (i := 6) (lv' := [(6, va_rf v_5), (3, .int v3), (4, .int v4), (5, va_rf v5)]) dX11_joined_59 (by decide) (by simp [x_cat, x_catI, x_catJ]) ?_
      refine ev_aload (j := 0) (x := v_5) dX11_joined_61 rfl ?_
      by_cases c_9 : v_5 = none
      · rw [if_pos c_9] at h
        refine ev_ifnonnull (x := v_5) (tgt := 70) dX11_joined_63 (by decide) (fun q9 => absurd c_9 q9) (fun _ => ?_)
        refine ev_iconst (v := -1) dX11_joined_66 (by decide) ?_
        refine ev_goto (tgt := 77) dX11_joined_67 (by decide) ?_
        exact ev_sub [] rfl (ev_X11_joined_p77 hO hP h)
      · rw [if_neg c_9] at h
        refine ev_ifnonnull (x := v_5) (tgt := 70) dX11_joined_63 (by decide) (fun _ => ?_) (fun q9 => absurd q9 c_9)
        refine ev_aload (j := 0) (x := v_5) dX11_joined_70 rfl ?_
        refine ev_iload (j := 2) (x := v4) dX11_joined_72 rfl ?_
        obtain ⟨a_10, ea_10, h⟩ := x_some_e h
        refine ev_at (st' := [.int v4, va_rf (some a_10)]) rfl (by rw [ea_10]) ?_
        obtain ⟨c_14, h⟩ := x_chk_e h
        rcases x_bind_e h with ⟨v_11, σ_12, h_13, h⟩ | ⟨E_15, σ_12, h_13, h⟩
        · have z9 := x_call (M := mX11_joined) (M' := mX6_bitAt) (pc := 74) (st := [.int v4, va_rf (some a_10)]) (rest := []) (av := [va_rf (some a_10), .int v4]) (x_linkV (M := mX11_joined) (M' := mX6_bitAt) (As := [.int v4]) (index := 150) (C := RX6) (T := TX6) (xE_7 c_14) rfl wd_25 wd_26 wd_24 xw_X6_bitAt rfl (by decide) rfl rfl dX11_joined_74) (ev_X6_bitAt hO hP h_13) xw_X6_bitAt rfl wd_22 dX11_joined_74 (by decide) (by decide) (by simp [x_cat, x_catI, x_catJ])
          refine x_callR z9 ?_
          refine ev_at (st' := [.int v_11]) rfl rfl ?_
          exact ev_sub [] rfl (ev_X11_joined_p77 hO hP h)
        · have z9 := x_call (M := mX11_joined) (M' := mX6_bitAt) (pc := 74) (st := [.int v4, va_rf (some a_10)]) (rest := []) (av := [va_rf (some a_10), .int v4]) (x_linkV (M := mX11_joined) (M' := mX6_bitAt) (As := [.int v4]) (index := 150) (C := RX6) (T := TX6) (xE_7 c_14) rfl wd_25 wd_26 wd_24 xw_X6_bitAt rfl (by decide) rfl rfl dX11_joined_74) (ev_X6_bitAt hO hP h_13) xw_X6_bitAt rfl wd_22 dX11_joined_74 (by decide) (by decide) (by simp [x_cat, x_catI, x_catJ])
          cases h
          exact x_callX z9 (evX_out rfl)
    · have z9 := x_call (M := mX11_joined) (M' := mX1_partAt) (pc := 56) (st := [.int v3, va_rf (some a_4)]) (rest := []) (av := [va_rf (some a_4), .int v3]) (x_linkV (M := mX11_joined) (M' := mX1_partAt) (As := [.int v3]) (index := 146) (C := RX1) (T := TX1) (xE_2 c_8) rfl wd_78 wd_79 wd_77 xw_X1_partAt rfl (by decide) rfl rfl dX11_joined_56) (ev_X1_partAt hO hP h_7) xw_X1_partAt rfl wd_53 dX11_joined_56 (by decide) (by decide) (by simp [x_cat, x_catI, x_catJ])
      cases h
      exact x_callX z9 (evX_out rfl)
  · have z9 := x_call (M := mX11_joined) (M' := mX11_refuseUnless) (pc := 50) (st := [.int s0]) (rest := []) (av := [.int s0]) (x_linkS (M := mX11_joined) (M' := mX11_refuseUnless) (As := [.int s0]) (index := 57) wd_3 wd_4 wd_5 xw_X11_refuseUnless rfl ⟨_, _, _, Or.inl wd_2⟩ (by decide) rfl rfl dX11_joined_50) (ev_X11_refuseUnless hO hP h_3) xw_X11_refuseUnless rfl wd_5 dX11_joined_50 (by decide) (by decide) (by simp [x_cat, x_catI, x_catJ])
    cases h
    exact x_callX z9 (evX_out rfl)
set_option maxHeartbeats 4000000 in
set_option maxRecDepth 100000 in
theorem ev_X11_joined_p49 {l : Launch} {G : xG} (hO : x_OK l G) {P : xP} (hP : x_PG P G) {a0 : Nat} {v3 : Int32} {v4 : Int32} {v5 : Option Nat} {σ σ' : xS} {rr : Int32 ⊕ String} (h : dm_X11_joined_p49 P a0 v3 v4 v5 σ = some (rr, σ')) : Ev l G mX11_joined 49 [(3, .int v3), (4, .int v4), (5, va_rf v5)] [] σ (xrI rr) σ' := by
  unfold dm_X11_joined_p49 at h
  refine ev_iconst (v := 0) dX11_joined_49 (by decide) ?_
  exact ev_sub [0, 1, 2] rfl (ev_X11_joined_p50 hO hP h)
set_option maxHeartbeats 4000000 in
set_option maxRecDepth 100000 in
theorem ev_X11_joined_p26 {l : Launch} {G : xG} (hO : x_OK l G) {P : xP} (hP : x_PG P G) {a0 : Nat} {v3 : Int32} {v4 : Int32} {v5 : Option Nat} {s0 : Int32} {σ σ' : xS} {rr : Int32 ⊕ String} (h : dm_X11_joined_p26 P a0 v3 v4 v5 s0 σ = some (rr, σ')) : Ev l G mX11_joined 26 [(3, .int v3), (4, .int v4), (5, va_rf v5)] [.int s0] σ (xrI rr) σ' := by
  unfold dm_X11_joined_p26 at h
  rcases x_bind_e h with ⟨v_1, σ_2, h_3, h⟩ | ⟨E_12, σ_2, h_3, h⟩
  · have z9 := x_call (M := mX11_joined) (M' := mX11_refuseUnless) (pc := 26) (st := [.int s0]) (rest := []) (av := [.int s0]) (x_linkS (M := mX11_joined) (M' := mX11_refuseUnless) (As := [.int s0]) (index := 57) wd_3 wd_4 wd_5 xw_X11_refuseUnless rfl ⟨_, _, _, Or.inl wd_2⟩ (by decide) rfl rfl dX11_joined_26) (ev_X11_refuseUnless hO hP h_3) xw_X11_refuseUnless rfl wd_5 dX11_joined_26 (by decide) (by decide) (by simp [x_cat, x_catI, x_catJ])
    refine x_callR z9 ?_
    refine ev_at (st' := []) rfl rfl ?_
    refine ev_iload (j := 1) (x := v4) dX11_joined_29 rfl ?_
    by_cases c_4 : v4 < 0
    · rw [if_pos c_4] at h
      refine ev_if_lt (x := v4) (tgt := 49) dX11_joined_31 (by decide) (fun _ => ?_) (fun q9 => absurd c_4 q9)
      exact ev_sub [0, 1, 2] rfl (ev_X11_joined_p49 hO hP h)
    · rw [if_neg c_4] at h
      refine ev_if_lt (x := v4) (tgt := 49) dX11_joined_31 (by decide) (fun q9 => absurd q9 c_4) (fun _ => ?_)
      refine ev_iload (j := 1) (x := v4) dX11_joined_34 rfl ?_
      refine ev_aload (j := 2) (x := v5) dX11_joined_36 rfl ?_
      refine ev_iload_n (j := 0) (x := v3) dX11_joined_38 rfl rfl ?_
      obtain ⟨a_5, ea_5, h⟩ := x_some_e h
      refine ev_at (st' := [.int v3, va_rf (some a_5), .int v4]) rfl (by rw [ea_5]) ?_
      obtain ⟨c_9, h⟩ := x_chk_e h
      rcases x_bind_e h with ⟨v_6, σ_7, h_8, h⟩ | ⟨E_11, σ_7, h_8, h⟩
      · have z9 := x_call (M := mX11_joined) (M' := mX1_pinWidth) (pc := 39) (st := [.int v3, va_rf (some a_5), .int v4]) (rest := [.int v4]) (av := [va_rf (some a_5), .int v3]) (x_linkV (M := mX11_joined) (M' := mX1_pinWidth) (As := [.int v3]) (index := 142) (C := RX1) (T := TX1) (xE_2 c_9) rfl wd_74 wd_75 wd_73 xw_X1_pinWidth rfl (by decide) rfl rfl dX11_joined_39) (ev_X1_pinWidth hO hP h_8) xw_X1_pinWidth rfl wd_53 dX11_joined_39 (by decide) (by decide) (by simp [x_cat, x_catI, x_catJ])
        refine x_callR z9 ?_
        refine ev_at (st' := [.int v_6, .int v4]) rfl rfl ?_
        by_cases c_10 : v_6 ≤ v4
        · rw [if_pos c_10] at h
          refine ev_icmp_ge (x := v4) (y := v_6) (tgt := 49) dX11_joined_42 (by decide) (fun _ => ?_) (fun q9 => absurd c_10 q9)
          exact ev_sub [0, 1, 2] rfl (ev_X11_joined_p49 hO hP h)
        · rw [if_neg c_10] at h
          refine ev_icmp_ge (x := v4) (y := v_6) (tgt := 49) dX11_joined_42 (by decide) (fun q9 => absurd q9 c_10) (fun _ => ?_)
          refine ev_iconst (v := 1) dX11_joined_45 (by decide) ?_
          refine ev_goto (tgt := 50) dX11_joined_46 (by decide) ?_
          exact ev_sub [0, 1, 2] rfl (ev_X11_joined_p50 hO hP h)
      · have z9 := x_call (M := mX11_joined) (M' := mX1_pinWidth) (pc := 39) (st := [.int v3, va_rf (some a_5), .int v4]) (rest := [.int v4]) (av := [va_rf (some a_5), .int v3]) (x_linkV (M := mX11_joined) (M' := mX1_pinWidth) (As := [.int v3]) (index := 142) (C := RX1) (T := TX1) (xE_2 c_9) rfl wd_74 wd_75 wd_73 xw_X1_pinWidth rfl (by decide) rfl rfl dX11_joined_39) (ev_X1_pinWidth hO hP h_8) xw_X1_pinWidth rfl wd_53 dX11_joined_39 (by decide) (by decide) (by simp [x_cat, x_catI, x_catJ])
        cases h
        exact x_callX z9 (evX_out rfl)
  · have z9 := x_call (M := mX11_joined) (M' := mX11_refuseUnless) (pc := 26) (st := [.int s0]) (rest := []) (av := [.int s0]) (x_linkS (M := mX11_joined) (M' := mX11_refuseUnless) (As := [.int s0]) (index := 57) wd_3 wd_4 wd_5 xw_X11_refuseUnless rfl ⟨_, _, _, Or.inl wd_2⟩ (by decide) rfl rfl dX11_joined_26) (ev_X11_refuseUnless hO hP h_3) xw_X11_refuseUnless rfl wd_5 dX11_joined_26 (by decide) (by decide) (by simp [x_cat, x_catI, x_catJ])
    cases h
    exact x_callX z9 (evX_out rfl)
set_option maxHeartbeats 4000000 in
set_option maxRecDepth 100000 in
theorem ev_X11_joined_p25 {l : Launch} {G : xG} (hO : x_OK l G) {P : xP} (hP : x_PG P G) {a0 : Nat} {v3 : Int32} {v4 : Int32} {v5 : Option Nat} {σ σ' : xS} {rr : Int32 ⊕ String} (h : dm_X11_joined_p25 P a0 v3 v4 v5 σ = some (rr, σ')) : Ev l G mX11_joined 25 [(3, .int v3), (4, .int v4), (5, va_rf v5)] [] σ (xrI rr) σ' := by
  unfold dm_X11_joined_p25 at h
  refine ev_iconst (v := 0) dX11_joined_25 (by decide) ?_
  exact ev_sub [0, 1, 2] rfl (ev_X11_joined_p26 hO hP h)
set_option maxHeartbeats 4000000 in
set_option maxRecDepth 100000 in
theorem ev_X11_joined {l : Launch} {G : xG} (hO : x_OK l G) {P : xP} (hP : x_PG P G) {a0 : Nat} {v1 : Int32} {v2 : Int32} {v3 : Int32} {v4 : Int32} {σ σ' : xS} {rr : Int32 ⊕ String} (h : dm_X11_joined P a0 v1 v2 v3 v4 σ = some (rr, σ')) : EvM l G mX11_joined [va_rf (some a0), .int v1, .int v2, .int v3, .int v4] σ (xrI rr) σ' := by
  unfold dm_X11_joined at h
  refine evM_of hO (by decide +kernel) (x_lenI (by simp [x_cat, x_catI, x_catJ, mX11_joined, xM.maxL])) ?_
  refine Eq.mp (congrArg (fun z => Ev l G mX11_joined 0 z [] σ (xrI rr) σ') (show [(0, va_rf (some a0)), (1, .int v1), (2, .int v2), (3, .int v3), (4, .int v4)] = lv_args 0 [va_rf (some a0), .int v1, .int v2, .int v3, .int v4] by simp [lv_args, x_cat, x_catI, x_catJ])) ?_
  refine ev_aload_n (j := 0) (x := (some a0)) dX11_joined_0 rfl rfl ?_
  refine ev_iload_n (j := 1) (x := v1) dX11_joined_1 rfl rfl ?_
  refine ev_iload_n (j := 2) (x := v2) dX11_joined_2 rfl rfl ?_
  obtain ⟨c_4, h⟩ := x_chk_e h
  rcases x_bind_e h with ⟨v_1, σ_2, h_3, h⟩ | ⟨E_13, σ_2, h_3, h⟩
  · have z9 := x_call (M := mX11_joined) (M' := mX11_instanceAt) (pc := 3) (st := [.int v2, .int v1, va_rf (some a0)]) (rest := []) (av := [va_rf (some a0), .int v1, .int v2]) (x_linkV (M := mX11_joined) (M' := mX11_instanceAt) (As := [.int v1, .int v2]) (index := 119) (C := RX11) (T := TX11) (xE_11 c_4) rfl wd_45 wd_46 (wG_in (List.mem_append_left _ (List.mem_of_getElem? (i := 20) rfl)) rfl) xw_X11_instanceAt rfl (by decide) rfl rfl dX11_joined_3) (ev_X11_instanceAt hO hP h_3) xw_X11_instanceAt rfl wd_5 dX11_joined_3 (by decide) (by decide) (by simp [x_cat, x_catI, x_catJ])
    refine x_callR z9 ?_
    refine ev_at (st' := [va_rf v_1]) rfl rfl ?_
    refine ev_astore (i := 5) (lv' := [(5, va_rf v_1), (0, va_rf (some a0)), (1, .int v1), (2, .int v2), (3, .int v3), (4, .int v4)]) dX11_joined_6 (by decide) rfl ?_
    refine ev_iload_n (j := 4) (x := v3) dX11_joined_8 rfl rfl ?_
    by_cases c_5 : v3 < 0
    · rw [if_pos c_5] at h
      refine ev_if_lt (x := v3) (tgt := 25) dX11_joined_9 (by decide) (fun _ => ?_) (fun q9 => absurd c_5 q9)
      exact ev_sub [4, 5, 0] rfl (ev_X11_joined_p25 hO hP h)
    · rw [if_neg c_5] at h
      refine ev_if_lt (x := v3) (tgt := 25) dX11_joined_9 (by decide) (fun q9 => absurd q9 c_5) (fun _ => ?_)
      refine ev_iload_n (j := 4) (x := v3) dX11_joined_12 rfl rfl ?_
      refine ev_aload (j := 0) (x := v_1) dX11_joined_13 rfl ?_
      obtain ⟨a_6, ea_6, h⟩ := x_some_e h
      refine ev_at (st' := [va_rf (some a_6), .int v3]) rfl (by rw [ea_6]) ?_
      obtain ⟨c_10, h⟩ := x_chk_e h
      rcases x_bind_e h with ⟨v_7, σ_8, h_9, h⟩ | ⟨E_12, σ_8, h_9, h⟩
      · have z9 := x_call (M := mX11_joined) (M' := mX1_pinCount) (pc := 15) (st := [va_rf (some a_6), .int v3]) (rest := [.int v3]) (av := [va_rf (some a_6)]) (x_linkV (M := mX11_joined) (M' := mX1_pinCount) (As := []) (index := 132) (C := RX1) (T := TX1) (xE_2 c_10) rfl wd_51 wd_52 wd_50 xw_X1_pinCount rfl (by decide) rfl rfl dX11_joined_15) (ev_X1_pinCount hO hP h_9) xw_X1_pinCount rfl wd_53 dX11_joined_15 (by decide) (by decide) (by simp [x_cat, x_catI, x_catJ])
        refine x_callR z9 ?_
        refine ev_at (st' := [.int v_7, .int v3]) rfl rfl ?_
        by_cases c_11 : v_7 ≤ v3
        · rw [if_pos c_11] at h
          refine ev_icmp_ge (x := v3) (y := v_7) (tgt := 25) dX11_joined_18 (by decide) (fun _ => ?_) (fun q9 => absurd c_11 q9)
          exact ev_sub [4, 5, 0] rfl (ev_X11_joined_p25 hO hP h)
        · rw [if_neg c_11] at h
          refine ev_icmp_ge (x := v3) (y := v_7) (tgt := 25) dX11_joined_18 (by decide) (fun q9 => absurd q9 c_11) (fun _ => ?_)
          refine ev_iconst (v := 1) dX11_joined_21 (by decide) ?_
          refine ev_goto (tgt := 26) dX11_joined_22 (by decide) ?_
          exact ev_sub [4, 5, 0] rfl (ev_X11_joined_p26 hO hP h)
      · have z9 := x_call (M := mX11_joined) (M' := mX1_pinCount) (pc := 15) (st := [va_rf (some a_6), .int v3]) (rest := [.int v3]) (av := [va_rf (some a_6)]) (x_linkV (M := mX11_joined) (M' := mX1_pinCount) (As := []) (index := 132) (C := RX1) (T := TX1) (xE_2 c_10) rfl wd_51 wd_52 wd_50 xw_X1_pinCount rfl (by decide) rfl rfl dX11_joined_15) (ev_X1_pinCount hO hP h_9) xw_X1_pinCount rfl wd_53 dX11_joined_15 (by decide) (by decide) (by simp [x_cat, x_catI, x_catJ])
        cases h
        exact x_callX z9 (evX_out rfl)
  · have z9 := x_call (M := mX11_joined) (M' := mX11_instanceAt) (pc := 3) (st := [.int v2, .int v1, va_rf (some a0)]) (rest := []) (av := [va_rf (some a0), .int v1, .int v2]) (x_linkV (M := mX11_joined) (M' := mX11_instanceAt) (As := [.int v1, .int v2]) (index := 119) (C := RX11) (T := TX11) (xE_11 c_4) rfl wd_45 wd_46 (wG_in (List.mem_append_left _ (List.mem_of_getElem? (i := 20) rfl)) rfl) xw_X11_instanceAt rfl (by decide) rfl rfl dX11_joined_3) (ev_X11_instanceAt hO hP h_3) xw_X11_instanceAt rfl wd_5 dX11_joined_3 (by decide) (by decide) (by simp [x_cat, x_catI, x_catJ])
    cases h
    exact x_callX z9 (evX_out rfl)
set_option maxHeartbeats 4000000 in
set_option maxRecDepth 100000 in
theorem ev_L_joined {l : Launch} {G : xG} (hO : x_OK l G) {P : xP} (hP : x_PG P G) {v0 : Option Nat} {v1 : Int32} {v2 : Int32} {v3 : Int32} {v4 : Int32} {v5 : Option Nat} {σ σ' : xS} {rr : Int32 ⊕ String} (h : dm_L_joined P v0 v1 v2 v3 v4 v5 σ = some (rr, σ')) : EvM l G mL_joined [va_rf v0, .int v1, .int v2, .int v3, .int v4, va_rf v5] σ (xrI rr) σ' := by
  unfold dm_L_joined at h
  refine evM_of hO (by decide +kernel) (x_lenI (by simp [x_cat, x_catI, x_catJ, mL_joined, xM.maxL])) ?_
  refine Eq.mp (congrArg (fun z => Ev l G mL_joined 0 z [] σ (xrI rr) σ') (show [(0, va_rf v0), (1, .int v1), (2, .int v2), (3, .int v3), (4, .int v4), (5, va_rf v5)] = lv_args 0 [va_rf v0, .int v1, .int v2, .int v3, .int v4, va_rf v5] by simp [lv_args, x_cat, x_catI, x_catJ])) ?_
  refine ev_aload (j := 5) (x := v5) dL_joined_0 rfl ?_
  refine ev_iconst (v := 0) dL_joined_2 (by decide) ?_
  refine ev_aload_n (j := 0) (x := v0) dL_joined_3 rfl rfl ?_
  refine ev_iload_n (j := 1) (x := v1) dL_joined_4 rfl rfl ?_
  refine ev_iload_n (j := 2) (x := v2) dL_joined_5 rfl rfl ?_
  refine ev_iload_n (j := 3) (x := v3) dL_joined_6 rfl rfl ?_
  refine ev_iload (j := 4) (x := v4) dL_joined_7 rfl ?_
  obtain ⟨a_1, ea_1, h⟩ := x_some_e h
  refine ev_at (st' := [.int v4, .int v3, .int v2, .int v1, va_rf (some a_1), .int 0, va_rf v5]) rfl (by rw [ea_1]) ?_
  obtain ⟨c_5, h⟩ := x_chk_e h
  rcases x_bind_e h with ⟨v_2, σ_3, h_4, h⟩ | ⟨E_9, σ_3, h_4, h⟩
  · have z9 := x_call (M := mL_joined) (M' := mX11_joined) (pc := 9) (st := [.int v4, .int v3, .int v2, .int v1, va_rf (some a_1), .int 0, va_rf v5]) (rest := [.int 0, va_rf v5]) (av := [va_rf (some a_1), .int v1, .int v2, .int v3, .int v4]) (x_linkV (M := mL_joined) (M' := mX11_joined) (As := [.int v1, .int v2, .int v3, .int v4]) (index := 26) (C := RX11) (T := TX11) (xE_11 c_5) rfl wd_82 wd_83 wd_81 xw_X11_joined rfl (by decide) rfl rfl dL_joined_9) (ev_X11_joined hO hP h_4) xw_X11_joined rfl wd_5 dL_joined_9 (by decide) (by decide) (by simp [x_cat, x_catI, x_catJ])
    refine x_callR z9 ?_
    refine ev_at (st' := [.int v_2, .int 0, va_rf v5]) rfl rfl ?_
    refine ev_i2l (x := v_2) dL_joined_12 ?_
    obtain ⟨a_6, ea_6, h⟩ := x_some_e h
    refine ev_at (st' := [.long (Int32.toInt64 v_2), .int 0, va_rf (some a_6)]) rfl (by rw [ea_6]) ?_
    obtain ⟨c_7, h⟩ := x_chk_e h
    obtain ⟨σ_8, eσ_8, h⟩ := x_let_e h
    refine ev_last_42 c_7.1 c_7.2.1 (hP.2.2.2.1 ▸ c_7.2.2) dL_joined_13 (eσ_8 ▸ ?_)
    refine ev_goto (tgt := 21) dL_joined_14 (by decide) ?_
    refine ev_iconst (v := 0) dL_joined_21 (by decide) ?_
    cases h
    exact ev_iret rfl rfl dL_joined_22
  · have z9 := x_call (M := mL_joined) (M' := mX11_joined) (pc := 9) (st := [.int v4, .int v3, .int v2, .int v1, va_rf (some a_1), .int 0, va_rf v5]) (rest := [.int 0, va_rf v5]) (av := [va_rf (some a_1), .int v1, .int v2, .int v3, .int v4]) (x_linkV (M := mL_joined) (M' := mX11_joined) (As := [.int v1, .int v2, .int v3, .int v4]) (index := 26) (C := RX11) (T := TX11) (xE_11 c_5) rfl wd_82 wd_83 wd_81 xw_X11_joined rfl (by decide) rfl rfl dL_joined_9) (ev_X11_joined hO hP h_4) xw_X11_joined rfl wd_5 dL_joined_9 (by decide) (by decide) (by simp [x_cat, x_catI, x_catJ])
    obtain ⟨c_11, h9⟩ := x_chk_e h
    clear h
    subst c_11
    have h := h9
    clear h9
    refine x_callX z9 (evX_catch (name := "java/lang/IndexOutOfBoundsException") (x := (0, 14, 17, 13)) (xs := []) rfl (by decide) (by decide) wd_31 wd_32 (fun q_10 => ?_))
    refine ev_astore (i := 6) (lv' := [(6, va_rf (some q_10)), (0, va_rf v0), (1, .int v1), (2, .int v2), (3, .int v3), (4, .int v4), (5, va_rf v5)]) dL_joined_17 (by decide) (by simp [x_cat, x_catI, x_catJ]) ?_
    refine ev_iconst (v := 1) dL_joined_19 (by decide) ?_
    cases h
    exact ev_iret rfl rfl dL_joined_20
set_option maxHeartbeats 4000000 in
set_option maxRecDepth 100000 in
theorem ev_X10_init {l : Launch} {G : xG} (hO : x_OK l G) {P : xP} (hP : x_PG P G) {a0 : Nat} {σ σ' : xS} {rr : Unit ⊕ String} (h : dm_X10_init P a0 σ = some (rr, σ')) : EvM l G mX10_init [va_rf (some a0)] σ (xrV rr) σ' := by
  unfold dm_X10_init at h
  refine evM_of hO (by decide +kernel) (x_lenI (by simp [x_cat, x_catI, x_catJ, mX10_init, xM.maxL])) ?_
  refine Eq.mp (congrArg (fun z => Ev l G mX10_init 0 z [] σ (xrV rr) σ') (show [(0, va_rf (some a0))] = lv_args 0 [va_rf (some a0)] by simp [lv_args, x_cat, x_catI, x_catJ])) ?_
  refine ev_aload_n (j := 0) (x := (some a0)) dX10_init_0 rfl rfl ?_
  refine ev_objInit wd_84 wd_85 wd_86 dX10_init_1 (by decide) (by decide) ?_
  refine ev_aload_n (j := 0) (x := (some a0)) dX10_init_4 rfl rfl ?_
  refine ev_sipush (v := 1000) dX10_init_5 (by decide) ?_
  obtain ⟨c_1, h⟩ := x_chk_e h
  obtain ⟨σ_2, eσ_2, h⟩ := x_let_e h
  refine ev_newaI (k := 20) (kc := 20) (t0 := 0) (ty := .char) (by decide) (fun _ => rfl) rfl rfl (fun _ h9 => by cases h9) wd_87 c_1.1 c_1.2.1 (by decide) (hP.2.1 ▸ c_1.2.2.1) (hP.2.2.1 ▸ c_1.2.2.2) dX10_init_8 (eσ_2 ▸ ?_)
  obtain ⟨c_3, h⟩ := x_chk_e h
  obtain ⟨σ_4, eσ_4, h⟩ := x_let_e h
  refine ev_putF (σ2 := σ_4) (C := RX10) (T := TX10) (k := 0) inX10 tyX10 tyX10_ok nmX10 (xE_10 c_3.1) rfl (by decide) wd_88 (Or.inl rfl) rfl rfl rfl rfl (x_refN _) (x_refFA _) (Nat.le_of_ble_eq_true rfl) (hP.2.2.2.1 ▸ c_3.2) (by rw [eσ_4]; exact xP_10_0 _ c_3.1) (by rw [eσ_4]; exact xPut_R) dX10_init_10 ?_
  refine ev_aload_n (j := 0) (x := (some a0)) dX10_init_13 rfl rfl ?_
  refine ev_iconst (v := 0) dX10_init_14 (by decide) ?_
  obtain ⟨c_5, h⟩ := x_chk_e h
  obtain ⟨σ_6, eσ_6, h⟩ := x_let_e h
  refine ev_put (σ2 := σ_6) (C := RX10) (T := TX10) (k := 1) inX10 tyX10 tyX10_ok nmX10 (xE_10 c_5.1) rfl (by decide) wd_89 (Or.inl rfl) rfl rfl rfl rfl (Nat.le_of_ble_eq_true rfl) (hP.2.2.2.1 ▸ c_5.2) (by rw [eσ_6]; exact xP_10_1 _ c_5.1) (by rw [eσ_6]; exact xPut_I) dX10_init_15 ?_
  refine ev_aload_n (j := 0) (x := (some a0)) dX10_init_18 rfl rfl ?_
  refine ev_sipush (v := 1001) dX10_init_19 (by decide) ?_
  obtain ⟨c_7, h⟩ := x_chk_e h
  obtain ⟨σ_8, eσ_8, h⟩ := x_let_e h
  refine ev_newaI (k := 21) (kc := 21) (t0 := 1) (ty := .int) (by decide) (fun _ => rfl) rfl rfl (fun _ h9 => by cases h9) wd_90 c_7.1 c_7.2.1 (by decide) (hP.2.1 ▸ c_7.2.2.1) (hP.2.2.1 ▸ c_7.2.2.2) dX10_init_22 (eσ_8 ▸ ?_)
  obtain ⟨c_9, h⟩ := x_chk_e h
  obtain ⟨σ_10, eσ_10, h⟩ := x_let_e h
  refine ev_putF (σ2 := σ_10) (C := RX10) (T := TX10) (k := 2) inX10 tyX10 tyX10_ok nmX10 (xE_10 c_9.1) rfl (by decide) wd_91 (Or.inl rfl) rfl rfl rfl rfl (x_refN _) (x_refFA _) (Nat.le_of_ble_eq_true rfl) (hP.2.2.2.1 ▸ c_9.2) (by rw [eσ_10]; exact xP_10_2 _ c_9.1) (by rw [eσ_10]; exact xPut_R) dX10_init_24 ?_
  refine ev_aload_n (j := 0) (x := (some a0)) dX10_init_27 rfl rfl ?_
  refine ev_sipush (v := 1001) dX10_init_28 (by decide) ?_
  obtain ⟨c_11, h⟩ := x_chk_e h
  obtain ⟨σ_12, eσ_12, h⟩ := x_let_e h
  refine ev_newaI (k := 21) (kc := 21) (t0 := 1) (ty := .int) (by decide) (fun _ => rfl) rfl rfl (fun _ h9 => by cases h9) wd_90 c_11.1 c_11.2.1 (by decide) (hP.2.1 ▸ c_11.2.2.1) (hP.2.2.1 ▸ c_11.2.2.2) dX10_init_31 (eσ_12 ▸ ?_)
  obtain ⟨c_13, h⟩ := x_chk_e h
  obtain ⟨σ_14, eσ_14, h⟩ := x_let_e h
  refine ev_putF (σ2 := σ_14) (C := RX10) (T := TX10) (k := 3) inX10 tyX10 tyX10_ok nmX10 (xE_10 c_13.1) rfl (by decide) wd_92 (Or.inl rfl) rfl rfl rfl rfl (x_refN _) (x_refFA _) (Nat.le_of_ble_eq_true rfl) (hP.2.2.2.1 ▸ c_13.2) (by rw [eσ_14]; exact xP_10_3 _ c_13.1) (by rw [eσ_14]; exact xPut_R) dX10_init_33 ?_
  refine ev_aload_n (j := 0) (x := (some a0)) dX10_init_36 rfl rfl ?_
  refine ev_sipush (v := 1001) dX10_init_37 (by decide) ?_
  obtain ⟨c_15, h⟩ := x_chk_e h
  obtain ⟨σ_16, eσ_16, h⟩ := x_let_e h
  refine ev_newaJ (k := 22) (by decide) wd_93 c_15.1 c_15.2.1 (hP.2.1 ▸ c_15.2.2.1) (hP.2.2.1 ▸ c_15.2.2.2) dX10_init_40 (eσ_16 ▸ ?_)
  obtain ⟨c_17, h⟩ := x_chk_e h
  obtain ⟨σ_18, eσ_18, h⟩ := x_let_e h
  refine ev_putF (σ2 := σ_18) (C := RX10) (T := TX10) (k := 4) inX10 tyX10 tyX10_ok nmX10 (xE_10 c_17.1) rfl (by decide) wd_94 (Or.inl rfl) rfl rfl rfl rfl (x_refN _) (x_refFA _) (Nat.le_of_ble_eq_true rfl) (hP.2.2.2.1 ▸ c_17.2) (by rw [eσ_18]; exact xP_10_4 _ c_17.1) (by rw [eσ_18]; exact xPut_R) dX10_init_42 ?_
  refine ev_aload_n (j := 0) (x := (some a0)) dX10_init_45 rfl rfl ?_
  refine ev_iconst (v := 0) dX10_init_46 (by decide) ?_
  obtain ⟨c_19, h⟩ := x_chk_e h
  obtain ⟨σ_20, eσ_20, h⟩ := x_let_e h
  refine ev_put (σ2 := σ_20) (C := RX10) (T := TX10) (k := 5) inX10 tyX10 tyX10_ok nmX10 (xE_10 c_19.1) rfl (by decide) wd_95 (Or.inl rfl) rfl rfl rfl rfl (Nat.le_of_ble_eq_true rfl) (hP.2.2.2.1 ▸ c_19.2) (by rw [eσ_20]; exact xP_10_5 _ c_19.1) (by rw [eσ_20]; exact xPut_I) dX10_init_47 ?_
  refine ev_aload_n (j := 0) (x := (some a0)) dX10_init_50 rfl rfl ?_
  refine ev_iconst (v := 0) dX10_init_51 (by decide) ?_
  obtain ⟨c_21, h⟩ := x_chk_e h
  obtain ⟨σ_22, eσ_22, h⟩ := x_let_e h
  refine ev_put (σ2 := σ_22) (C := RX10) (T := TX10) (k := 6) inX10 tyX10 tyX10_ok nmX10 (xE_10 c_21.1) rfl (by decide) wd_96 (Or.inl rfl) rfl rfl rfl rfl (Nat.le_of_ble_eq_true rfl) (hP.2.2.2.1 ▸ c_21.2) (by rw [eσ_22]; exact xP_10_6 _ c_21.1) (by rw [eσ_22]; exact xPut_I) dX10_init_52 ?_
  cases h
  exact ev_vret rfl dX10_init_55
set_option maxHeartbeats 4000000 in
set_option maxRecDepth 100000 in
theorem ev_X8_init {l : Launch} {G : xG} (hO : x_OK l G) {P : xP} (hP : x_PG P G) {a0 : Nat} {v1 : Option Nat} {σ σ' : xS} {rr : Unit ⊕ String} (h : dm_X8_init P a0 v1 σ = some (rr, σ')) : EvM l G mX8_init [va_rf (some a0), va_rf v1] σ (xrV rr) σ' := by
  unfold dm_X8_init at h
  refine evM_of hO (by decide +kernel) (x_lenI (by simp [x_cat, x_catI, x_catJ, mX8_init, xM.maxL])) ?_
  refine Eq.mp (congrArg (fun z => Ev l G mX8_init 0 z [] σ (xrV rr) σ') (show [(0, va_rf (some a0)), (1, va_rf v1)] = lv_args 0 [va_rf (some a0), va_rf v1] by simp [lv_args, x_cat, x_catI, x_catJ])) ?_
  refine ev_aload_n (j := 0) (x := (some a0)) dX8_init_0 rfl rfl ?_
  refine ev_objInit wd_97 wd_85 wd_86 dX8_init_1 (by decide) (by decide) ?_
  refine ev_aload_n (j := 0) (x := (some a0)) dX8_init_4 rfl rfl ?_
  refine ev_null dX8_init_5 ?_
  obtain ⟨c_1, h⟩ := x_chk_e h
  obtain ⟨σ_2, eσ_2, h⟩ := x_let_e h
  refine x_via (A := Ev l G mX8_init 9 [(0, va_rf (some a0)), (1, va_rf v1)] [] σ_2 (xrV rr) σ') (fun z9 => ?_) ?_
  · rcases c_1.1 with w9 | w9
    · exact ev_put (σ2 := σ_2) (C := RX3) (T := TX3) (k := 1) inX3 tyX3 tyX3_ok nmX3 (xE_4 w9) rfl (by decide) wd_98 (Or.inl rfl) rfl rfl (x_refN _) (x_refF _) (Nat.le_of_ble_eq_true rfl) (hP.2.2.2.1 ▸ c_1.2) (by rw [eσ_2]; exact xP_4_1 _ w9) (by rw [eσ_2]; exact xPut_R) dX8_init_6 z9
    · exact ev_put (σ2 := σ_2) (C := RX9) (T := TX9) (k := 1) inX9 tyX9 tyX9_ok nmX9 (xE_9 w9) rfl (by decide) wd_98 (Or.inl rfl) rfl rfl (x_refN _) (x_refF _) (Nat.le_of_ble_eq_true rfl) (hP.2.2.2.1 ▸ c_1.2) (by rw [eσ_2]; exact xP_9_1 _ w9) (by rw [eσ_2]; exact xPut_R) dX8_init_6 z9
  refine ev_aload_n (j := 0) (x := (some a0)) dX8_init_9 rfl rfl ?_
  refine ev_null dX8_init_10 ?_
  obtain ⟨c_3, h⟩ := x_chk_e h
  obtain ⟨σ_4, eσ_4, h⟩ := x_let_e h
  refine x_via (A := Ev l G mX8_init 14 [(0, va_rf (some a0)), (1, va_rf v1)] [] σ_4 (xrV rr) σ') (fun z9 => ?_) ?_
  · rcases c_3.1 with w9 | w9
    · exact ev_put (σ2 := σ_4) (C := RX3) (T := TX3) (k := 2) inX3 tyX3 tyX3_ok nmX3 (xE_4 w9) rfl (by decide) wd_99 (Or.inl rfl) rfl rfl (x_refN _) (x_refF _) (Nat.le_of_ble_eq_true rfl) (hP.2.2.2.1 ▸ c_3.2) (by rw [eσ_4]; exact xP_4_2 _ w9) (by rw [eσ_4]; exact xPut_R) dX8_init_11 z9
    · exact ev_put (σ2 := σ_4) (C := RX9) (T := TX9) (k := 2) inX9 tyX9 tyX9_ok nmX9 (xE_9 w9) rfl (by decide) wd_99 (Or.inl rfl) rfl rfl (x_refN _) (x_refF _) (Nat.le_of_ble_eq_true rfl) (hP.2.2.2.1 ▸ c_3.2) (by rw [eσ_4]; exact xP_9_2 _ w9) (by rw [eσ_4]; exact xPut_R) dX8_init_11 z9
  refine ev_aload_n (j := 0) (x := (some a0)) dX8_init_14 rfl rfl ?_
  refine ev_aload_n (j := 1) (x := v1) dX8_init_15 rfl rfl ?_
  obtain ⟨c_5, h⟩ := x_chk_e h
  obtain ⟨σ_6, eσ_6, h⟩ := x_let_e h
  refine x_via (A := Ev l G mX8_init 19 [(0, va_rf (some a0)), (1, va_rf v1)] [] σ_6 (xrV rr) σ') (fun z9 => ?_) ?_
  · rcases c_5.1 with w9 | w9
    · exact ev_putF (σ2 := σ_6) (C := RX3) (T := TX3) (k := 0) inX3 tyX3 tyX3_ok nmX3 (xE_4 w9) rfl (by decide) wd_100 (Or.inl rfl) rfl rfl rfl rfl (x_refN _) (x_refF _) (Nat.le_of_ble_eq_true rfl) (hP.2.2.2.1 ▸ c_5.2) (by rw [eσ_6]; exact xP_4_0 _ w9) (by rw [eσ_6]; exact xPut_R) dX8_init_16 z9
    · exact ev_putF (σ2 := σ_6) (C := RX9) (T := TX9) (k := 0) inX9 tyX9 tyX9_ok nmX9 (xE_9 w9) rfl (by decide) wd_100 (Or.inl rfl) rfl rfl rfl rfl (x_refN _) (x_refF _) (Nat.le_of_ble_eq_true rfl) (hP.2.2.2.1 ▸ c_5.2) (by rw [eσ_6]; exact xP_9_0 _ w9) (by rw [eσ_6]; exact xPut_R) dX8_init_16 z9
  cases h
  exact ev_vret rfl dX8_init_19
set_option maxHeartbeats 4000000 in
set_option maxRecDepth 100000 in
theorem ev_X3_init {l : Launch} {G : xG} (hO : x_OK l G) {P : xP} (hP : x_PG P G) {a0 : Nat} {v1 : Option Nat} {σ σ' : xS} {rr : Unit ⊕ String} (h : dm_X3_init P a0 v1 σ = some (rr, σ')) : EvM l G mX3_init [va_rf (some a0), va_rf v1] σ (xrV rr) σ' := by
  unfold dm_X3_init at h
  refine evM_of hO (by decide +kernel) (x_lenI (by simp [x_cat, x_catI, x_catJ, mX3_init, xM.maxL])) ?_
  refine Eq.mp (congrArg (fun z => Ev l G mX3_init 0 z [] σ (xrV rr) σ') (show [(0, va_rf (some a0)), (1, va_rf v1)] = lv_args 0 [va_rf (some a0), va_rf v1] by simp [lv_args, x_cat, x_catI, x_catJ])) ?_
  refine ev_aload_n (j := 0) (x := (some a0)) dX3_init_0 rfl rfl ?_
  refine ev_aload_n (j := 1) (x := v1) dX3_init_1 rfl rfl ?_
  rcases x_bind_e h with ⟨v_1, σ_2, h_3, h⟩ | ⟨E_4, σ_2, h_3, h⟩
  · have z9 := x_call (M := mX3_init) (M' := mX8_init) (pc := 2) (st := [va_rf v1, va_rf (some a0)]) (rest := []) (av := [va_rf (some a0), va_rf v1]) (x_linkI (M := mX3_init) (M' := mX8_init) (As := [va_rf v1]) (index := 3) (b := a0) rfl wd_102 wd_103 wd_101 (by decide) rfl rfl dX3_init_2) (ev_X8_init hO hP h_3) xw_X8_init rfl wd_104 dX3_init_2 (by decide) (by decide) (by simp [x_cat, x_catI, x_catJ])
    refine x_callR z9 ?_
    refine ev_at (st' := []) rfl rfl ?_
    cases h
    exact ev_vret rfl dX3_init_5
  · have z9 := x_call (M := mX3_init) (M' := mX8_init) (pc := 2) (st := [va_rf v1, va_rf (some a0)]) (rest := []) (av := [va_rf (some a0), va_rf v1]) (x_linkI (M := mX3_init) (M' := mX8_init) (As := [va_rf v1]) (index := 3) (b := a0) rfl wd_102 wd_103 wd_101 (by decide) rfl rfl dX3_init_2) (ev_X8_init hO hP h_3) xw_X8_init rfl wd_104 dX3_init_2 (by decide) (by decide) (by simp [x_cat, x_catI, x_catJ])
    cases h
    exact x_callX z9 (evX_out rfl)
set_option maxHeartbeats 4000000 in
set_option maxRecDepth 100000 in
theorem ev_X9_init {l : Launch} {G : xG} (hO : x_OK l G) {P : xP} (hP : x_PG P G) {a0 : Nat} {v1 : Option Nat} {σ σ' : xS} {rr : Unit ⊕ String} (h : dm_X9_init P a0 v1 σ = some (rr, σ')) : EvM l G mX9_init [va_rf (some a0), va_rf v1] σ (xrV rr) σ' := by
  unfold dm_X9_init at h
  refine evM_of hO (by decide +kernel) (x_lenI (by simp [x_cat, x_catI, x_catJ, mX9_init, xM.maxL])) ?_
  refine Eq.mp (congrArg (fun z => Ev l G mX9_init 0 z [] σ (xrV rr) σ') (show [(0, va_rf (some a0)), (1, va_rf v1)] = lv_args 0 [va_rf (some a0), va_rf v1] by simp [lv_args, x_cat, x_catI, x_catJ])) ?_
  refine ev_aload_n (j := 0) (x := (some a0)) dX9_init_0 rfl rfl ?_
  refine ev_aload_n (j := 1) (x := v1) dX9_init_1 rfl rfl ?_
  rcases x_bind_e h with ⟨v_1, σ_2, h_3, h⟩ | ⟨E_4, σ_2, h_3, h⟩
  · have z9 := x_call (M := mX9_init) (M' := mX8_init) (pc := 2) (st := [va_rf v1, va_rf (some a0)]) (rest := []) (av := [va_rf (some a0), va_rf v1]) (x_linkI (M := mX9_init) (M' := mX8_init) (As := [va_rf v1]) (index := 3) (b := a0) rfl wd_105 wd_103 wd_101 (by decide) rfl rfl dX9_init_2) (ev_X8_init hO hP h_3) xw_X8_init rfl wd_104 dX9_init_2 (by decide) (by decide) (by simp [x_cat, x_catI, x_catJ])
    refine x_callR z9 ?_
    refine ev_at (st' := []) rfl rfl ?_
    cases h
    exact ev_vret rfl dX9_init_5
  · have z9 := x_call (M := mX9_init) (M' := mX8_init) (pc := 2) (st := [va_rf v1, va_rf (some a0)]) (rest := []) (av := [va_rf (some a0), va_rf v1]) (x_linkI (M := mX9_init) (M' := mX8_init) (As := [va_rf v1]) (index := 3) (b := a0) rfl wd_105 wd_103 wd_101 (by decide) rfl rfl dX9_init_2) (ev_X8_init hO hP h_3) xw_X8_init rfl wd_104 dX9_init_2 (by decide) (by decide) (by simp [x_cat, x_catI, x_catJ])
    cases h
    exact x_callX z9 (evX_out rfl)
set_option maxHeartbeats 4000000 in
set_option maxRecDepth 100000 in
theorem ev_X7_init {l : Launch} {G : xG} (hO : x_OK l G) {P : xP} (hP : x_PG P G) {a0 : Nat} {σ σ' : xS} {rr : Unit ⊕ String} (h : dm_X7_init P a0 σ = some (rr, σ')) : EvM l G mX7_init [va_rf (some a0)] σ (xrV rr) σ' := by
  unfold dm_X7_init at h
  refine evM_of hO (by decide +kernel) (x_lenI (by simp [x_cat, x_catI, x_catJ, mX7_init, xM.maxL])) ?_
  refine Eq.mp (congrArg (fun z => Ev l G mX7_init 0 z [] σ (xrV rr) σ') (show [(0, va_rf (some a0))] = lv_args 0 [va_rf (some a0)] by simp [lv_args, x_cat, x_catI, x_catJ])) ?_
  refine ev_aload_n (j := 0) (x := (some a0)) dX7_init_0 rfl rfl ?_
  refine ev_objInit wd_106 wd_85 wd_86 dX7_init_1 (by decide) (by decide) ?_
  refine ev_aload_n (j := 0) (x := (some a0)) dX7_init_4 rfl rfl ?_
  refine ev_iconst (v := 1) dX7_init_5 (by decide) ?_
  obtain ⟨c_1, h⟩ := x_chk_e h
  obtain ⟨σ_2, eσ_2, h⟩ := x_let_e h
  refine ev_put (σ2 := σ_2) (C := RX7) (T := TX7) (k := 0) inX7 tyX7 tyX7_ok nmX7 (xE_8 c_1.1) rfl (by decide) wd_107 (Or.inl rfl) rfl rfl (x_boolN c_1.2.2) (x_boolF c_1.2.2) (Nat.le_of_ble_eq_true rfl) (hP.2.2.2.1 ▸ c_1.2.1) (by rw [eσ_2]; exact xP_8_0 _ c_1.1) (by rw [eσ_2]; exact xPut_I) dX7_init_6 ?_
  refine ev_aload_n (j := 0) (x := (some a0)) dX7_init_9 rfl rfl ?_
  refine ev_iconst (v := 0) dX7_init_10 (by decide) ?_
  obtain ⟨c_3, h⟩ := x_chk_e h
  obtain ⟨σ_4, eσ_4, h⟩ := x_let_e h
  refine ev_put (σ2 := σ_4) (C := RX7) (T := TX7) (k := 1) inX7 tyX7 tyX7_ok nmX7 (xE_8 c_3.1) rfl (by decide) wd_108 (Or.inl rfl) rfl rfl rfl rfl (Nat.le_of_ble_eq_true rfl) (hP.2.2.2.1 ▸ c_3.2) (by rw [eσ_4]; exact xP_8_1 _ c_3.1) (by rw [eσ_4]; exact xPut_I) dX7_init_11 ?_
  refine ev_aload_n (j := 0) (x := (some a0)) dX7_init_14 rfl rfl ?_
  refine ev_iconst (v := -1) dX7_init_15 (by decide) ?_
  obtain ⟨c_5, h⟩ := x_chk_e h
  obtain ⟨σ_6, eσ_6, h⟩ := x_let_e h
  refine ev_put (σ2 := σ_6) (C := RX7) (T := TX7) (k := 2) inX7 tyX7 tyX7_ok nmX7 (xE_8 c_5.1) rfl (by decide) wd_109 (Or.inl rfl) rfl rfl rfl rfl (Nat.le_of_ble_eq_true rfl) (hP.2.2.2.1 ▸ c_5.2) (by rw [eσ_6]; exact xP_8_2 _ c_5.1) (by rw [eσ_6]; exact xPut_I) dX7_init_16 ?_
  cases h
  exact ev_vret rfl dX7_init_19
set_option maxHeartbeats 4000000 in
set_option maxRecDepth 100000 in
theorem ev_X0_init {l : Launch} {G : xG} (hO : x_OK l G) {P : xP} (hP : x_PG P G) {a0 : Nat} {σ σ' : xS} {rr : Unit ⊕ String} (h : dm_X0_init P a0 σ = some (rr, σ')) : EvM l G mX0_init [va_rf (some a0)] σ (xrV rr) σ' := by
  unfold dm_X0_init at h
  refine evM_of hO (by decide +kernel) (x_lenI (by simp [x_cat, x_catI, x_catJ, mX0_init, xM.maxL])) ?_
  refine Eq.mp (congrArg (fun z => Ev l G mX0_init 0 z [] σ (xrV rr) σ') (show [(0, va_rf (some a0))] = lv_args 0 [va_rf (some a0)] by simp [lv_args, x_cat, x_catI, x_catJ])) ?_
  refine ev_aload_n (j := 0) (x := (some a0)) dX0_init_0 rfl rfl ?_
  refine ev_objInit wd_110 wd_85 wd_86 dX0_init_1 (by decide) (by decide) ?_
  refine ev_aload_n (j := 0) (x := (some a0)) dX0_init_4 rfl rfl ?_
  refine ev_bipush (v := 8) dX0_init_5 (by decide) ?_
  obtain ⟨c_1, h⟩ := x_chk_e h
  obtain ⟨σ_2, eσ_2, h⟩ := x_let_e h
  refine ev_newq (C := "NetlistForms$NetModule") (k := 27) (t0 := 7) (by decide) (fun _ => rfl) wd_111 wd_112 c_1.1 c_1.2.1 (hP.2.1 ▸ c_1.2.2.1) (hP.2.2.1 ▸ c_1.2.2.2) dX0_init_7 (eσ_2 ▸ ?_)
  obtain ⟨c_3, h⟩ := x_chk_e h
  obtain ⟨σ_4, eσ_4, h⟩ := x_let_e h
  refine ev_putF (σ2 := σ_4) (C := RX0) (T := TX0) (k := 0) inX0 tyX0 tyX0_ok nmX0 (xE_1 c_3.1) rfl (by decide) wd_113 (Or.inl rfl) rfl rfl rfl rfl (x_refN _) (x_refFA _) (Nat.le_of_ble_eq_true rfl) (hP.2.2.2.1 ▸ c_3.2) (by rw [eσ_4]; exact xP_1_0 _ c_3.1) (by rw [eσ_4]; exact xPut_R) dX0_init_10 ?_
  refine ev_aload_n (j := 0) (x := (some a0)) dX0_init_13 rfl rfl ?_
  refine ev_iconst (v := 0) dX0_init_14 (by decide) ?_
  obtain ⟨c_5, h⟩ := x_chk_e h
  obtain ⟨σ_6, eσ_6, h⟩ := x_let_e h
  refine ev_put (σ2 := σ_6) (C := RX0) (T := TX0) (k := 1) inX0 tyX0 tyX0_ok nmX0 (xE_1 c_5.1) rfl (by decide) wd_114 (Or.inl rfl) rfl rfl rfl rfl (Nat.le_of_ble_eq_true rfl) (hP.2.2.2.1 ▸ c_5.2) (by rw [eσ_6]; exact xP_1_1 _ c_5.1) (by rw [eσ_6]; exact xPut_I) dX0_init_15 ?_
  cases h
  exact ev_vret rfl dX0_init_18
set_option maxHeartbeats 4000000 in
set_option maxRecDepth 100000 in
theorem ev_X11_init {l : Launch} {G : xG} (hO : x_OK l G) {P : xP} (hP : x_PG P G) {a0 : Nat} {σ σ' : xS} {rr : Unit ⊕ String} (h : dm_X11_init P a0 σ = some (rr, σ')) : EvM l G mX11_init [va_rf (some a0)] σ (xrV rr) σ' := by
  unfold dm_X11_init at h
  refine evM_of hO (by decide +kernel) (x_lenI (by simp [x_cat, x_catI, x_catJ, mX11_init, xM.maxL])) ?_
  refine Eq.mp (congrArg (fun z => Ev l G mX11_init 0 z [] σ (xrV rr) σ') (show [(0, va_rf (some a0))] = lv_args 0 [va_rf (some a0)] by simp [lv_args, x_cat, x_catI, x_catJ])) ?_
  refine ev_aload_n (j := 0) (x := (some a0)) dX11_init_0 rfl rfl ?_
  refine ev_objInit wd_115 wd_85 wd_86 dX11_init_1 (by decide) (by decide) ?_
  refine ev_aload_n (j := 0) (x := (some a0)) dX11_init_4 rfl rfl ?_
  obtain ⟨c_1, h⟩ := x_chk_e h
  obtain ⟨σ_2, eσ_2, h⟩ := x_let_e h
  refine ev_new (C := RX10) (T := TX10) (N := 7) (ci := 9) inX10 tyX10 tyX10_ok rfl (by decide) wd_116 wd_117 wd_118 (hP.2.1 ▸ c_1.1) (hP.2.2.1 ▸ c_1.2) (nE_10 _ _) nF_10 dX11_init_5 (eσ_2 ▸ ?_)
  refine ev_dup dX11_init_8 (x_cat _) ?_
  rcases x_bind_e h with ⟨v_3, σ_4, h_5, h⟩ | ⟨E_42, σ_4, h_5, h⟩
  · have z9 := x_call (M := mX11_init) (M' := mX10_init) (pc := 9) (st := [va_rf (some σ.sz), va_rf (some σ.sz), va_rf (some a0)]) (rest := [va_rf (some σ.sz), va_rf (some a0)]) (av := [va_rf (some σ.sz)]) (x_linkIN (M := mX11_init) (M' := mX10_init) (As := []) (index := 11) (b := σ.sz) rfl wd_120 wd_121 wd_119 (by decide) rfl rfl dX11_init_9) (ev_X10_init hO hP h_5) xw_X10_init rfl wd_118 dX11_init_9 (by decide) (by decide) (by simp [x_cat, x_catI, x_catJ])
    refine x_callR z9 ?_
    refine ev_at (st' := [va_rf (some σ.sz), va_rf (some a0)]) rfl rfl ?_
    obtain ⟨c_6, h⟩ := x_chk_e h
    obtain ⟨σ_7, eσ_7, h⟩ := x_let_e h
    refine ev_putF (σ2 := σ_7) (C := RX11) (T := TX11) (k := 0) inX11 tyX11 tyX11_ok nmX11 (xE_11 c_6.1) rfl (by decide) wd_33 (Or.inl rfl) rfl rfl rfl rfl (x_refN _) (x_refF _) (Nat.le_of_ble_eq_true rfl) (hP.2.2.2.1 ▸ c_6.2) (by rw [eσ_7]; exact xP_11_0 _ c_6.1) (by rw [eσ_7]; exact xPut_R) dX11_init_12 ?_
    refine ev_aload_n (j := 0) (x := (some a0)) dX11_init_15 rfl rfl ?_
    obtain ⟨c_8, h⟩ := x_chk_e h
    obtain ⟨σ_9, eσ_9, h⟩ := x_let_e h
    refine ev_new (C := RX3) (T := TX3) (N := 3) (ci := 3) inX3 tyX3 tyX3_ok rfl (by decide) wd_122 wd_123 wd_124 (hP.2.1 ▸ c_8.1) (hP.2.2.1 ▸ c_8.2) (nE_4 _ _) nF_4 dX11_init_16 (eσ_9 ▸ ?_)
    refine ev_dup dX11_init_19 (x_cat _) ?_
    refine ev_aload_n (j := 0) (x := (some a0)) dX11_init_20 rfl rfl ?_
    obtain ⟨c_10, h⟩ := x_chk_e h
    refine ev_get (C := RX11) (T := TX11) (k := 0) inX11 (xE_11 c_10) rfl (by decide) wd_33 (Or.inl rfl) rfl dX11_init_21 ?_
    rcases x_bind_e h with ⟨v_11, σ_12, h_13, h⟩ | ⟨E_41, σ_12, h_13, h⟩
    · have z9 := x_call (M := mX11_init) (M' := mX3_init) (pc := 24) (st := [va_rf (σ_9.R 1000 a0), va_rf (some σ_7.sz), va_rf (some σ_7.sz), va_rf (some a0)]) (rest := [va_rf (some σ_7.sz), va_rf (some a0)]) (av := [va_rf (some σ_7.sz), va_rf (σ_9.R 1000 a0)]) (x_linkI (M := mX11_init) (M' := mX3_init) (As := [va_rf (σ_9.R 1000 a0)]) (index := 18) (b := σ_7.sz) rfl wd_126 wd_127 wd_125 (by decide) rfl rfl dX11_init_24) (ev_X3_init hO hP h_13) xw_X3_init rfl wd_124 dX11_init_24 (by decide) (by decide) (by simp [x_cat, x_catI, x_catJ])
      refine x_callR z9 ?_
      refine ev_at (st' := [va_rf (some σ_7.sz), va_rf (some a0)]) rfl rfl ?_
      obtain ⟨c_14, h⟩ := x_chk_e h
      obtain ⟨σ_15, eσ_15, h⟩ := x_let_e h
      refine ev_putF (σ2 := σ_15) (C := RX11) (T := TX11) (k := 1) inX11 tyX11 tyX11_ok nmX11 (xE_11 c_14.1) rfl (by decide) wd_128 (Or.inl rfl) rfl rfl rfl rfl (x_refN _) (x_refF _) (Nat.le_of_ble_eq_true rfl) (hP.2.2.2.1 ▸ c_14.2) (by rw [eσ_15]; exact xP_11_1 _ c_14.1) (by rw [eσ_15]; exact xPut_R) dX11_init_27 ?_
      refine ev_aload_n (j := 0) (x := (some a0)) dX11_init_30 rfl rfl ?_
      obtain ⟨c_16, h⟩ := x_chk_e h
      obtain ⟨σ_17, eσ_17, h⟩ := x_let_e h
      refine ev_new (C := RX9) (T := TX9) (N := 3) (ci := 8) inX9 tyX9 tyX9_ok rfl (by decide) wd_129 wd_130 wd_131 (hP.2.1 ▸ c_16.1) (hP.2.2.1 ▸ c_16.2) (nE_9 _ _) nF_9 dX11_init_31 (eσ_17 ▸ ?_)
      refine ev_dup dX11_init_34 (x_cat _) ?_
      refine ev_aload_n (j := 0) (x := (some a0)) dX11_init_35 rfl rfl ?_
      obtain ⟨c_18, h⟩ := x_chk_e h
      refine ev_get (C := RX11) (T := TX11) (k := 0) inX11 (xE_11 c_18) rfl (by decide) wd_33 (Or.inl rfl) rfl dX11_init_36 ?_
      rcases x_bind_e h with ⟨v_19, σ_20, h_21, h⟩ | ⟨E_40, σ_20, h_21, h⟩
      · have z9 := x_call (M := mX11_init) (M' := mX9_init) (pc := 39) (st := [va_rf (σ_17.R 1000 a0), va_rf (some σ_15.sz), va_rf (some σ_15.sz), va_rf (some a0)]) (rest := [va_rf (some σ_15.sz), va_rf (some a0)]) (av := [va_rf (some σ_15.sz), va_rf (σ_17.R 1000 a0)]) (x_linkI (M := mX11_init) (M' := mX9_init) (As := [va_rf (σ_17.R 1000 a0)]) (index := 27) (b := σ_15.sz) rfl wd_133 wd_134 wd_132 (by decide) rfl rfl dX11_init_39) (ev_X9_init hO hP h_21) xw_X9_init rfl wd_131 dX11_init_39 (by decide) (by decide) (by simp [x_cat, x_catI, x_catJ])
        refine x_callR z9 ?_
        refine ev_at (st' := [va_rf (some σ_15.sz), va_rf (some a0)]) rfl rfl ?_
        obtain ⟨c_22, h⟩ := x_chk_e h
        obtain ⟨σ_23, eσ_23, h⟩ := x_let_e h
        refine ev_putF (σ2 := σ_23) (C := RX11) (T := TX11) (k := 2) inX11 tyX11 tyX11_ok nmX11 (xE_11 c_22.1) rfl (by decide) wd_135 (Or.inl rfl) rfl rfl rfl rfl (x_refN _) (x_refF _) (Nat.le_of_ble_eq_true rfl) (hP.2.2.2.1 ▸ c_22.2) (by rw [eσ_23]; exact xP_11_2 _ c_22.1) (by rw [eσ_23]; exact xPut_R) dX11_init_42 ?_
        refine ev_aload_n (j := 0) (x := (some a0)) dX11_init_45 rfl rfl ?_
        obtain ⟨c_24, h⟩ := x_chk_e h
        obtain ⟨σ_25, eσ_25, h⟩ := x_let_e h
        refine ev_new (C := RX7) (T := TX7) (N := 3) (ci := 7) inX7 tyX7 tyX7_ok rfl (by decide) wd_136 wd_137 wd_138 (hP.2.1 ▸ c_24.1) (hP.2.2.1 ▸ c_24.2) (nE_8 _ _) nF_8 dX11_init_46 (eσ_25 ▸ ?_)
        refine ev_dup dX11_init_49 (x_cat _) ?_
        rcases x_bind_e h with ⟨v_26, σ_27, h_28, h⟩ | ⟨E_39, σ_27, h_28, h⟩
        · have z9 := x_call (M := mX11_init) (M' := mX7_init) (pc := 50) (st := [va_rf (some σ_23.sz), va_rf (some σ_23.sz), va_rf (some a0)]) (rest := [va_rf (some σ_23.sz), va_rf (some a0)]) (av := [va_rf (some σ_23.sz)]) (x_linkIN (M := mX11_init) (M' := mX7_init) (As := []) (index := 33) (b := σ_23.sz) rfl wd_140 wd_141 wd_139 (by decide) rfl rfl dX11_init_50) (ev_X7_init hO hP h_28) xw_X7_init rfl wd_138 dX11_init_50 (by decide) (by decide) (by simp [x_cat, x_catI, x_catJ])
          refine x_callR z9 ?_
          refine ev_at (st' := [va_rf (some σ_23.sz), va_rf (some a0)]) rfl rfl ?_
          obtain ⟨c_29, h⟩ := x_chk_e h
          obtain ⟨σ_30, eσ_30, h⟩ := x_let_e h
          refine ev_putF (σ2 := σ_30) (C := RX11) (T := TX11) (k := 3) inX11 tyX11 tyX11_ok nmX11 (xE_11 c_29.1) rfl (by decide) wd_142 (Or.inl rfl) rfl rfl rfl rfl (x_refN _) (x_refF _) (Nat.le_of_ble_eq_true rfl) (hP.2.2.2.1 ▸ c_29.2) (by rw [eσ_30]; exact xP_11_3 _ c_29.1) (by rw [eσ_30]; exact xPut_R) dX11_init_53 ?_
          refine ev_aload_n (j := 0) (x := (some a0)) dX11_init_56 rfl rfl ?_
          obtain ⟨c_31, h⟩ := x_chk_e h
          obtain ⟨σ_32, eσ_32, h⟩ := x_let_e h
          refine ev_new (C := RX0) (T := TX0) (N := 2) (ci := 0) inX0 tyX0 tyX0_ok rfl (by decide) wd_143 wd_144 wd_145 (hP.2.1 ▸ c_31.1) (hP.2.2.1 ▸ c_31.2) (nE_1 _ _) nF_1 dX11_init_57 (eσ_32 ▸ ?_)
          refine ev_dup dX11_init_60 (x_cat _) ?_
          rcases x_bind_e h with ⟨v_33, σ_34, h_35, h⟩ | ⟨E_38, σ_34, h_35, h⟩
          · have z9 := x_call (M := mX11_init) (M' := mX0_init) (pc := 61) (st := [va_rf (some σ_30.sz), va_rf (some σ_30.sz), va_rf (some a0)]) (rest := [va_rf (some σ_30.sz), va_rf (some a0)]) (av := [va_rf (some σ_30.sz)]) (x_linkIN (M := mX11_init) (M' := mX0_init) (As := []) (index := 40) (b := σ_30.sz) rfl wd_147 wd_148 wd_146 (by decide) rfl rfl dX11_init_61) (ev_X0_init hO hP h_35) xw_X0_init rfl wd_145 dX11_init_61 (by decide) (by decide) (by simp [x_cat, x_catI, x_catJ])
            refine x_callR z9 ?_
            refine ev_at (st' := [va_rf (some σ_30.sz), va_rf (some a0)]) rfl rfl ?_
            obtain ⟨c_36, h⟩ := x_chk_e h
            obtain ⟨σ_37, eσ_37, h⟩ := x_let_e h
            refine ev_put (σ2 := σ_37) (C := RX11) (T := TX11) (k := 4) inX11 tyX11 tyX11_ok nmX11 (xE_11 c_36.1) rfl (by decide) wd_0 (Or.inl rfl) rfl rfl (x_refN _) (x_refF _) (Nat.le_of_ble_eq_true rfl) (hP.2.2.2.1 ▸ c_36.2) (by rw [eσ_37]; exact xP_11_4 _ c_36.1) (by rw [eσ_37]; exact xPut_R) dX11_init_64 ?_
            cases h
            exact ev_vret rfl dX11_init_67
          · have z9 := x_call (M := mX11_init) (M' := mX0_init) (pc := 61) (st := [va_rf (some σ_30.sz), va_rf (some σ_30.sz), va_rf (some a0)]) (rest := [va_rf (some σ_30.sz), va_rf (some a0)]) (av := [va_rf (some σ_30.sz)]) (x_linkIN (M := mX11_init) (M' := mX0_init) (As := []) (index := 40) (b := σ_30.sz) rfl wd_147 wd_148 wd_146 (by decide) rfl rfl dX11_init_61) (ev_X0_init hO hP h_35) xw_X0_init rfl wd_145 dX11_init_61 (by decide) (by decide) (by simp [x_cat, x_catI, x_catJ])
            cases h
            exact x_callX z9 (evX_out rfl)
        · have z9 := x_call (M := mX11_init) (M' := mX7_init) (pc := 50) (st := [va_rf (some σ_23.sz), va_rf (some σ_23.sz), va_rf (some a0)]) (rest := [va_rf (some σ_23.sz), va_rf (some a0)]) (av := [va_rf (some σ_23.sz)]) (x_linkIN (M := mX11_init) (M' := mX7_init) (As := []) (index := 33) (b := σ_23.sz) rfl wd_140 wd_141 wd_139 (by decide) rfl rfl dX11_init_50) (ev_X7_init hO hP h_28) xw_X7_init rfl wd_138 dX11_init_50 (by decide) (by decide) (by simp [x_cat, x_catI, x_catJ])
          cases h
          exact x_callX z9 (evX_out rfl)
      · have z9 := x_call (M := mX11_init) (M' := mX9_init) (pc := 39) (st := [va_rf (σ_17.R 1000 a0), va_rf (some σ_15.sz), va_rf (some σ_15.sz), va_rf (some a0)]) (rest := [va_rf (some σ_15.sz), va_rf (some a0)]) (av := [va_rf (some σ_15.sz), va_rf (σ_17.R 1000 a0)]) (x_linkI (M := mX11_init) (M' := mX9_init) (As := [va_rf (σ_17.R 1000 a0)]) (index := 27) (b := σ_15.sz) rfl wd_133 wd_134 wd_132 (by decide) rfl rfl dX11_init_39) (ev_X9_init hO hP h_21) xw_X9_init rfl wd_131 dX11_init_39 (by decide) (by decide) (by simp [x_cat, x_catI, x_catJ])
        cases h
        exact x_callX z9 (evX_out rfl)
    · have z9 := x_call (M := mX11_init) (M' := mX3_init) (pc := 24) (st := [va_rf (σ_9.R 1000 a0), va_rf (some σ_7.sz), va_rf (some σ_7.sz), va_rf (some a0)]) (rest := [va_rf (some σ_7.sz), va_rf (some a0)]) (av := [va_rf (some σ_7.sz), va_rf (σ_9.R 1000 a0)]) (x_linkI (M := mX11_init) (M' := mX3_init) (As := [va_rf (σ_9.R 1000 a0)]) (index := 18) (b := σ_7.sz) rfl wd_126 wd_127 wd_125 (by decide) rfl rfl dX11_init_24) (ev_X3_init hO hP h_13) xw_X3_init rfl wd_124 dX11_init_24 (by decide) (by decide) (by simp [x_cat, x_catI, x_catJ])
      cases h
      exact x_callX z9 (evX_out rfl)
  · have z9 := x_call (M := mX11_init) (M' := mX10_init) (pc := 9) (st := [va_rf (some σ.sz), va_rf (some σ.sz), va_rf (some a0)]) (rest := [va_rf (some σ.sz), va_rf (some a0)]) (av := [va_rf (some σ.sz)]) (x_linkIN (M := mX11_init) (M' := mX10_init) (As := []) (index := 11) (b := σ.sz) rfl wd_120 wd_121 wd_119 (by decide) rfl rfl dX11_init_9) (ev_X10_init hO hP h_5) xw_X10_init rfl wd_118 dX11_init_9 (by decide) (by decide) (by simp [x_cat, x_catI, x_catJ])
    cases h
    exact x_callX z9 (evX_out rfl)
set_option maxHeartbeats 4000000 in
set_option maxRecDepth 100000 in
theorem ev_X12_init {l : Launch} {G : xG} (hO : x_OK l G) {P : xP} (hP : x_PG P G) {a0 : Nat} {σ σ' : xS} {rr : Unit ⊕ String} (h : dm_X12_init P a0 σ = some (rr, σ')) : EvM l G mX12_init [va_rf (some a0)] σ (xrV rr) σ' := by
  unfold dm_X12_init at h
  refine evM_of hO (by decide +kernel) (x_lenI (by simp [x_cat, x_catI, x_catJ, mX12_init, xM.maxL])) ?_
  refine Eq.mp (congrArg (fun z => Ev l G mX12_init 0 z [] σ (xrV rr) σ') (show [(0, va_rf (some a0))] = lv_args 0 [va_rf (some a0)] by simp [lv_args, x_cat, x_catI, x_catJ])) ?_
  refine ev_aload_n (j := 0) (x := (some a0)) dX12_init_0 rfl rfl ?_
  refine ev_objInit wd_149 wd_85 wd_86 dX12_init_1 (by decide) (by decide) ?_
  refine ev_aload_n (j := 0) (x := (some a0)) dX12_init_4 rfl rfl ?_
  refine ev_sipush (v := 1000) dX12_init_5 (by decide) ?_
  obtain ⟨c_1, h⟩ := x_chk_e h
  obtain ⟨σ_2, eσ_2, h⟩ := x_let_e h
  refine ev_newaI (k := 31) (kc := 21) (t0 := 1) (ty := .int) (by decide) (fun _ => rfl) rfl rfl (fun _ h9 => by cases h9) wd_90 c_1.1 c_1.2.1 (by decide) (hP.2.1 ▸ c_1.2.2.1) (hP.2.2.1 ▸ c_1.2.2.2) dX12_init_8 (eσ_2 ▸ ?_)
  obtain ⟨c_3, h⟩ := x_chk_e h
  obtain ⟨σ_4, eσ_4, h⟩ := x_let_e h
  refine ev_putF (σ2 := σ_4) (C := RX12) (T := TX12) (k := 1) inX12 tyX12 tyX12_ok nmX12 (xE_12 c_3.1) rfl (by decide) wd_150 (Or.inl rfl) rfl rfl rfl rfl (x_refN _) (x_refFA _) (Nat.le_of_ble_eq_true rfl) (hP.2.2.2.1 ▸ c_3.2) (by rw [eσ_4]; exact xP_12_1 _ c_3.1) (by rw [eσ_4]; exact xPut_R) dX12_init_10 ?_
  refine ev_aload_n (j := 0) (x := (some a0)) dX12_init_13 rfl rfl ?_
  refine ev_sipush (v := 2000) dX12_init_14 (by decide) ?_
  obtain ⟨c_5, h⟩ := x_chk_e h
  obtain ⟨σ_6, eσ_6, h⟩ := x_let_e h
  refine ev_newaI (k := 31) (kc := 21) (t0 := 1) (ty := .int) (by decide) (fun _ => rfl) rfl rfl (fun _ h9 => by cases h9) wd_90 c_5.1 c_5.2.1 (by decide) (hP.2.1 ▸ c_5.2.2.1) (hP.2.2.1 ▸ c_5.2.2.2) dX12_init_17 (eσ_6 ▸ ?_)
  obtain ⟨c_7, h⟩ := x_chk_e h
  obtain ⟨σ_8, eσ_8, h⟩ := x_let_e h
  refine ev_putF (σ2 := σ_8) (C := RX12) (T := TX12) (k := 4) inX12 tyX12 tyX12_ok nmX12 (xE_12 c_7.1) rfl (by decide) wd_151 (Or.inl rfl) rfl rfl rfl rfl (x_refN _) (x_refFA _) (Nat.le_of_ble_eq_true rfl) (hP.2.2.2.1 ▸ c_7.2) (by rw [eσ_8]; exact xP_12_4 _ c_7.1) (by rw [eσ_8]; exact xPut_R) dX12_init_19 ?_
  refine ev_aload_n (j := 0) (x := (some a0)) dX12_init_22 rfl rfl ?_
  refine ev_iconst (v := 2) dX12_init_23 (by decide) ?_
  obtain ⟨c_9, h⟩ := x_chk_e h
  obtain ⟨σ_10, eσ_10, h⟩ := x_let_e h
  refine ev_newaI (k := 31) (kc := 21) (t0 := 1) (ty := .int) (by decide) (fun _ => rfl) rfl rfl (fun _ h9 => by cases h9) wd_90 c_9.1 c_9.2.1 (by decide) (hP.2.1 ▸ c_9.2.2.1) (hP.2.2.1 ▸ c_9.2.2.2) dX12_init_24 (eσ_10 ▸ ?_)
  obtain ⟨c_11, h⟩ := x_chk_e h
  obtain ⟨σ_12, eσ_12, h⟩ := x_let_e h
  refine ev_putF (σ2 := σ_12) (C := RX12) (T := TX12) (k := 5) inX12 tyX12 tyX12_ok nmX12 (xE_12 c_11.1) rfl (by decide) wd_152 (Or.inl rfl) rfl rfl rfl rfl (x_refN _) (x_refFA _) (Nat.le_of_ble_eq_true rfl) (hP.2.2.2.1 ▸ c_11.2) (by rw [eσ_12]; exact xP_12_5 _ c_11.1) (by rw [eσ_12]; exact xPut_R) dX12_init_26 ?_
  refine ev_aload_n (j := 0) (x := (some a0)) dX12_init_29 rfl rfl ?_
  refine ev_iconst (v := 2) dX12_init_30 (by decide) ?_
  obtain ⟨c_13, h⟩ := x_chk_e h
  obtain ⟨σ_14, eσ_14, h⟩ := x_let_e h
  refine ev_newaI (k := 31) (kc := 21) (t0 := 1) (ty := .int) (by decide) (fun _ => rfl) rfl rfl (fun _ h9 => by cases h9) wd_90 c_13.1 c_13.2.1 (by decide) (hP.2.1 ▸ c_13.2.2.1) (hP.2.2.1 ▸ c_13.2.2.2) dX12_init_31 (eσ_14 ▸ ?_)
  obtain ⟨c_15, h⟩ := x_chk_e h
  obtain ⟨σ_16, eσ_16, h⟩ := x_let_e h
  refine ev_putF (σ2 := σ_16) (C := RX12) (T := TX12) (k := 6) inX12 tyX12 tyX12_ok nmX12 (xE_12 c_15.1) rfl (by decide) wd_153 (Or.inl rfl) rfl rfl rfl rfl (x_refN _) (x_refFA _) (Nat.le_of_ble_eq_true rfl) (hP.2.2.2.1 ▸ c_15.2) (by rw [eσ_16]; exact xP_12_6 _ c_15.1) (by rw [eσ_16]; exact xPut_R) dX12_init_33 ?_
  refine ev_aload_n (j := 0) (x := (some a0)) dX12_init_36 rfl rfl ?_
  refine ev_bipush (v := 16) dX12_init_37 (by decide) ?_
  obtain ⟨c_17, h⟩ := x_chk_e h
  obtain ⟨σ_18, eσ_18, h⟩ := x_let_e h
  refine ev_newaI (k := 31) (kc := 21) (t0 := 1) (ty := .int) (by decide) (fun _ => rfl) rfl rfl (fun _ h9 => by cases h9) wd_90 c_17.1 c_17.2.1 (by decide) (hP.2.1 ▸ c_17.2.2.1) (hP.2.2.1 ▸ c_17.2.2.2) dX12_init_39 (eσ_18 ▸ ?_)
  obtain ⟨c_19, h⟩ := x_chk_e h
  obtain ⟨σ_20, eσ_20, h⟩ := x_let_e h
  refine ev_putF (σ2 := σ_20) (C := RX12) (T := TX12) (k := 7) inX12 tyX12 tyX12_ok nmX12 (xE_12 c_19.1) rfl (by decide) wd_154 (Or.inl rfl) rfl rfl rfl rfl (x_refN _) (x_refFA _) (Nat.le_of_ble_eq_true rfl) (hP.2.2.2.1 ▸ c_19.2) (by rw [eσ_20]; exact xP_12_7 _ c_19.1) (by rw [eσ_20]; exact xPut_R) dX12_init_41 ?_
  refine ev_aload_n (j := 0) (x := (some a0)) dX12_init_44 rfl rfl ?_
  refine ev_bipush (v := 16) dX12_init_45 (by decide) ?_
  obtain ⟨c_21, h⟩ := x_chk_e h
  obtain ⟨σ_22, eσ_22, h⟩ := x_let_e h
  refine ev_newaI (k := 31) (kc := 21) (t0 := 1) (ty := .int) (by decide) (fun _ => rfl) rfl rfl (fun _ h9 => by cases h9) wd_90 c_21.1 c_21.2.1 (by decide) (hP.2.1 ▸ c_21.2.2.1) (hP.2.2.1 ▸ c_21.2.2.2) dX12_init_47 (eσ_22 ▸ ?_)
  obtain ⟨c_23, h⟩ := x_chk_e h
  obtain ⟨σ_24, eσ_24, h⟩ := x_let_e h
  refine ev_putF (σ2 := σ_24) (C := RX12) (T := TX12) (k := 8) inX12 tyX12 tyX12_ok nmX12 (xE_12 c_23.1) rfl (by decide) wd_155 (Or.inl rfl) rfl rfl rfl rfl (x_refN _) (x_refFA _) (Nat.le_of_ble_eq_true rfl) (hP.2.2.2.1 ▸ c_23.2) (by rw [eσ_24]; exact xP_12_8 _ c_23.1) (by rw [eσ_24]; exact xPut_R) dX12_init_49 ?_
  refine ev_aload_n (j := 0) (x := (some a0)) dX12_init_52 rfl rfl ?_
  refine ev_bipush (v := 16) dX12_init_53 (by decide) ?_
  obtain ⟨c_25, h⟩ := x_chk_e h
  obtain ⟨σ_26, eσ_26, h⟩ := x_let_e h
  refine ev_newaI (k := 31) (kc := 21) (t0 := 1) (ty := .int) (by decide) (fun _ => rfl) rfl rfl (fun _ h9 => by cases h9) wd_90 c_25.1 c_25.2.1 (by decide) (hP.2.1 ▸ c_25.2.2.1) (hP.2.2.1 ▸ c_25.2.2.2) dX12_init_55 (eσ_26 ▸ ?_)
  obtain ⟨c_27, h⟩ := x_chk_e h
  obtain ⟨σ_28, eσ_28, h⟩ := x_let_e h
  refine ev_putF (σ2 := σ_28) (C := RX12) (T := TX12) (k := 9) inX12 tyX12 tyX12_ok nmX12 (xE_12 c_27.1) rfl (by decide) wd_156 (Or.inl rfl) rfl rfl rfl rfl (x_refN _) (x_refFA _) (Nat.le_of_ble_eq_true rfl) (hP.2.2.2.1 ▸ c_27.2) (by rw [eσ_28]; exact xP_12_9 _ c_27.1) (by rw [eσ_28]; exact xPut_R) dX12_init_57 ?_
  refine ev_aload_n (j := 0) (x := (some a0)) dX12_init_60 rfl rfl ?_
  refine ev_sipush (v := 256) dX12_init_61 (by decide) ?_
  obtain ⟨c_29, h⟩ := x_chk_e h
  obtain ⟨σ_30, eσ_30, h⟩ := x_let_e h
  refine ev_newaI (k := 31) (kc := 21) (t0 := 1) (ty := .int) (by decide) (fun _ => rfl) rfl rfl (fun _ h9 => by cases h9) wd_90 c_29.1 c_29.2.1 (by decide) (hP.2.1 ▸ c_29.2.2.1) (hP.2.2.1 ▸ c_29.2.2.2) dX12_init_64 (eσ_30 ▸ ?_)
  obtain ⟨c_31, h⟩ := x_chk_e h
  obtain ⟨σ_32, eσ_32, h⟩ := x_let_e h
  refine ev_putF (σ2 := σ_32) (C := RX12) (T := TX12) (k := 10) inX12 tyX12 tyX12_ok nmX12 (xE_12 c_31.1) rfl (by decide) wd_157 (Or.inl rfl) rfl rfl rfl rfl (x_refN _) (x_refFA _) (Nat.le_of_ble_eq_true rfl) (hP.2.2.2.1 ▸ c_31.2) (by rw [eσ_32]; exact xP_12_10 _ c_31.1) (by rw [eσ_32]; exact xPut_R) dX12_init_66 ?_
  refine ev_aload_n (j := 0) (x := (some a0)) dX12_init_69 rfl rfl ?_
  refine ev_sipush (v := 256) dX12_init_70 (by decide) ?_
  obtain ⟨c_33, h⟩ := x_chk_e h
  obtain ⟨σ_34, eσ_34, h⟩ := x_let_e h
  refine ev_newaI (k := 31) (kc := 21) (t0 := 1) (ty := .int) (by decide) (fun _ => rfl) rfl rfl (fun _ h9 => by cases h9) wd_90 c_33.1 c_33.2.1 (by decide) (hP.2.1 ▸ c_33.2.2.1) (hP.2.2.1 ▸ c_33.2.2.2) dX12_init_73 (eσ_34 ▸ ?_)
  obtain ⟨c_35, h⟩ := x_chk_e h
  obtain ⟨σ_36, eσ_36, h⟩ := x_let_e h
  refine ev_putF (σ2 := σ_36) (C := RX12) (T := TX12) (k := 11) inX12 tyX12 tyX12_ok nmX12 (xE_12 c_35.1) rfl (by decide) wd_158 (Or.inl rfl) rfl rfl rfl rfl (x_refN _) (x_refFA _) (Nat.le_of_ble_eq_true rfl) (hP.2.2.2.1 ▸ c_35.2) (by rw [eσ_36]; exact xP_12_11 _ c_35.1) (by rw [eσ_36]; exact xPut_R) dX12_init_75 ?_
  refine ev_aload_n (j := 0) (x := (some a0)) dX12_init_78 rfl rfl ?_
  refine ev_sipush (v := 256) dX12_init_79 (by decide) ?_
  obtain ⟨c_37, h⟩ := x_chk_e h
  obtain ⟨σ_38, eσ_38, h⟩ := x_let_e h
  refine ev_newaI (k := 31) (kc := 21) (t0 := 1) (ty := .int) (by decide) (fun _ => rfl) rfl rfl (fun _ h9 => by cases h9) wd_90 c_37.1 c_37.2.1 (by decide) (hP.2.1 ▸ c_37.2.2.1) (hP.2.2.1 ▸ c_37.2.2.2) dX12_init_82 (eσ_38 ▸ ?_)
  obtain ⟨c_39, h⟩ := x_chk_e h
  obtain ⟨σ_40, eσ_40, h⟩ := x_let_e h
  refine ev_putF (σ2 := σ_40) (C := RX12) (T := TX12) (k := 12) inX12 tyX12 tyX12_ok nmX12 (xE_12 c_39.1) rfl (by decide) wd_159 (Or.inl rfl) rfl rfl rfl rfl (x_refN _) (x_refFA _) (Nat.le_of_ble_eq_true rfl) (hP.2.2.2.1 ▸ c_39.2) (by rw [eσ_40]; exact xP_12_12 _ c_39.1) (by rw [eσ_40]; exact xPut_R) dX12_init_84 ?_
  refine ev_aload_n (j := 0) (x := (some a0)) dX12_init_87 rfl rfl ?_
  refine ev_sipush (v := 256) dX12_init_88 (by decide) ?_
  obtain ⟨c_41, h⟩ := x_chk_e h
  obtain ⟨σ_42, eσ_42, h⟩ := x_let_e h
  refine ev_newaI (k := 31) (kc := 21) (t0 := 1) (ty := .int) (by decide) (fun _ => rfl) rfl rfl (fun _ h9 => by cases h9) wd_90 c_41.1 c_41.2.1 (by decide) (hP.2.1 ▸ c_41.2.2.1) (hP.2.2.1 ▸ c_41.2.2.2) dX12_init_91 (eσ_42 ▸ ?_)
  obtain ⟨c_43, h⟩ := x_chk_e h
  obtain ⟨σ_44, eσ_44, h⟩ := x_let_e h
  refine ev_putF (σ2 := σ_44) (C := RX12) (T := TX12) (k := 13) inX12 tyX12 tyX12_ok nmX12 (xE_12 c_43.1) rfl (by decide) wd_160 (Or.inl rfl) rfl rfl rfl rfl (x_refN _) (x_refFA _) (Nat.le_of_ble_eq_true rfl) (hP.2.2.2.1 ▸ c_43.2) (by rw [eσ_44]; exact xP_12_13 _ c_43.1) (by rw [eσ_44]; exact xPut_R) dX12_init_93 ?_
  refine ev_aload_n (j := 0) (x := (some a0)) dX12_init_96 rfl rfl ?_
  refine ev_sipush (v := 256) dX12_init_97 (by decide) ?_
  obtain ⟨c_45, h⟩ := x_chk_e h
  obtain ⟨σ_46, eσ_46, h⟩ := x_let_e h
  refine ev_newaI (k := 33) (kc := 23) (t0 := 3) (ty := .boolean) (by decide) (fun _ => rfl) rfl rfl (fun _ h9 => by cases h9) wd_161 c_45.1 c_45.2.1 (by decide) (hP.2.1 ▸ c_45.2.2.1) (hP.2.2.1 ▸ c_45.2.2.2) dX12_init_100 (eσ_46 ▸ ?_)
  obtain ⟨c_47, h⟩ := x_chk_e h
  obtain ⟨σ_48, eσ_48, h⟩ := x_let_e h
  refine ev_putF (σ2 := σ_48) (C := RX12) (T := TX12) (k := 14) inX12 tyX12 tyX12_ok nmX12 (xE_12 c_47.1) rfl (by decide) wd_162 (Or.inl rfl) rfl rfl rfl rfl (x_refN _) (x_refFA _) (Nat.le_of_ble_eq_true rfl) (hP.2.2.2.1 ▸ c_47.2) (by rw [eσ_48]; exact xP_12_14 _ c_47.1) (by rw [eσ_48]; exact xPut_R) dX12_init_102 ?_
  refine ev_aload_n (j := 0) (x := (some a0)) dX12_init_105 rfl rfl ?_
  refine ev_iconst (v := 2) dX12_init_106 (by decide) ?_
  obtain ⟨c_49, h⟩ := x_chk_e h
  obtain ⟨σ_50, eσ_50, h⟩ := x_let_e h
  refine ev_newaI (k := 31) (kc := 21) (t0 := 1) (ty := .int) (by decide) (fun _ => rfl) rfl rfl (fun _ h9 => by cases h9) wd_90 c_49.1 c_49.2.1 (by decide) (hP.2.1 ▸ c_49.2.2.1) (hP.2.2.1 ▸ c_49.2.2.2) dX12_init_107 (eσ_50 ▸ ?_)
  obtain ⟨c_51, h⟩ := x_chk_e h
  obtain ⟨σ_52, eσ_52, h⟩ := x_let_e h
  refine ev_putF (σ2 := σ_52) (C := RX12) (T := TX12) (k := 15) inX12 tyX12 tyX12_ok nmX12 (xE_12 c_51.1) rfl (by decide) wd_163 (Or.inl rfl) rfl rfl rfl rfl (x_refN _) (x_refFA _) (Nat.le_of_ble_eq_true rfl) (hP.2.2.2.1 ▸ c_51.2) (by rw [eσ_52]; exact xP_12_15 _ c_51.1) (by rw [eσ_52]; exact xPut_R) dX12_init_109 ?_
  refine ev_aload_n (j := 0) (x := (some a0)) dX12_init_112 rfl rfl ?_
  refine ev_sipush (v := 1024) dX12_init_113 (by decide) ?_
  obtain ⟨c_53, h⟩ := x_chk_e h
  obtain ⟨σ_54, eσ_54, h⟩ := x_let_e h
  refine ev_newaI (k := 31) (kc := 21) (t0 := 1) (ty := .int) (by decide) (fun _ => rfl) rfl rfl (fun _ h9 => by cases h9) wd_90 c_53.1 c_53.2.1 (by decide) (hP.2.1 ▸ c_53.2.2.1) (hP.2.2.1 ▸ c_53.2.2.2) dX12_init_116 (eσ_54 ▸ ?_)
  obtain ⟨c_55, h⟩ := x_chk_e h
  obtain ⟨σ_56, eσ_56, h⟩ := x_let_e h
  refine ev_putF (σ2 := σ_56) (C := RX12) (T := TX12) (k := 16) inX12 tyX12 tyX12_ok nmX12 (xE_12 c_55.1) rfl (by decide) wd_164 (Or.inl rfl) rfl rfl rfl rfl (x_refN _) (x_refFA _) (Nat.le_of_ble_eq_true rfl) (hP.2.2.2.1 ▸ c_55.2) (by rw [eσ_56]; exact xP_12_16 _ c_55.1) (by rw [eσ_56]; exact xPut_R) dX12_init_118 ?_
  refine ev_aload_n (j := 0) (x := (some a0)) dX12_init_121 rfl rfl ?_
  refine ev_sipush (v := 1024) dX12_init_122 (by decide) ?_
  obtain ⟨c_57, h⟩ := x_chk_e h
  obtain ⟨σ_58, eσ_58, h⟩ := x_let_e h
  refine ev_newaI (k := 31) (kc := 21) (t0 := 1) (ty := .int) (by decide) (fun _ => rfl) rfl rfl (fun _ h9 => by cases h9) wd_90 c_57.1 c_57.2.1 (by decide) (hP.2.1 ▸ c_57.2.2.1) (hP.2.2.1 ▸ c_57.2.2.2) dX12_init_125 (eσ_58 ▸ ?_)
  obtain ⟨c_59, h⟩ := x_chk_e h
  obtain ⟨σ_60, eσ_60, h⟩ := x_let_e h
  refine ev_putF (σ2 := σ_60) (C := RX12) (T := TX12) (k := 17) inX12 tyX12 tyX12_ok nmX12 (xE_12 c_59.1) rfl (by decide) wd_165 (Or.inl rfl) rfl rfl rfl rfl (x_refN _) (x_refFA _) (Nat.le_of_ble_eq_true rfl) (hP.2.2.2.1 ▸ c_59.2) (by rw [eσ_60]; exact xP_12_17 _ c_59.1) (by rw [eσ_60]; exact xPut_R) dX12_init_127 ?_
  refine ev_aload_n (j := 0) (x := (some a0)) dX12_init_130 rfl rfl ?_
  refine ev_sipush (v := 1024) dX12_init_131 (by decide) ?_
  obtain ⟨c_61, h⟩ := x_chk_e h
  obtain ⟨σ_62, eσ_62, h⟩ := x_let_e h
  refine ev_newaI (k := 31) (kc := 21) (t0 := 1) (ty := .int) (by decide) (fun _ => rfl) rfl rfl (fun _ h9 => by cases h9) wd_90 c_61.1 c_61.2.1 (by decide) (hP.2.1 ▸ c_61.2.2.1) (hP.2.2.1 ▸ c_61.2.2.2) dX12_init_134 (eσ_62 ▸ ?_)
  obtain ⟨c_63, h⟩ := x_chk_e h
  obtain ⟨σ_64, eσ_64, h⟩ := x_let_e h
  refine ev_putF (σ2 := σ_64) (C := RX12) (T := TX12) (k := 18) inX12 tyX12 tyX12_ok nmX12 (xE_12 c_63.1) rfl (by decide) wd_166 (Or.inl rfl) rfl rfl rfl rfl (x_refN _) (x_refFA _) (Nat.le_of_ble_eq_true rfl) (hP.2.2.2.1 ▸ c_63.2) (by rw [eσ_64]; exact xP_12_18 _ c_63.1) (by rw [eσ_64]; exact xPut_R) dX12_init_136 ?_
  refine ev_aload_n (j := 0) (x := (some a0)) dX12_init_139 rfl rfl ?_
  refine ev_sipush (v := 1024) dX12_init_140 (by decide) ?_
  obtain ⟨c_65, h⟩ := x_chk_e h
  obtain ⟨σ_66, eσ_66, h⟩ := x_let_e h
  refine ev_newaI (k := 31) (kc := 21) (t0 := 1) (ty := .int) (by decide) (fun _ => rfl) rfl rfl (fun _ h9 => by cases h9) wd_90 c_65.1 c_65.2.1 (by decide) (hP.2.1 ▸ c_65.2.2.1) (hP.2.2.1 ▸ c_65.2.2.2) dX12_init_143 (eσ_66 ▸ ?_)
  obtain ⟨c_67, h⟩ := x_chk_e h
  obtain ⟨σ_68, eσ_68, h⟩ := x_let_e h
  refine ev_putF (σ2 := σ_68) (C := RX12) (T := TX12) (k := 19) inX12 tyX12 tyX12_ok nmX12 (xE_12 c_67.1) rfl (by decide) wd_167 (Or.inl rfl) rfl rfl rfl rfl (x_refN _) (x_refFA _) (Nat.le_of_ble_eq_true rfl) (hP.2.2.2.1 ▸ c_67.2) (by rw [eσ_68]; exact xP_12_19 _ c_67.1) (by rw [eσ_68]; exact xPut_R) dX12_init_145 ?_
  refine ev_aload_n (j := 0) (x := (some a0)) dX12_init_148 rfl rfl ?_
  refine ev_sipush (v := 1024) dX12_init_149 (by decide) ?_
  obtain ⟨c_69, h⟩ := x_chk_e h
  obtain ⟨σ_70, eσ_70, h⟩ := x_let_e h
  refine ev_newaI (k := 31) (kc := 21) (t0 := 1) (ty := .int) (by decide) (fun _ => rfl) rfl rfl (fun _ h9 => by cases h9) wd_90 c_69.1 c_69.2.1 (by decide) (hP.2.1 ▸ c_69.2.2.1) (hP.2.2.1 ▸ c_69.2.2.2) dX12_init_152 (eσ_70 ▸ ?_)
  obtain ⟨c_71, h⟩ := x_chk_e h
  obtain ⟨σ_72, eσ_72, h⟩ := x_let_e h
  refine ev_putF (σ2 := σ_72) (C := RX12) (T := TX12) (k := 20) inX12 tyX12 tyX12_ok nmX12 (xE_12 c_71.1) rfl (by decide) wd_168 (Or.inl rfl) rfl rfl rfl rfl (x_refN _) (x_refFA _) (Nat.le_of_ble_eq_true rfl) (hP.2.2.2.1 ▸ c_71.2) (by rw [eσ_72]; exact xP_12_20 _ c_71.1) (by rw [eσ_72]; exact xPut_R) dX12_init_154 ?_
  refine ev_aload_n (j := 0) (x := (some a0)) dX12_init_157 rfl rfl ?_
  refine ev_bipush (v := 16) dX12_init_158 (by decide) ?_
  obtain ⟨c_73, h⟩ := x_chk_e h
  obtain ⟨σ_74, eσ_74, h⟩ := x_let_e h
  refine ev_newaI (k := 31) (kc := 21) (t0 := 1) (ty := .int) (by decide) (fun _ => rfl) rfl rfl (fun _ h9 => by cases h9) wd_90 c_73.1 c_73.2.1 (by decide) (hP.2.1 ▸ c_73.2.2.1) (hP.2.2.1 ▸ c_73.2.2.2) dX12_init_160 (eσ_74 ▸ ?_)
  obtain ⟨c_75, h⟩ := x_chk_e h
  obtain ⟨σ_76, eσ_76, h⟩ := x_let_e h
  refine ev_putF (σ2 := σ_76) (C := RX12) (T := TX12) (k := 21) inX12 tyX12 tyX12_ok nmX12 (xE_12 c_75.1) rfl (by decide) wd_169 (Or.inl rfl) rfl rfl rfl rfl (x_refN _) (x_refFA _) (Nat.le_of_ble_eq_true rfl) (hP.2.2.2.1 ▸ c_75.2) (by rw [eσ_76]; exact xP_12_21 _ c_75.1) (by rw [eσ_76]; exact xPut_R) dX12_init_162 ?_
  refine ev_aload_n (j := 0) (x := (some a0)) dX12_init_165 rfl rfl ?_
  refine ev_sipush (v := 128) dX12_init_166 (by decide) ?_
  obtain ⟨c_77, h⟩ := x_chk_e h
  obtain ⟨σ_78, eσ_78, h⟩ := x_let_e h
  refine ev_newaI (k := 31) (kc := 21) (t0 := 1) (ty := .int) (by decide) (fun _ => rfl) rfl rfl (fun _ h9 => by cases h9) wd_90 c_77.1 c_77.2.1 (by decide) (hP.2.1 ▸ c_77.2.2.1) (hP.2.2.1 ▸ c_77.2.2.2) dX12_init_169 (eσ_78 ▸ ?_)
  obtain ⟨c_79, h⟩ := x_chk_e h
  obtain ⟨σ_80, eσ_80, h⟩ := x_let_e h
  refine ev_putF (σ2 := σ_80) (C := RX12) (T := TX12) (k := 22) inX12 tyX12 tyX12_ok nmX12 (xE_12 c_79.1) rfl (by decide) wd_170 (Or.inl rfl) rfl rfl rfl rfl (x_refN _) (x_refFA _) (Nat.le_of_ble_eq_true rfl) (hP.2.2.2.1 ▸ c_79.2) (by rw [eσ_80]; exact xP_12_22 _ c_79.1) (by rw [eσ_80]; exact xPut_R) dX12_init_171 ?_
  refine ev_aload_n (j := 0) (x := (some a0)) dX12_init_174 rfl rfl ?_
  refine ev_sipush (v := 128) dX12_init_175 (by decide) ?_
  obtain ⟨c_81, h⟩ := x_chk_e h
  obtain ⟨σ_82, eσ_82, h⟩ := x_let_e h
  refine ev_newaI (k := 31) (kc := 21) (t0 := 1) (ty := .int) (by decide) (fun _ => rfl) rfl rfl (fun _ h9 => by cases h9) wd_90 c_81.1 c_81.2.1 (by decide) (hP.2.1 ▸ c_81.2.2.1) (hP.2.2.1 ▸ c_81.2.2.2) dX12_init_178 (eσ_82 ▸ ?_)
  obtain ⟨c_83, h⟩ := x_chk_e h
  obtain ⟨σ_84, eσ_84, h⟩ := x_let_e h
  refine ev_putF (σ2 := σ_84) (C := RX12) (T := TX12) (k := 23) inX12 tyX12 tyX12_ok nmX12 (xE_12 c_83.1) rfl (by decide) wd_171 (Or.inl rfl) rfl rfl rfl rfl (x_refN _) (x_refFA _) (Nat.le_of_ble_eq_true rfl) (hP.2.2.2.1 ▸ c_83.2) (by rw [eσ_84]; exact xP_12_23 _ c_83.1) (by rw [eσ_84]; exact xPut_R) dX12_init_180 ?_
  refine ev_aload_n (j := 0) (x := (some a0)) dX12_init_183 rfl rfl ?_
  refine ev_bipush (v := 16) dX12_init_184 (by decide) ?_
  obtain ⟨c_85, h⟩ := x_chk_e h
  obtain ⟨σ_86, eσ_86, h⟩ := x_let_e h
  refine ev_newaI (k := 31) (kc := 21) (t0 := 1) (ty := .int) (by decide) (fun _ => rfl) rfl rfl (fun _ h9 => by cases h9) wd_90 c_85.1 c_85.2.1 (by decide) (hP.2.1 ▸ c_85.2.2.1) (hP.2.2.1 ▸ c_85.2.2.2) dX12_init_186 (eσ_86 ▸ ?_)
  obtain ⟨c_87, h⟩ := x_chk_e h
  obtain ⟨σ_88, eσ_88, h⟩ := x_let_e h
  refine ev_putF (σ2 := σ_88) (C := RX12) (T := TX12) (k := 24) inX12 tyX12 tyX12_ok nmX12 (xE_12 c_87.1) rfl (by decide) wd_172 (Or.inl rfl) rfl rfl rfl rfl (x_refN _) (x_refFA _) (Nat.le_of_ble_eq_true rfl) (hP.2.2.2.1 ▸ c_87.2) (by rw [eσ_88]; exact xP_12_24 _ c_87.1) (by rw [eσ_88]; exact xPut_R) dX12_init_188 ?_
  refine ev_aload_n (j := 0) (x := (some a0)) dX12_init_191 rfl rfl ?_
  refine ev_sipush (v := 192) dX12_init_192 (by decide) ?_
  obtain ⟨c_89, h⟩ := x_chk_e h
  obtain ⟨σ_90, eσ_90, h⟩ := x_let_e h
  refine ev_newaI (k := 31) (kc := 21) (t0 := 1) (ty := .int) (by decide) (fun _ => rfl) rfl rfl (fun _ h9 => by cases h9) wd_90 c_89.1 c_89.2.1 (by decide) (hP.2.1 ▸ c_89.2.2.1) (hP.2.2.1 ▸ c_89.2.2.2) dX12_init_195 (eσ_90 ▸ ?_)
  obtain ⟨c_91, h⟩ := x_chk_e h
  obtain ⟨σ_92, eσ_92, h⟩ := x_let_e h
  refine ev_putF (σ2 := σ_92) (C := RX12) (T := TX12) (k := 25) inX12 tyX12 tyX12_ok nmX12 (xE_12 c_91.1) rfl (by decide) wd_173 (Or.inl rfl) rfl rfl rfl rfl (x_refN _) (x_refFA _) (Nat.le_of_ble_eq_true rfl) (hP.2.2.2.1 ▸ c_91.2) (by rw [eσ_92]; exact xP_12_25 _ c_91.1) (by rw [eσ_92]; exact xPut_R) dX12_init_197 ?_
  refine ev_aload_n (j := 0) (x := (some a0)) dX12_init_200 rfl rfl ?_
  refine ev_sipush (v := 192) dX12_init_201 (by decide) ?_
  obtain ⟨c_93, h⟩ := x_chk_e h
  obtain ⟨σ_94, eσ_94, h⟩ := x_let_e h
  refine ev_newaI (k := 31) (kc := 21) (t0 := 1) (ty := .int) (by decide) (fun _ => rfl) rfl rfl (fun _ h9 => by cases h9) wd_90 c_93.1 c_93.2.1 (by decide) (hP.2.1 ▸ c_93.2.2.1) (hP.2.2.1 ▸ c_93.2.2.2) dX12_init_204 (eσ_94 ▸ ?_)
  obtain ⟨c_95, h⟩ := x_chk_e h
  obtain ⟨σ_96, eσ_96, h⟩ := x_let_e h
  refine ev_putF (σ2 := σ_96) (C := RX12) (T := TX12) (k := 26) inX12 tyX12 tyX12_ok nmX12 (xE_12 c_95.1) rfl (by decide) wd_174 (Or.inl rfl) rfl rfl rfl rfl (x_refN _) (x_refFA _) (Nat.le_of_ble_eq_true rfl) (hP.2.2.2.1 ▸ c_95.2) (by rw [eσ_96]; exact xP_12_26 _ c_95.1) (by rw [eσ_96]; exact xPut_R) dX12_init_206 ?_
  refine ev_aload_n (j := 0) (x := (some a0)) dX12_init_209 rfl rfl ?_
  refine ev_sipush (v := 192) dX12_init_210 (by decide) ?_
  obtain ⟨c_97, h⟩ := x_chk_e h
  obtain ⟨σ_98, eσ_98, h⟩ := x_let_e h
  refine ev_newaI (k := 33) (kc := 23) (t0 := 3) (ty := .boolean) (by decide) (fun _ => rfl) rfl rfl (fun _ h9 => by cases h9) wd_161 c_97.1 c_97.2.1 (by decide) (hP.2.1 ▸ c_97.2.2.1) (hP.2.2.1 ▸ c_97.2.2.2) dX12_init_213 (eσ_98 ▸ ?_)
  obtain ⟨c_99, h⟩ := x_chk_e h
  obtain ⟨σ_100, eσ_100, h⟩ := x_let_e h
  refine ev_putF (σ2 := σ_100) (C := RX12) (T := TX12) (k := 27) inX12 tyX12 tyX12_ok nmX12 (xE_12 c_99.1) rfl (by decide) wd_175 (Or.inl rfl) rfl rfl rfl rfl (x_refN _) (x_refFA _) (Nat.le_of_ble_eq_true rfl) (hP.2.2.2.1 ▸ c_99.2) (by rw [eσ_100]; exact xP_12_27 _ c_99.1) (by rw [eσ_100]; exact xPut_R) dX12_init_215 ?_
  refine ev_aload_n (j := 0) (x := (some a0)) dX12_init_218 rfl rfl ?_
  refine ev_sipush (v := 192) dX12_init_219 (by decide) ?_
  obtain ⟨c_101, h⟩ := x_chk_e h
  obtain ⟨σ_102, eσ_102, h⟩ := x_let_e h
  refine ev_newaI (k := 31) (kc := 21) (t0 := 1) (ty := .int) (by decide) (fun _ => rfl) rfl rfl (fun _ h9 => by cases h9) wd_90 c_101.1 c_101.2.1 (by decide) (hP.2.1 ▸ c_101.2.2.1) (hP.2.2.1 ▸ c_101.2.2.2) dX12_init_222 (eσ_102 ▸ ?_)
  obtain ⟨c_103, h⟩ := x_chk_e h
  obtain ⟨σ_104, eσ_104, h⟩ := x_let_e h
  refine ev_putF (σ2 := σ_104) (C := RX12) (T := TX12) (k := 28) inX12 tyX12 tyX12_ok nmX12 (xE_12 c_103.1) rfl (by decide) wd_176 (Or.inl rfl) rfl rfl rfl rfl (x_refN _) (x_refFA _) (Nat.le_of_ble_eq_true rfl) (hP.2.2.2.1 ▸ c_103.2) (by rw [eσ_104]; exact xP_12_28 _ c_103.1) (by rw [eσ_104]; exact xPut_R) dX12_init_224 ?_
  refine ev_aload_n (j := 0) (x := (some a0)) dX12_init_227 rfl rfl ?_
  refine ev_sipush (v := 192) dX12_init_228 (by decide) ?_
  obtain ⟨c_105, h⟩ := x_chk_e h
  obtain ⟨σ_106, eσ_106, h⟩ := x_let_e h
  refine ev_newaI (k := 31) (kc := 21) (t0 := 1) (ty := .int) (by decide) (fun _ => rfl) rfl rfl (fun _ h9 => by cases h9) wd_90 c_105.1 c_105.2.1 (by decide) (hP.2.1 ▸ c_105.2.2.1) (hP.2.2.1 ▸ c_105.2.2.2) dX12_init_231 (eσ_106 ▸ ?_)
  obtain ⟨c_107, h⟩ := x_chk_e h
  obtain ⟨σ_108, eσ_108, h⟩ := x_let_e h
  refine ev_putF (σ2 := σ_108) (C := RX12) (T := TX12) (k := 29) inX12 tyX12 tyX12_ok nmX12 (xE_12 c_107.1) rfl (by decide) wd_177 (Or.inl rfl) rfl rfl rfl rfl (x_refN _) (x_refFA _) (Nat.le_of_ble_eq_true rfl) (hP.2.2.2.1 ▸ c_107.2) (by rw [eσ_108]; exact xP_12_29 _ c_107.1) (by rw [eσ_108]; exact xPut_R) dX12_init_233 ?_
  refine ev_aload_n (j := 0) (x := (some a0)) dX12_init_236 rfl rfl ?_
  refine ev_sipush (v := 3072) dX12_init_237 (by decide) ?_
  obtain ⟨c_109, h⟩ := x_chk_e h
  obtain ⟨σ_110, eσ_110, h⟩ := x_let_e h
  refine ev_newaI (k := 31) (kc := 21) (t0 := 1) (ty := .int) (by decide) (fun _ => rfl) rfl rfl (fun _ h9 => by cases h9) wd_90 c_109.1 c_109.2.1 (by decide) (hP.2.1 ▸ c_109.2.2.1) (hP.2.2.1 ▸ c_109.2.2.2) dX12_init_240 (eσ_110 ▸ ?_)
  obtain ⟨c_111, h⟩ := x_chk_e h
  obtain ⟨σ_112, eσ_112, h⟩ := x_let_e h
  refine ev_putF (σ2 := σ_112) (C := RX12) (T := TX12) (k := 30) inX12 tyX12 tyX12_ok nmX12 (xE_12 c_111.1) rfl (by decide) wd_178 (Or.inl rfl) rfl rfl rfl rfl (x_refN _) (x_refFA _) (Nat.le_of_ble_eq_true rfl) (hP.2.2.2.1 ▸ c_111.2) (by rw [eσ_112]; exact xP_12_30 _ c_111.1) (by rw [eσ_112]; exact xPut_R) dX12_init_242 ?_
  refine ev_aload_n (j := 0) (x := (some a0)) dX12_init_245 rfl rfl ?_
  refine ev_sipush (v := 3072) dX12_init_246 (by decide) ?_
  obtain ⟨c_113, h⟩ := x_chk_e h
  obtain ⟨σ_114, eσ_114, h⟩ := x_let_e h
  refine ev_newaI (k := 31) (kc := 21) (t0 := 1) (ty := .int) (by decide) (fun _ => rfl) rfl rfl (fun _ h9 => by cases h9) wd_90 c_113.1 c_113.2.1 (by decide) (hP.2.1 ▸ c_113.2.2.1) (hP.2.2.1 ▸ c_113.2.2.2) dX12_init_249 (eσ_114 ▸ ?_)
  obtain ⟨c_115, h⟩ := x_chk_e h
  obtain ⟨σ_116, eσ_116, h⟩ := x_let_e h
  refine ev_putF (σ2 := σ_116) (C := RX12) (T := TX12) (k := 31) inX12 tyX12 tyX12_ok nmX12 (xE_12 c_115.1) rfl (by decide) wd_179 (Or.inl rfl) rfl rfl rfl rfl (x_refN _) (x_refFA _) (Nat.le_of_ble_eq_true rfl) (hP.2.2.2.1 ▸ c_115.2) (by rw [eσ_116]; exact xP_12_31 _ c_115.1) (by rw [eσ_116]; exact xPut_R) dX12_init_251 ?_
  refine ev_aload_n (j := 0) (x := (some a0)) dX12_init_254 rfl rfl ?_
  refine ev_sipush (v := 3072) dX12_init_255 (by decide) ?_
  obtain ⟨c_117, h⟩ := x_chk_e h
  obtain ⟨σ_118, eσ_118, h⟩ := x_let_e h
  refine ev_newaI (k := 31) (kc := 21) (t0 := 1) (ty := .int) (by decide) (fun _ => rfl) rfl rfl (fun _ h9 => by cases h9) wd_90 c_117.1 c_117.2.1 (by decide) (hP.2.1 ▸ c_117.2.2.1) (hP.2.2.1 ▸ c_117.2.2.2) dX12_init_258 (eσ_118 ▸ ?_)
  obtain ⟨c_119, h⟩ := x_chk_e h
  obtain ⟨σ_120, eσ_120, h⟩ := x_let_e h
  refine ev_putF (σ2 := σ_120) (C := RX12) (T := TX12) (k := 32) inX12 tyX12 tyX12_ok nmX12 (xE_12 c_119.1) rfl (by decide) wd_180 (Or.inl rfl) rfl rfl rfl rfl (x_refN _) (x_refFA _) (Nat.le_of_ble_eq_true rfl) (hP.2.2.2.1 ▸ c_119.2) (by rw [eσ_120]; exact xP_12_32 _ c_119.1) (by rw [eσ_120]; exact xPut_R) dX12_init_260 ?_
  refine ev_aload_n (j := 0) (x := (some a0)) dX12_init_263 rfl rfl ?_
  refine ev_bipush (v := 16) dX12_init_264 (by decide) ?_
  obtain ⟨c_121, h⟩ := x_chk_e h
  obtain ⟨σ_122, eσ_122, h⟩ := x_let_e h
  refine ev_newaI (k := 31) (kc := 21) (t0 := 1) (ty := .int) (by decide) (fun _ => rfl) rfl rfl (fun _ h9 => by cases h9) wd_90 c_121.1 c_121.2.1 (by decide) (hP.2.1 ▸ c_121.2.2.1) (hP.2.2.1 ▸ c_121.2.2.2) dX12_init_266 (eσ_122 ▸ ?_)
  obtain ⟨c_123, h⟩ := x_chk_e h
  obtain ⟨σ_124, eσ_124, h⟩ := x_let_e h
  refine ev_putF (σ2 := σ_124) (C := RX12) (T := TX12) (k := 33) inX12 tyX12 tyX12_ok nmX12 (xE_12 c_123.1) rfl (by decide) wd_181 (Or.inl rfl) rfl rfl rfl rfl (x_refN _) (x_refFA _) (Nat.le_of_ble_eq_true rfl) (hP.2.2.2.1 ▸ c_123.2) (by rw [eσ_124]; exact xP_12_33 _ c_123.1) (by rw [eσ_124]; exact xPut_R) dX12_init_268 ?_
  refine ev_aload_n (j := 0) (x := (some a0)) dX12_init_271 rfl rfl ?_
  refine ev_iconst (v := -1) dX12_init_272 (by decide) ?_
  obtain ⟨c_125, h⟩ := x_chk_e h
  obtain ⟨σ_126, eσ_126, h⟩ := x_let_e h
  refine ev_put (σ2 := σ_126) (C := RX12) (T := TX12) (k := 39) inX12 tyX12 tyX12_ok nmX12 (xE_12 c_125.1) rfl (by decide) wd_182 (Or.inl rfl) rfl rfl rfl rfl (Nat.le_of_ble_eq_true rfl) (hP.2.2.2.1 ▸ c_125.2) (by rw [eσ_126]; exact xP_12_39 _ c_125.1) (by rw [eσ_126]; exact xPut_I) dX12_init_273 ?_
  cases h
  exact ev_vret rfl dX12_init_276
set_option maxHeartbeats 4000000 in
set_option maxRecDepth 100000 in
theorem ev_X10_isCharacter_p23 {l : Launch} {G : xG} (hO : x_OK l G) {P : xP} (hP : x_PG P G) {s0 : Int32} {σ σ' : xS} {rr : Int32 ⊕ String} (h : dm_X10_isCharacter_p23 P s0 σ = some (rr, σ')) : Ev l G mX10_isCharacter 23 [] [.int s0] σ (xrI rr) σ' := by
  unfold dm_X10_isCharacter_p23 at h
  obtain ⟨c_1, h⟩ := x_chk_e h
  cases h
  exact ev_iret rfl (x_boolN c_1) dX10_isCharacter_23
set_option maxHeartbeats 4000000 in
set_option maxRecDepth 100000 in
theorem ev_X10_isCharacter_p18 {l : Launch} {G : xG} (hO : x_OK l G) {P : xP} (hP : x_PG P G) {σ σ' : xS} {rr : Int32 ⊕ String} (h : dm_X10_isCharacter_p18 P σ = some (rr, σ')) : Ev l G mX10_isCharacter 18 [] [] σ (xrI rr) σ' := by
  unfold dm_X10_isCharacter_p18 at h
  refine ev_iconst (v := 1) dX10_isCharacter_18 (by decide) ?_
  refine ev_goto (tgt := 23) dX10_isCharacter_19 (by decide) ?_
  exact ev_sub [] rfl (ev_X10_isCharacter_p23 hO hP h)
set_option maxHeartbeats 4000000 in
set_option maxRecDepth 100000 in
theorem ev_X10_isCharacter_p12 {l : Launch} {G : xG} (hO : x_OK l G) {P : xP} (hP : x_PG P G) {v0 : Int32} {σ σ' : xS} {rr : Int32 ⊕ String} (h : dm_X10_isCharacter_p12 P v0 σ = some (rr, σ')) : Ev l G mX10_isCharacter 12 [(0, .int v0)] [] σ (xrI rr) σ' := by
  unfold dm_X10_isCharacter_p12 at h
  refine ev_iload_n (j := 0) (x := v0) dX10_isCharacter_12 rfl rfl ?_
  refine ev_bipush (v := 10) dX10_isCharacter_13 (by decide) ?_
  by_cases c_1 : v0 = 10
  · rw [if_pos c_1] at h
    refine ev_icmp_ne (x := v0) (y := 10) (tgt := 22) dX10_isCharacter_15 (by decide) (fun q9 => absurd c_1 q9) (fun _ => ?_)
    exact ev_sub [] rfl (ev_X10_isCharacter_p18 hO hP h)
  · rw [if_neg c_1] at h
    refine ev_icmp_ne (x := v0) (y := 10) (tgt := 22) dX10_isCharacter_15 (by decide) (fun _ => ?_) (fun q9 => absurd q9 c_1)
    refine ev_iconst (v := 0) dX10_isCharacter_22 (by decide) ?_
    exact ev_sub [] rfl (ev_X10_isCharacter_p23 hO hP h)
set_option maxHeartbeats 4000000 in
set_option maxRecDepth 100000 in
theorem ev_X10_isCharacter {l : Launch} {G : xG} (hO : x_OK l G) {P : xP} (hP : x_PG P G) {v0 : Int32} {σ σ' : xS} {rr : Int32 ⊕ String} (h : dm_X10_isCharacter P v0 σ = some (rr, σ')) : EvM l G mX10_isCharacter [.int v0] σ (xrI rr) σ' := by
  unfold dm_X10_isCharacter at h
  refine evM_of hO (by decide +kernel) (x_lenI (by simp [x_cat, x_catI, x_catJ, mX10_isCharacter, xM.maxL])) ?_
  refine Eq.mp (congrArg (fun z => Ev l G mX10_isCharacter 0 z [] σ (xrI rr) σ') (show [(0, .int v0)] = lv_args 0 [.int v0] by simp [lv_args, x_cat, x_catI, x_catJ])) ?_
  refine ev_iload_n (j := 0) (x := v0) dX10_isCharacter_0 rfl rfl ?_
  refine ev_bipush (v := 32) dX10_isCharacter_1 (by decide) ?_
  by_cases c_1 : v0 < 32
  · rw [if_pos c_1] at h
    refine ev_icmp_lt (x := v0) (y := 32) (tgt := 12) dX10_isCharacter_3 (by decide) (fun _ => ?_) (fun q9 => absurd c_1 q9)
    exact ev_sub [0] rfl (ev_X10_isCharacter_p12 hO hP h)
  · rw [if_neg c_1] at h
    refine ev_icmp_lt (x := v0) (y := 32) (tgt := 12) dX10_isCharacter_3 (by decide) (fun q9 => absurd q9 c_1) (fun _ => ?_)
    refine ev_iload_n (j := 0) (x := v0) dX10_isCharacter_6 rfl rfl ?_
    refine ev_bipush (v := 126) dX10_isCharacter_7 (by decide) ?_
    by_cases c_2 : v0 ≤ 126
    · rw [if_pos c_2] at h
      refine ev_icmp_le (x := v0) (y := 126) (tgt := 18) dX10_isCharacter_9 (by decide) (fun _ => ?_) (fun q9 => absurd c_2 q9)
      exact ev_sub [] rfl (ev_X10_isCharacter_p18 hO hP h)
    · rw [if_neg c_2] at h
      refine ev_icmp_le (x := v0) (y := 126) (tgt := 18) dX10_isCharacter_9 (by decide) (fun q9 => absurd q9 c_2) (fun _ => ?_)
      exact ev_sub [0] rfl (ev_X10_isCharacter_p12 hO hP h)
set_option maxHeartbeats 4000000 in
set_option maxRecDepth 100000 in
theorem ev_X10_room {l : Launch} {G : xG} (hO : x_OK l G) {P : xP} (hP : x_PG P G) {a0 : Nat} {σ σ' : xS} {rr : Int32 ⊕ String} (h : dm_X10_room P a0 σ = some (rr, σ')) : EvM l G mX10_room [va_rf (some a0)] σ (xrI rr) σ' := by
  unfold dm_X10_room at h
  refine evM_of hO (by decide +kernel) (x_lenI (by simp [x_cat, x_catI, x_catJ, mX10_room, xM.maxL])) ?_
  refine Eq.mp (congrArg (fun z => Ev l G mX10_room 0 z [] σ (xrI rr) σ') (show [(0, va_rf (some a0))] = lv_args 0 [va_rf (some a0)] by simp [lv_args, x_cat, x_catI, x_catJ])) ?_
  refine ev_sipush (v := 1000) dX10_room_0 (by decide) ?_
  refine ev_aload_n (j := 0) (x := (some a0)) dX10_room_3 rfl rfl ?_
  obtain ⟨c_1, h⟩ := x_chk_e h
  refine ev_get (C := RX10) (T := TX10) (k := 1) inX10 (xE_10 c_1) rfl (by decide) wd_89 (Or.inl rfl) rfl dX10_room_4 ?_
  refine ev_isub (x := 1000) (y := (σ.I 901 a0)) dX10_room_7 ?_
  cases h
  exact ev_iret rfl rfl dX10_room_8
set_option maxHeartbeats 4000000 in
set_option maxRecDepth 100000 in
theorem ev_X10_append_p30 {l : Launch} {G : xG} (hO : x_OK l G) {P : xP} (hP : x_PG P G) {a0 : Nat} {σ σ' : xS} {rr : Unit ⊕ String} (h : dm_X10_append_p30 P a0 σ = some (rr, σ')) : Ev l G mX10_append 30 [] [] σ (xrV rr) σ' := by
  unfold dm_X10_append_p30 at h
  cases h
  exact ev_vret rfl dX10_append_30
set_option maxHeartbeats 4000000 in
set_option maxRecDepth 100000 in
theorem ev_X10_append {l : Launch} {G : xG} (hO : x_OK l G) {P : xP} (hP : x_PG P G) {a0 : Nat} {v1 : Int32} {σ σ' : xS} {rr : Unit ⊕ String} (h : dm_X10_append P a0 v1 σ = some (rr, σ')) : EvM l G mX10_append [va_rf (some a0), .int v1] σ (xrV rr) σ' := by
  unfold dm_X10_append at h
  refine evM_of hO (by decide +kernel) (x_lenI (by simp [x_cat, x_catI, x_catJ, mX10_append, xM.maxL])) ?_
  refine Eq.mp (congrArg (fun z => Ev l G mX10_append 0 z [] σ (xrV rr) σ') (show [(0, va_rf (some a0)), (1, .int v1)] = lv_args 0 [va_rf (some a0), .int v1] by simp [lv_args, x_cat, x_catI, x_catJ])) ?_
  refine ev_aload_n (j := 0) (x := (some a0)) dX10_append_0 rfl rfl ?_
  obtain ⟨c_1, h⟩ := x_chk_e h
  refine ev_get (C := RX10) (T := TX10) (k := 1) inX10 (xE_10 c_1) rfl (by decide) wd_89 (Or.inl rfl) rfl dX10_append_1 ?_
  refine ev_sipush (v := 1000) dX10_append_4 (by decide) ?_
  by_cases c_2 : 1000 ≤ (σ.I 901 a0)
  · rw [if_pos c_2] at h
    refine ev_icmp_ge (x := (σ.I 901 a0)) (y := 1000) (tgt := 30) dX10_append_7 (by decide) (fun _ => ?_) (fun q9 => absurd c_2 q9)
    exact ev_sub [] rfl (ev_X10_append_p30 hO hP h)
  · rw [if_neg c_2] at h
    refine ev_icmp_ge (x := (σ.I 901 a0)) (y := 1000) (tgt := 30) dX10_append_7 (by decide) (fun q9 => absurd q9 c_2) (fun _ => ?_)
    refine ev_aload_n (j := 0) (x := (some a0)) dX10_append_10 rfl rfl ?_
    refine ev_get (C := RX10) (T := TX10) (k := 0) inX10 (xE_10 c_1) rfl (by decide) wd_88 (Or.inl rfl) rfl dX10_append_11 ?_
    refine ev_aload_n (j := 0) (x := (some a0)) dX10_append_14 rfl rfl ?_
    refine ev_get (C := RX10) (T := TX10) (k := 1) inX10 (xE_10 c_1) rfl (by decide) wd_89 (Or.inl rfl) rfl dX10_append_15 ?_
    refine ev_iload_n (j := 1) (x := v1) dX10_append_18 rfl rfl ?_
    obtain ⟨a_3, ea_3, h⟩ := x_some_e h
    refine ev_at (st' := [.int v1, .int (σ.I 901 a0), va_rf (some a_3)]) rfl (by rw [ea_3]) ?_
    obtain ⟨c_4, h⟩ := x_chk_e h
    obtain ⟨σ_5, eσ_5, h⟩ := x_let_e h
    refine ev_cast c_4.1 c_4.2.1 (hP.2.2.2.1 ▸ c_4.2.2.1) (x_charN c_4.2.2.2) dX10_append_19 (eσ_5 ▸ ?_)
    refine ev_aload_n (j := 0) (x := (some a0)) dX10_append_20 rfl rfl ?_
    refine ev_dup dX10_append_21 (x_cat _) ?_
    obtain ⟨c_6, h⟩ := x_chk_e h
    refine ev_get (C := RX10) (T := TX10) (k := 1) inX10 (xE_10 c_6) rfl (by decide) wd_89 (Or.inl rfl) rfl dX10_append_22 ?_
    refine ev_iconst (v := 1) dX10_append_25 (by decide) ?_
    refine ev_iadd (x := (σ_5.I 901 a0)) (y := 1) dX10_append_26 ?_
    obtain ⟨c_7, h⟩ := x_chk_e h
    obtain ⟨σ_8, eσ_8, h⟩ := x_let_e h
    refine ev_put (σ2 := σ_8) (C := RX10) (T := TX10) (k := 1) inX10 tyX10 tyX10_ok nmX10 (xE_10 c_7.1) rfl (by decide) wd_89 (Or.inl rfl) rfl rfl rfl rfl (Nat.le_of_ble_eq_true rfl) (hP.2.2.2.1 ▸ c_7.2) (by rw [eσ_8]; exact xP_10_1 _ c_7.1) (by rw [eσ_8]; exact xPut_I) dX10_append_27 ?_
    exact ev_sub [] rfl (ev_X10_append_p30 hO hP h)
set_option maxHeartbeats 4000000 in
set_option maxRecDepth 100000 in
theorem ev_X11_unit_p18 {l : Launch} {G : xG} (hO : x_OK l G) {P : xP} (hP : x_PG P G) {a0 : Nat} {σ σ' : xS} {rr : Int32 ⊕ String} (h : dm_X11_unit_p18 P a0 σ = some (rr, σ')) : Ev l G mX11_unit 18 [] [] σ (xrI rr) σ' := by
  unfold dm_X11_unit_p18 at h
  refine ev_iconst (v := 0) dX11_unit_18 (by decide) ?_
  cases h
  exact ev_iret rfl rfl dX11_unit_19
set_option maxHeartbeats 4000000 in
set_option maxRecDepth 100000 in
theorem ev_X11_unit {l : Launch} {G : xG} (hO : x_OK l G) {P : xP} (hP : x_PG P G) {a0 : Nat} {v1 : Int32} {σ σ' : xS} {rr : Int32 ⊕ String} (h : dm_X11_unit P a0 v1 σ = some (rr, σ')) : EvM l G mX11_unit [va_rf (some a0), .int v1] σ (xrI rr) σ' := by
  unfold dm_X11_unit at h
  refine evM_of hO (by decide +kernel) (x_lenI (by simp [x_cat, x_catI, x_catJ, mX11_unit, xM.maxL])) ?_
  refine Eq.mp (congrArg (fun z => Ev l G mX11_unit 0 z [] σ (xrI rr) σ') (show [(0, va_rf (some a0)), (1, .int v1)] = lv_args 0 [va_rf (some a0), .int v1] by simp [lv_args, x_cat, x_catI, x_catJ])) ?_
  refine ev_iload_n (j := 1) (x := v1) dX11_unit_0 rfl rfl ?_
  rcases x_bind_e h with ⟨v_1, σ_2, h_3, h⟩ | ⟨E_20, σ_2, h_3, h⟩
  · have z9 := x_call (M := mX11_unit) (M' := mX10_isCharacter) (pc := 1) (st := [.int v1]) (rest := []) (av := [.int v1]) (x_linkS (M := mX11_unit) (M' := mX10_isCharacter) (As := [.int v1]) (index := 45) wd_184 wd_185 wd_118 xw_X10_isCharacter rfl ⟨_, _, _, Or.inl wd_183⟩ (by decide) rfl rfl dX11_unit_1) (ev_X10_isCharacter hO hP h_3) xw_X10_isCharacter rfl wd_118 dX11_unit_1 (by decide) (by decide) (by simp [x_cat, x_catI, x_catJ])
    refine x_callR z9 ?_
    refine ev_at (st' := [.int v_1]) rfl rfl ?_
    by_cases c_4 : v_1 = 0
    · rw [if_pos c_4] at h
      refine ev_if_eq (x := v_1) (tgt := 18) dX11_unit_4 (by decide) (fun _ => ?_) (fun q9 => absurd c_4 q9)
      exact ev_sub [] rfl (ev_X11_unit_p18 hO hP h)
    · rw [if_neg c_4] at h
      refine ev_if_eq (x := v_1) (tgt := 18) dX11_unit_4 (by decide) (fun q9 => absurd q9 c_4) (fun _ => ?_)
      refine ev_aload_n (j := 0) (x := (some a0)) dX11_unit_7 rfl rfl ?_
      obtain ⟨c_5, h⟩ := x_chk_e h
      refine ev_get (C := RX11) (T := TX11) (k := 0) inX11 (xE_11 c_5) rfl (by decide) wd_33 (Or.inl rfl) rfl dX11_unit_8 ?_
      obtain ⟨a_6, ea_6, h⟩ := x_some_e h
      refine ev_at (st' := [va_rf (some a_6)]) rfl (by rw [ea_6]) ?_
      obtain ⟨c_10, h⟩ := x_chk_e h
      rcases x_bind_e h with ⟨v_7, σ_8, h_9, h⟩ | ⟨E_19, σ_8, h_9, h⟩
      · have z9 := x_call (M := mX11_unit) (M' := mX10_room) (pc := 11) (st := [va_rf (some a_6)]) (rest := []) (av := [va_rf (some a_6)]) (x_linkV (M := mX11_unit) (M' := mX10_room) (As := []) (index := 49) (C := RX10) (T := TX10) (xE_10 c_10) rfl wd_188 wd_189 wd_187 xw_X10_room rfl (by decide) rfl rfl dX11_unit_11) (ev_X10_room hO hP h_9) xw_X10_room rfl wd_118 dX11_unit_11 (by decide) (by decide) (by simp [x_cat, x_catI, x_catJ])
        refine x_callR z9 ?_
        refine ev_at (st' := [.int v_7]) rfl rfl ?_
        refine ev_iconst (v := 1) dX11_unit_14 (by decide) ?_
        by_cases c_11 : 1 ≤ v_7
        · rw [if_pos c_11] at h
          refine ev_icmp_ge (x := v_7) (y := 1) (tgt := 20) dX11_unit_15 (by decide) (fun _ => ?_) (fun q9 => absurd c_11 q9)
          refine ev_aload_n (j := 0) (x := (some a0)) dX11_unit_20 rfl rfl ?_
          obtain ⟨c_12, h⟩ := x_chk_e h
          refine ev_get (C := RX11) (T := TX11) (k := 0) inX11 (xE_11 c_12) rfl (by decide) wd_33 (Or.inl rfl) rfl dX11_unit_21 ?_
          refine ev_iload_n (j := 1) (x := v1) dX11_unit_24 rfl rfl ?_
          refine ev_i2c (x := v1) dX11_unit_25 ?_
          obtain ⟨a_13, ea_13, h⟩ := x_some_e h
          refine ev_at (st' := [.int (UInt32.toInt32 (Int32.toUInt32 v1 % 65536)), va_rf (some a_13)]) rfl (by rw [ea_13]) ?_
          obtain ⟨c_17, h⟩ := x_chk_e h
          rcases x_bind_e h with ⟨v_14, σ_15, h_16, h⟩ | ⟨E_18, σ_15, h_16, h⟩
          · have z9 := x_call (M := mX11_unit) (M' := mX10_append) (pc := 26) (st := [.int (UInt32.toInt32 (Int32.toUInt32 v1 % 65536)), va_rf (some a_13)]) (rest := []) (av := [va_rf (some a_13), .int (UInt32.toInt32 (Int32.toUInt32 v1 % 65536))]) (x_linkV (M := mX11_unit) (M' := mX10_append) (As := [.int (UInt32.toInt32 (Int32.toUInt32 v1 % 65536))]) (index := 53) (C := RX10) (T := TX10) (xE_10 c_17) rfl wd_192 wd_193 wd_191 xw_X10_append rfl (by decide) rfl rfl dX11_unit_26) (ev_X10_append hO hP h_16) xw_X10_append rfl wd_118 dX11_unit_26 (by decide) (by decide) (by simp [x_cat, x_catI, x_catJ])
            refine x_callR z9 ?_
            refine ev_at (st' := []) rfl rfl ?_
            refine ev_iconst (v := 1) dX11_unit_29 (by decide) ?_
            cases h
            exact ev_iret rfl rfl dX11_unit_30
          · have z9 := x_call (M := mX11_unit) (M' := mX10_append) (pc := 26) (st := [.int (UInt32.toInt32 (Int32.toUInt32 v1 % 65536)), va_rf (some a_13)]) (rest := []) (av := [va_rf (some a_13), .int (UInt32.toInt32 (Int32.toUInt32 v1 % 65536))]) (x_linkV (M := mX11_unit) (M' := mX10_append) (As := [.int (UInt32.toInt32 (Int32.toUInt32 v1 % 65536))]) (index := 53) (C := RX10) (T := TX10) (xE_10 c_17) rfl wd_192 wd_193 wd_191 xw_X10_append rfl (by decide) rfl rfl dX11_unit_26) (ev_X10_append hO hP h_16) xw_X10_append rfl wd_118 dX11_unit_26 (by decide) (by decide) (by simp [x_cat, x_catI, x_catJ])
            cases h
            exact x_callX z9 (evX_out rfl)
        · rw [if_neg c_11] at h
          refine ev_icmp_ge (x := v_7) (y := 1) (tgt := 20) dX11_unit_15 (by decide) (fun q9 => absurd q9 c_11) (fun _ => ?_)
          exact ev_sub [] rfl (ev_X11_unit_p18 hO hP h)
      · have z9 := x_call (M := mX11_unit) (M' := mX10_room) (pc := 11) (st := [va_rf (some a_6)]) (rest := []) (av := [va_rf (some a_6)]) (x_linkV (M := mX11_unit) (M' := mX10_room) (As := []) (index := 49) (C := RX10) (T := TX10) (xE_10 c_10) rfl wd_188 wd_189 wd_187 xw_X10_room rfl (by decide) rfl rfl dX11_unit_11) (ev_X10_room hO hP h_9) xw_X10_room rfl wd_118 dX11_unit_11 (by decide) (by decide) (by simp [x_cat, x_catI, x_catJ])
        cases h
        exact x_callX z9 (evX_out rfl)
  · have z9 := x_call (M := mX11_unit) (M' := mX10_isCharacter) (pc := 1) (st := [.int v1]) (rest := []) (av := [.int v1]) (x_linkS (M := mX11_unit) (M' := mX10_isCharacter) (As := [.int v1]) (index := 45) wd_184 wd_185 wd_118 xw_X10_isCharacter rfl ⟨_, _, _, Or.inl wd_183⟩ (by decide) rfl rfl dX11_unit_1) (ev_X10_isCharacter hO hP h_3) xw_X10_isCharacter rfl wd_118 dX11_unit_1 (by decide) (by decide) (by simp [x_cat, x_catI, x_catJ])
    cases h
    exact x_callX z9 (evX_out rfl)
set_option maxHeartbeats 4000000 in
set_option maxRecDepth 100000 in
theorem ev_X12_isCharacter_p23 {l : Launch} {G : xG} (hO : x_OK l G) {P : xP} (hP : x_PG P G) {s0 : Int32} {σ σ' : xS} {rr : Int32 ⊕ String} (h : dm_X12_isCharacter_p23 P s0 σ = some (rr, σ')) : Ev l G mX12_isCharacter 23 [] [.int s0] σ (xrI rr) σ' := by
  unfold dm_X12_isCharacter_p23 at h
  obtain ⟨c_1, h⟩ := x_chk_e h
  cases h
  exact ev_iret rfl (x_boolN c_1) dX12_isCharacter_23
set_option maxHeartbeats 4000000 in
set_option maxRecDepth 100000 in
theorem ev_X12_isCharacter_p18 {l : Launch} {G : xG} (hO : x_OK l G) {P : xP} (hP : x_PG P G) {σ σ' : xS} {rr : Int32 ⊕ String} (h : dm_X12_isCharacter_p18 P σ = some (rr, σ')) : Ev l G mX12_isCharacter 18 [] [] σ (xrI rr) σ' := by
  unfold dm_X12_isCharacter_p18 at h
  refine ev_iconst (v := 1) dX12_isCharacter_18 (by decide) ?_
  refine ev_goto (tgt := 23) dX12_isCharacter_19 (by decide) ?_
  exact ev_sub [] rfl (ev_X12_isCharacter_p23 hO hP h)
set_option maxHeartbeats 4000000 in
set_option maxRecDepth 100000 in
theorem ev_X12_isCharacter_p12 {l : Launch} {G : xG} (hO : x_OK l G) {P : xP} (hP : x_PG P G) {v0 : Int32} {σ σ' : xS} {rr : Int32 ⊕ String} (h : dm_X12_isCharacter_p12 P v0 σ = some (rr, σ')) : Ev l G mX12_isCharacter 12 [(0, .int v0)] [] σ (xrI rr) σ' := by
  unfold dm_X12_isCharacter_p12 at h
  refine ev_iload_n (j := 0) (x := v0) dX12_isCharacter_12 rfl rfl ?_
  refine ev_bipush (v := 10) dX12_isCharacter_13 (by decide) ?_
  by_cases c_1 : v0 = 10
  · rw [if_pos c_1] at h
    refine ev_icmp_ne (x := v0) (y := 10) (tgt := 22) dX12_isCharacter_15 (by decide) (fun q9 => absurd c_1 q9) (fun _ => ?_)
    exact ev_sub [] rfl (ev_X12_isCharacter_p18 hO hP h)
  · rw [if_neg c_1] at h
    refine ev_icmp_ne (x := v0) (y := 10) (tgt := 22) dX12_isCharacter_15 (by decide) (fun _ => ?_) (fun q9 => absurd q9 c_1)
    refine ev_iconst (v := 0) dX12_isCharacter_22 (by decide) ?_
    exact ev_sub [] rfl (ev_X12_isCharacter_p23 hO hP h)
set_option maxHeartbeats 4000000 in
set_option maxRecDepth 100000 in
theorem ev_X12_isCharacter {l : Launch} {G : xG} (hO : x_OK l G) {P : xP} (hP : x_PG P G) {v0 : Int32} {σ σ' : xS} {rr : Int32 ⊕ String} (h : dm_X12_isCharacter P v0 σ = some (rr, σ')) : EvM l G mX12_isCharacter [.int v0] σ (xrI rr) σ' := by
  unfold dm_X12_isCharacter at h
  refine evM_of hO (by decide +kernel) (x_lenI (by simp [x_cat, x_catI, x_catJ, mX12_isCharacter, xM.maxL])) ?_
  refine Eq.mp (congrArg (fun z => Ev l G mX12_isCharacter 0 z [] σ (xrI rr) σ') (show [(0, .int v0)] = lv_args 0 [.int v0] by simp [lv_args, x_cat, x_catI, x_catJ])) ?_
  refine ev_iload_n (j := 0) (x := v0) dX12_isCharacter_0 rfl rfl ?_
  refine ev_bipush (v := 32) dX12_isCharacter_1 (by decide) ?_
  by_cases c_1 : v0 < 32
  · rw [if_pos c_1] at h
    refine ev_icmp_lt (x := v0) (y := 32) (tgt := 12) dX12_isCharacter_3 (by decide) (fun _ => ?_) (fun q9 => absurd c_1 q9)
    exact ev_sub [0] rfl (ev_X12_isCharacter_p12 hO hP h)
  · rw [if_neg c_1] at h
    refine ev_icmp_lt (x := v0) (y := 32) (tgt := 12) dX12_isCharacter_3 (by decide) (fun q9 => absurd q9 c_1) (fun _ => ?_)
    refine ev_iload_n (j := 0) (x := v0) dX12_isCharacter_6 rfl rfl ?_
    refine ev_bipush (v := 126) dX12_isCharacter_7 (by decide) ?_
    by_cases c_2 : v0 ≤ 126
    · rw [if_pos c_2] at h
      refine ev_icmp_le (x := v0) (y := 126) (tgt := 18) dX12_isCharacter_9 (by decide) (fun _ => ?_) (fun q9 => absurd c_2 q9)
      exact ev_sub [] rfl (ev_X12_isCharacter_p18 hO hP h)
    · rw [if_neg c_2] at h
      refine ev_icmp_le (x := v0) (y := 126) (tgt := 18) dX12_isCharacter_9 (by decide) (fun q9 => absurd q9 c_2) (fun _ => ?_)
      exact ev_sub [0] rfl (ev_X12_isCharacter_p12 hO hP h)
set_option maxHeartbeats 4000000 in
set_option maxRecDepth 100000 in
theorem ev_X12_unit_p22 {l : Launch} {G : xG} (hO : x_OK l G) {P : xP} (hP : x_PG P G) {a0 : Nat} {σ σ' : xS} {rr : Int32 ⊕ String} (h : dm_X12_unit_p22 P a0 σ = some (rr, σ')) : Ev l G mX12_unit 22 [] [] σ (xrI rr) σ' := by
  unfold dm_X12_unit_p22 at h
  refine ev_iconst (v := 0) dX12_unit_22 (by decide) ?_
  cases h
  exact ev_iret rfl rfl dX12_unit_23
set_option maxHeartbeats 4000000 in
set_option maxRecDepth 100000 in
theorem ev_X12_unit {l : Launch} {G : xG} (hO : x_OK l G) {P : xP} (hP : x_PG P G) {a0 : Nat} {v1 : Int32} {σ σ' : xS} {rr : Int32 ⊕ String} (h : dm_X12_unit P a0 v1 σ = some (rr, σ')) : EvM l G mX12_unit [va_rf (some a0), .int v1] σ (xrI rr) σ' := by
  unfold dm_X12_unit at h
  refine evM_of hO (by decide +kernel) (x_lenI (by simp [x_cat, x_catI, x_catJ, mX12_unit, xM.maxL])) ?_
  refine Eq.mp (congrArg (fun z => Ev l G mX12_unit 0 z [] σ (xrI rr) σ') (show [(0, va_rf (some a0)), (1, .int v1)] = lv_args 0 [va_rf (some a0), .int v1] by simp [lv_args, x_cat, x_catI, x_catJ])) ?_
  refine ev_aload_n (j := 0) (x := (some a0)) dX12_unit_0 rfl rfl ?_
  refine ev_iconst (v := 0) dX12_unit_1 (by decide) ?_
  obtain ⟨c_1, h⟩ := x_chk_e h
  obtain ⟨σ_2, eσ_2, h⟩ := x_let_e h
  refine ev_put (σ2 := σ_2) (C := RX12) (T := TX12) (k := 0) inX12 tyX12 tyX12_ok nmX12 (xE_12 c_1.1) rfl (by decide) wd_194 (Or.inl rfl) rfl rfl rfl rfl (Nat.le_of_ble_eq_true rfl) (hP.2.2.2.1 ▸ c_1.2) (by rw [eσ_2]; exact xP_12_0 _ c_1.1) (by rw [eσ_2]; exact xPut_I) dX12_unit_2 ?_
  refine ev_iload_n (j := 1) (x := v1) dX12_unit_5 rfl rfl ?_
  rcases x_bind_e h with ⟨v_3, σ_4, h_5, h⟩ | ⟨E_15, σ_4, h_5, h⟩
  · have z9 := x_call (M := mX12_unit) (M' := mX12_isCharacter) (pc := 6) (st := [.int v1]) (rest := []) (av := [.int v1]) (x_linkS (M := mX12_unit) (M' := mX12_isCharacter) (As := [.int v1]) (index := 111) wd_196 wd_197 wd_198 xw_X12_isCharacter rfl ⟨_, _, _, Or.inl wd_195⟩ (by decide) rfl rfl dX12_unit_6) (ev_X12_isCharacter hO hP h_5) xw_X12_isCharacter rfl wd_198 dX12_unit_6 (by decide) (by decide) (by simp [x_cat, x_catI, x_catJ])
    refine x_callR z9 ?_
    refine ev_at (st' := [.int v_3]) rfl rfl ?_
    by_cases c_6 : v_3 = 0
    · rw [if_pos c_6] at h
      refine ev_if_eq (x := v_3) (tgt := 22) dX12_unit_9 (by decide) (fun _ => ?_) (fun q9 => absurd c_6 q9)
      exact ev_sub [] rfl (ev_X12_unit_p22 hO hP h)
    · rw [if_neg c_6] at h
      refine ev_if_eq (x := v_3) (tgt := 22) dX12_unit_9 (by decide) (fun q9 => absurd q9 c_6) (fun _ => ?_)
      refine ev_aload_n (j := 0) (x := (some a0)) dX12_unit_12 rfl rfl ?_
      obtain ⟨c_7, h⟩ := x_chk_e h
      refine ev_get (C := RX12) (T := TX12) (k := 2) inX12 (xE_12 c_7) rfl (by decide) wd_199 (Or.inl rfl) rfl dX12_unit_13 ?_
      refine ev_sipush (v := 1000) dX12_unit_16 (by decide) ?_
      by_cases c_8 : (σ_4.I 1102 a0) = 1000
      · rw [if_pos c_8] at h
        refine ev_icmp_ne (x := (σ_4.I 1102 a0)) (y := 1000) (tgt := 24) dX12_unit_19 (by decide) (fun q9 => absurd c_8 q9) (fun _ => ?_)
        exact ev_sub [] rfl (ev_X12_unit_p22 hO hP h)
      · rw [if_neg c_8] at h
        refine ev_icmp_ne (x := (σ_4.I 1102 a0)) (y := 1000) (tgt := 24) dX12_unit_19 (by decide) (fun _ => ?_) (fun q9 => absurd q9 c_8)
        refine ev_aload_n (j := 0) (x := (some a0)) dX12_unit_24 rfl rfl ?_
        refine ev_get (C := RX12) (T := TX12) (k := 1) inX12 (xE_12 c_7) rfl (by decide) wd_150 (Or.inl rfl) rfl dX12_unit_25 ?_
        refine ev_aload_n (j := 0) (x := (some a0)) dX12_unit_28 rfl rfl ?_
        refine ev_get (C := RX12) (T := TX12) (k := 2) inX12 (xE_12 c_7) rfl (by decide) wd_199 (Or.inl rfl) rfl dX12_unit_29 ?_
        refine ev_iload_n (j := 1) (x := v1) dX12_unit_32 rfl rfl ?_
        obtain ⟨a_9, ea_9, h⟩ := x_some_e h
        refine ev_at (st' := [.int v1, .int (σ_4.I 1102 a0), va_rf (some a_9)]) rfl (by rw [ea_9]) ?_
        obtain ⟨c_10, h⟩ := x_chk_e h
        obtain ⟨σ_11, eσ_11, h⟩ := x_let_e h
        refine ev_iast_31 c_10.1 c_10.2.1 (hP.2.2.2.1 ▸ c_10.2.2) dX12_unit_33 (eσ_11 ▸ ?_)
        refine ev_aload_n (j := 0) (x := (some a0)) dX12_unit_34 rfl rfl ?_
        refine ev_dup dX12_unit_35 (x_cat _) ?_
        obtain ⟨c_12, h⟩ := x_chk_e h
        refine ev_get (C := RX12) (T := TX12) (k := 2) inX12 (xE_12 c_12) rfl (by decide) wd_199 (Or.inl rfl) rfl dX12_unit_36 ?_
        refine ev_iconst (v := 1) dX12_unit_39 (by decide) ?_
        refine ev_iadd (x := (σ_11.I 1102 a0)) (y := 1) dX12_unit_40 ?_
        obtain ⟨c_13, h⟩ := x_chk_e h
        obtain ⟨σ_14, eσ_14, h⟩ := x_let_e h
        refine ev_put (σ2 := σ_14) (C := RX12) (T := TX12) (k := 2) inX12 tyX12 tyX12_ok nmX12 (xE_12 c_13.1) rfl (by decide) wd_199 (Or.inl rfl) rfl rfl rfl rfl (Nat.le_of_ble_eq_true rfl) (hP.2.2.2.1 ▸ c_13.2) (by rw [eσ_14]; exact xP_12_2 _ c_13.1) (by rw [eσ_14]; exact xPut_I) dX12_unit_41 ?_
        refine ev_iconst (v := 1) dX12_unit_44 (by decide) ?_
        cases h
        exact ev_iret rfl rfl dX12_unit_45
  · have z9 := x_call (M := mX12_unit) (M' := mX12_isCharacter) (pc := 6) (st := [.int v1]) (rest := []) (av := [.int v1]) (x_linkS (M := mX12_unit) (M' := mX12_isCharacter) (As := [.int v1]) (index := 111) wd_196 wd_197 wd_198 xw_X12_isCharacter rfl ⟨_, _, _, Or.inl wd_195⟩ (by decide) rfl rfl dX12_unit_6) (ev_X12_isCharacter hO hP h_5) xw_X12_isCharacter rfl wd_198 dX12_unit_6 (by decide) (by decide) (by simp [x_cat, x_catI, x_catJ])
    cases h
    exact x_callX z9 (evX_out rfl)
set_option maxHeartbeats 4000000 in
set_option maxRecDepth 100000 in
theorem ev_X11_units_p44 {l : Launch} {G : xG} (hO : x_OK l G) {P : xP} (hP : x_PG P G) {a0 : Nat} {k5 : Int32 → Int32 → Int32 → xS → xO Int32} (hk5 : ∀ {v1 : Int32} {v2 : Int32} {v3 : Int32} {σ σ' : xS} {rr : Int32 ⊕ String}, k5 v1 v2 v3 σ = some (rr, σ') → Ev l G mX11_units 5 [(0, va_rf (some a0)), (1, .int v1), (2, .int v2), (3, .int v3)] [] σ (xrI rr) σ') {v1 : Int32} {v3 : Int32} {s0 : Int32} {s1 : Int32} {σ σ' : xS} {rr : Int32 ⊕ String} (h : dm_X11_units_p44 P k5 a0 v1 v3 s0 s1 σ = some (rr, σ')) : Ev l G mX11_units 44 [(0, va_rf (some a0)), (1, .int v1), (3, .int v3)] [.int s1, .int s0] σ (xrI rr) σ' := by
  unfold dm_X11_units_p44 at h
  refine ev_iadd (x := s0) (y := s1) dX11_units_44 ?_
  obtain ⟨v_1, ev_1, h⟩ := x_let_e h
  rw [← ev_1]
  refine ev_istore_n (i := 2) (lv' := [(2, .int v_1), (0, va_rf (some a0)), (1, .int v1), (3, .int v3)]) dX11_units_45 rfl (by decide) rfl ?_
  obtain ⟨v_2, ev_2, h⟩ := x_let_e h
  refine ev_iinc (j := 3) (x := v3) (v := v_2) (lv' := [(3, .int v_2), (2, .int v_1), (0, va_rf (some a0)), (1, .int v1)]) dX11_units_46 rfl (by rw [ev_2]; rfl) (by decide) rfl ?_
  refine ev_goto (tgt := 5) dX11_units_49 (by decide) ?_
  exact ev_sub [2, 3, 1, 0] rfl (hk5 h)
set_option maxHeartbeats 4000000 in
set_option maxRecDepth 100000 in
theorem ev_X11_units_p33 {l : Launch} {G : xG} (hO : x_OK l G) {P : xP} (hP : x_PG P G) {a0 : Nat} {k5 : Int32 → Int32 → Int32 → xS → xO Int32} (hk5 : ∀ {v1 : Int32} {v2 : Int32} {v3 : Int32} {σ σ' : xS} {rr : Int32 ⊕ String}, k5 v1 v2 v3 σ = some (rr, σ') → Ev l G mX11_units 5 [(0, va_rf (some a0)), (1, .int v1), (2, .int v2), (3, .int v3)] [] σ (xrI rr) σ') {v1 : Int32} {v2 : Int32} {v3 : Int32} {v4 : Int32} {σ σ' : xS} {rr : Int32 ⊕ String} (h : dm_X11_units_p33 P k5 a0 v1 v2 v3 v4 σ = some (rr, σ')) : Ev l G mX11_units 33 [(0, va_rf (some a0)), (1, .int v1), (2, .int v2), (3, .int v3), (4, .int v4)] [] σ (xrI rr) σ' := by
  unfold dm_X11_units_p33 at h
  refine ev_iload_n (j := 2) (x := v2) dX11_units_33 rfl rfl ?_
  refine ev_iload (j := 4) (x := v4) dX11_units_34 rfl ?_
  by_cases c_1 : v4 = 0
  · rw [if_pos c_1] at h
    refine ev_if_ne (x := v4) (tgt := 43) dX11_units_36 (by decide) (fun q9 => absurd c_1 q9) (fun _ => ?_)
    refine ev_iconst (v := 0) dX11_units_39 (by decide) ?_
    refine ev_goto (tgt := 44) dX11_units_40 (by decide) ?_
    exact ev_sub [0, 1, 3] rfl (ev_X11_units_p44 hO hP hk5 h)
  · rw [if_neg c_1] at h
    refine ev_if_ne (x := v4) (tgt := 43) dX11_units_36 (by decide) (fun _ => ?_) (fun q9 => absurd q9 c_1)
    refine ev_iconst (v := 1) dX11_units_43 (by decide) ?_
    exact ev_sub [0, 1, 3] rfl (ev_X11_units_p44 hO hP hk5 h)
set_option maxHeartbeats 4000000 in
set_option maxRecDepth 100000 in
theorem ev_X11_units_p96 {l : Launch} {G : xG} (hO : x_OK l G) {P : xP} (hP : x_PG P G) {a0 : Nat} {k68 : Int32 → Int32 → xS → xO Int32} (hk68 : ∀ {v1 : Int32} {v3 : Int32} {σ σ' : xS} {rr : Int32 ⊕ String}, k68 v1 v3 σ = some (rr, σ') → Ev l G mX11_units 68 [(0, va_rf (some a0)), (1, .int v1), (3, .int v3)] [] σ (xrI rr) σ') {v1 : Int32} {v3 : Int32} {σ σ' : xS} {rr : Int32 ⊕ String} (h : dm_X11_units_p96 P k68 a0 v1 v3 σ = some (rr, σ')) : Ev l G mX11_units 96 [(0, va_rf (some a0)), (1, .int v1), (3, .int v3)] [] σ (xrI rr) σ' := by
  unfold dm_X11_units_p96 at h
  obtain ⟨v_1, ev_1, h⟩ := x_let_e h
  refine ev_iinc (j := 2) (x := v3) (v := v_1) (lv' := [(3, .int v_1), (0, va_rf (some a0)), (1, .int v1)]) dX11_units_96 rfl (by rw [ev_1]; rfl) (by decide) rfl ?_
  refine ev_goto (tgt := 68) dX11_units_99 (by decide) ?_
  exact ev_sub [1, 2, 0] rfl (hk68 h)
set_option maxHeartbeats 4000000 in
set_option maxRecDepth 100000 in
theorem ev_X11_units_L68 {l : Launch} {G : xG} (hO : x_OK l G) {P : xP} (hP : x_PG P G) {a0 : Nat} : ∀ (n : Nat) {v1 : Int32} {v3 : Int32} {σ σ' : xS} {rr : Int32 ⊕ String}, dm_X11_units_L68 P a0 n v1 v3 σ = some (rr, σ') → Ev l G mX11_units 68 [(0, va_rf (some a0)), (1, .int v1), (3, .int v3)] [] σ (xrI rr) σ' := by
  intro n
  induction n with
  | zero => intro v1 v3 σ σ' rr h; cases h
  | succ n ih =>
    intro v1 v3 σ σ' rr h
    rw [dm_X11_units_L68] at h
    refine ev_iload_n (j := 2) (x := v3) dX11_units_68 rfl rfl ?_
    by_cases c_1 : v3 < 0
    · rw [if_pos c_1] at h
      refine ev_if_lt (x := v3) (tgt := 102) dX11_units_69 (by decide) (fun _ => ?_) (fun q9 => absurd c_1 q9)
      refine ev_iconst (v := 1) dX11_units_102 (by decide) ?_
      cases h
      exact ev_iret rfl rfl dX11_units_103
    · rw [if_neg c_1] at h
      refine ev_if_lt (x := v3) (tgt := 102) dX11_units_69 (by decide) (fun q9 => absurd q9 c_1) (fun _ => ?_)
      refine ev_iload_n (j := 1) (x := v1) dX11_units_72 rfl rfl ?_
      refine ev_iload_n (j := 2) (x := v3) dX11_units_73 rfl rfl ?_
      refine ev_iushr (x := v1) (y := v3) dX11_units_74 ?_
      refine ev_sipush (v := 255) dX11_units_75 (by decide) ?_
      refine ev_iand (x := (UInt32.toInt32 (Int32.toUInt32 v1 >>> (Int32.toUInt32 v3 &&& Int32.toUInt32 31)))) (y := 255) dX11_units_78 ?_
      obtain ⟨v_2, ev_2, h⟩ := x_let_e h
      rw [← ev_2]
      refine ev_istore (i := 4) (lv' := [(4, .int v_2), (0, va_rf (some a0)), (1, .int v1), (3, .int v3)]) dX11_units_79 (by decide) rfl ?_
      refine ev_iload (j := 0) (x := v_2) dX11_units_81 rfl ?_
      by_cases c_3 : v_2 = 0
      · rw [if_pos c_3] at h
        refine ev_if_eq (x := v_2) (tgt := 96) dX11_units_83 (by decide) (fun _ => ?_) (fun q9 => absurd c_3 q9)
        exact ev_sub [1, 2, 3] rfl (ev_X11_units_p96 hO hP ih h)
      · rw [if_neg c_3] at h
        refine ev_if_eq (x := v_2) (tgt := 96) dX11_units_83 (by decide) (fun q9 => absurd q9 c_3) (fun _ => ?_)
        refine ev_aload_n (j := 1) (x := (some a0)) dX11_units_86 rfl rfl ?_
        obtain ⟨c_4, h⟩ := x_chk_e h
        refine ev_get (C := RX11) (T := TX11) (k := 0) inX11 (xE_11 c_4) rfl (by decide) wd_33 (Or.inl rfl) rfl dX11_units_87 ?_
        refine ev_iload (j := 0) (x := v_2) dX11_units_90 rfl ?_
        refine ev_i2c (x := v_2) dX11_units_92 ?_
        obtain ⟨a_5, ea_5, h⟩ := x_some_e h
        refine ev_at (st' := [.int (UInt32.toInt32 (Int32.toUInt32 v_2 % 65536)), va_rf (some a_5)]) rfl (by rw [ea_5]) ?_
        obtain ⟨c_9, h⟩ := x_chk_e h
        rcases x_bind_e h with ⟨v_6, σ_7, h_8, h⟩ | ⟨E_10, σ_7, h_8, h⟩
        · have z9 := x_call (M := mX11_units) (M' := mX10_append) (pc := 93) (st := [.int (UInt32.toInt32 (Int32.toUInt32 v_2 % 65536)), va_rf (some a_5)]) (rest := []) (av := [va_rf (some a_5), .int (UInt32.toInt32 (Int32.toUInt32 v_2 % 65536))]) (x_linkV (M := mX11_units) (M' := mX10_append) (As := [.int (UInt32.toInt32 (Int32.toUInt32 v_2 % 65536))]) (index := 53) (C := RX10) (T := TX10) (xE_10 c_9) rfl wd_192 wd_193 wd_191 xw_X10_append rfl (by decide) rfl rfl dX11_units_93) (ev_X10_append hO hP h_8) xw_X10_append rfl wd_118 dX11_units_93 (by decide) (by decide) (by simp [x_cat, x_catI, x_catJ])
          refine x_callR z9 ?_
          refine ev_at (st' := []) rfl rfl ?_
          exact ev_sub [1, 2, 3] rfl (ev_X11_units_p96 hO hP ih h)
        · have z9 := x_call (M := mX11_units) (M' := mX10_append) (pc := 93) (st := [.int (UInt32.toInt32 (Int32.toUInt32 v_2 % 65536)), va_rf (some a_5)]) (rest := []) (av := [va_rf (some a_5), .int (UInt32.toInt32 (Int32.toUInt32 v_2 % 65536))]) (x_linkV (M := mX11_units) (M' := mX10_append) (As := [.int (UInt32.toInt32 (Int32.toUInt32 v_2 % 65536))]) (index := 53) (C := RX10) (T := TX10) (xE_10 c_9) rfl wd_192 wd_193 wd_191 xw_X10_append rfl (by decide) rfl rfl dX11_units_93) (ev_X10_append hO hP h_8) xw_X10_append rfl wd_118 dX11_units_93 (by decide) (by decide) (by simp [x_cat, x_catI, x_catJ])
          cases h
          exact x_callX z9 (evX_out rfl)
set_option maxHeartbeats 4000000 in
set_option maxRecDepth 100000 in
theorem ev_X11_units_L5 {l : Launch} {G : xG} (hO : x_OK l G) {P : xP} (hP : x_PG P G) {a0 : Nat} : ∀ (n : Nat) {v1 : Int32} {v2 : Int32} {v3 : Int32} {σ σ' : xS} {rr : Int32 ⊕ String}, dm_X11_units_L5 P a0 n v1 v2 v3 σ = some (rr, σ') → Ev l G mX11_units 5 [(0, va_rf (some a0)), (1, .int v1), (2, .int v2), (3, .int v3)] [] σ (xrI rr) σ' := by
  intro n
  induction n with
  | zero => intro v1 v2 v3 σ σ' rr h; cases h
  | succ n ih =>
    intro v1 v2 v3 σ σ' rr h
    rw [dm_X11_units_L5] at h
    refine ev_iload_n (j := 3) (x := v3) dX11_units_5 rfl rfl ?_
    by_cases c_1 : v3 < 0
    · rw [if_pos c_1] at h
      refine ev_if_lt (x := v3) (tgt := 52) dX11_units_6 (by decide) (fun _ => ?_) (fun q9 => absurd c_1 q9)
      refine ev_iload_n (j := 2) (x := v2) dX11_units_52 rfl rfl ?_
      refine ev_aload_n (j := 0) (x := (some a0)) dX11_units_53 rfl rfl ?_
      obtain ⟨c_2, h⟩ := x_chk_e h
      refine ev_get (C := RX11) (T := TX11) (k := 0) inX11 (xE_11 c_2) rfl (by decide) wd_33 (Or.inl rfl) rfl dX11_units_54 ?_
      obtain ⟨a_3, ea_3, h⟩ := x_some_e h
      refine ev_at (st' := [va_rf (some a_3), .int v2]) rfl (by rw [ea_3]) ?_
      obtain ⟨c_7, h⟩ := x_chk_e h
      rcases x_bind_e h with ⟨v_4, σ_5, h_6, h⟩ | ⟨E_9, σ_5, h_6, h⟩
      · have z9 := x_call (M := mX11_units) (M' := mX10_room) (pc := 57) (st := [va_rf (some a_3), .int v2]) (rest := [.int v2]) (av := [va_rf (some a_3)]) (x_linkV (M := mX11_units) (M' := mX10_room) (As := []) (index := 49) (C := RX10) (T := TX10) (xE_10 c_7) rfl wd_188 wd_189 wd_187 xw_X10_room rfl (by decide) rfl rfl dX11_units_57) (ev_X10_room hO hP h_6) xw_X10_room rfl wd_118 dX11_units_57 (by decide) (by decide) (by simp [x_cat, x_catI, x_catJ])
        refine x_callR z9 ?_
        refine ev_at (st' := [.int v_4, .int v2]) rfl rfl ?_
        by_cases c_8 : v2 ≤ v_4
        · rw [if_pos c_8] at h
          refine ev_icmp_le (x := v2) (y := v_4) (tgt := 65) dX11_units_60 (by decide) (fun _ => ?_) (fun q9 => absurd c_8 q9)
          refine ev_bipush (v := 24) dX11_units_65 (by decide) ?_
          refine ev_istore_n (i := 3) (lv' := [(3, .int 24), (0, va_rf (some a0)), (1, .int v1), (2, .int v2)]) dX11_units_67 rfl (by decide) rfl ?_
          exact ev_sub [1, 2, 0] rfl (ev_X11_units_L68 hO hP P.N h)
        · rw [if_neg c_8] at h
          refine ev_icmp_le (x := v2) (y := v_4) (tgt := 65) dX11_units_60 (by decide) (fun q9 => absurd q9 c_8) (fun _ => ?_)
          refine ev_iconst (v := 0) dX11_units_63 (by decide) ?_
          cases h
          exact ev_iret rfl rfl dX11_units_64
      · have z9 := x_call (M := mX11_units) (M' := mX10_room) (pc := 57) (st := [va_rf (some a_3), .int v2]) (rest := [.int v2]) (av := [va_rf (some a_3)]) (x_linkV (M := mX11_units) (M' := mX10_room) (As := []) (index := 49) (C := RX10) (T := TX10) (xE_10 c_7) rfl wd_188 wd_189 wd_187 xw_X10_room rfl (by decide) rfl rfl dX11_units_57) (ev_X10_room hO hP h_6) xw_X10_room rfl wd_118 dX11_units_57 (by decide) (by decide) (by simp [x_cat, x_catI, x_catJ])
        cases h
        exact x_callX z9 (evX_out rfl)
    · rw [if_neg c_1] at h
      refine ev_if_lt (x := v3) (tgt := 52) dX11_units_6 (by decide) (fun q9 => absurd q9 c_1) (fun _ => ?_)
      refine ev_iload_n (j := 1) (x := v1) dX11_units_9 rfl rfl ?_
      refine ev_iload_n (j := 3) (x := v3) dX11_units_10 rfl rfl ?_
      refine ev_iushr (x := v1) (y := v3) dX11_units_11 ?_
      refine ev_sipush (v := 255) dX11_units_12 (by decide) ?_
      refine ev_iand (x := (UInt32.toInt32 (Int32.toUInt32 v1 >>> (Int32.toUInt32 v3 &&& Int32.toUInt32 31)))) (y := 255) dX11_units_15 ?_
      obtain ⟨v_10, ev_10, h⟩ := x_let_e h
      rw [← ev_10]
      refine ev_istore (i := 4) (lv' := [(4, .int v_10), (0, va_rf (some a0)), (1, .int v1), (2, .int v2), (3, .int v3)]) dX11_units_16 (by decide) rfl ?_
      refine ev_iload (j := 0) (x := v_10) dX11_units_18 rfl ?_
      by_cases c_11 : v_10 = 0
      · rw [if_pos c_11] at h
        refine ev_if_eq (x := v_10) (tgt := 33) dX11_units_20 (by decide) (fun _ => ?_) (fun q9 => absurd c_11 q9)
        exact ev_sub [1, 2, 3, 4, 0] rfl (ev_X11_units_p33 hO hP ih h)
      · rw [if_neg c_11] at h
        refine ev_if_eq (x := v_10) (tgt := 33) dX11_units_20 (by decide) (fun q9 => absurd q9 c_11) (fun _ => ?_)
        refine ev_iload (j := 0) (x := v_10) dX11_units_23 rfl ?_
        rcases x_bind_e h with ⟨v_12, σ_13, h_14, h⟩ | ⟨E_16, σ_13, h_14, h⟩
        · have z9 := x_call (M := mX11_units) (M' := mX10_isCharacter) (pc := 25) (st := [.int v_10]) (rest := []) (av := [.int v_10]) (x_linkS (M := mX11_units) (M' := mX10_isCharacter) (As := [.int v_10]) (index := 45) wd_184 wd_185 wd_118 xw_X10_isCharacter rfl ⟨_, _, _, Or.inl wd_183⟩ (by decide) rfl rfl dX11_units_25) (ev_X10_isCharacter hO hP h_14) xw_X10_isCharacter rfl wd_118 dX11_units_25 (by decide) (by decide) (by simp [x_cat, x_catI, x_catJ])
          refine x_callR z9 ?_
          refine ev_at (st' := [.int v_12]) rfl rfl ?_
          by_cases c_15 : v_12 = 0
          · rw [if_pos c_15] at h
            refine ev_if_ne (x := v_12) (tgt := 33) dX11_units_28 (by decide) (fun q9 => absurd c_15 q9) (fun _ => ?_)
            refine ev_iconst (v := 0) dX11_units_31 (by decide) ?_
            cases h
            exact ev_iret rfl rfl dX11_units_32
          · rw [if_neg c_15] at h
            refine ev_if_ne (x := v_12) (tgt := 33) dX11_units_28 (by decide) (fun _ => ?_) (fun q9 => absurd q9 c_15)
            exact ev_sub [1, 2, 3, 4, 0] rfl (ev_X11_units_p33 hO hP ih h)
        · have z9 := x_call (M := mX11_units) (M' := mX10_isCharacter) (pc := 25) (st := [.int v_10]) (rest := []) (av := [.int v_10]) (x_linkS (M := mX11_units) (M' := mX10_isCharacter) (As := [.int v_10]) (index := 45) wd_184 wd_185 wd_118 xw_X10_isCharacter rfl ⟨_, _, _, Or.inl wd_183⟩ (by decide) rfl rfl dX11_units_25) (ev_X10_isCharacter hO hP h_14) xw_X10_isCharacter rfl wd_118 dX11_units_25 (by decide) (by decide) (by simp [x_cat, x_catI, x_catJ])
          cases h
          exact x_callX z9 (evX_out rfl)
set_option maxHeartbeats 4000000 in
set_option maxRecDepth 100000 in
theorem ev_X11_units {l : Launch} {G : xG} (hO : x_OK l G) {P : xP} (hP : x_PG P G) {a0 : Nat} {v1 : Int32} {σ σ' : xS} {rr : Int32 ⊕ String} (h : dm_X11_units P a0 v1 σ = some (rr, σ')) : EvM l G mX11_units [va_rf (some a0), .int v1] σ (xrI rr) σ' := by
  unfold dm_X11_units at h
  refine evM_of hO (by decide +kernel) (x_lenI (by simp [x_cat, x_catI, x_catJ, mX11_units, xM.maxL])) ?_
  refine Eq.mp (congrArg (fun z => Ev l G mX11_units 0 z [] σ (xrI rr) σ') (show [(0, va_rf (some a0)), (1, .int v1)] = lv_args 0 [va_rf (some a0), .int v1] by simp [lv_args, x_cat, x_catI, x_catJ])) ?_
  refine ev_iconst (v := 0) dX11_units_0 (by decide) ?_
  refine ev_istore_n (i := 2) (lv' := [(2, .int 0), (0, va_rf (some a0)), (1, .int v1)]) dX11_units_1 rfl (by decide) rfl ?_
  refine ev_bipush (v := 24) dX11_units_2 (by decide) ?_
  refine ev_istore_n (i := 3) (lv' := [(3, .int 24), (2, .int 0), (0, va_rf (some a0)), (1, .int v1)]) dX11_units_4 rfl (by decide) rfl ?_
  exact ev_sub [2, 3, 1, 0] rfl (ev_X11_units_L5 hO hP P.N h)
set_option maxHeartbeats 4000000 in
set_option maxRecDepth 100000 in
theorem ev_X12_units_p63 {l : Launch} {G : xG} (hO : x_OK l G) {P : xP} (hP : x_PG P G) {a0 : Nat} {k13 : Int32 → Int32 → Int32 → Int32 → xS → xO Int32} (hk13 : ∀ {v1 : Int32} {v2 : Int32} {v3 : Int32} {v4 : Int32} {σ σ' : xS} {rr : Int32 ⊕ String}, k13 v1 v2 v3 v4 σ = some (rr, σ') → Ev l G mX12_units 13 [(0, va_rf (some a0)), (1, .int v1), (2, .int v2), (3, .int v3), (4, .int v4)] [] σ (xrI rr) σ') {v1 : Int32} {v2 : Int32} {v4 : Int32} {s0 : Int32} {σ σ' : xS} {rr : Int32 ⊕ String} (h : dm_X12_units_p63 P k13 a0 v1 v2 v4 s0 σ = some (rr, σ')) : Ev l G mX12_units 63 [(0, va_rf (some a0)), (1, .int v1), (2, .int v2), (4, .int v4)] [.int s0] σ (xrI rr) σ' := by
  unfold dm_X12_units_p63 at h
  refine ev_istore_n (i := 3) (lv' := [(3, .int s0), (0, va_rf (some a0)), (1, .int v1), (2, .int v2), (4, .int v4)]) dX12_units_63 rfl (by decide) rfl ?_
  obtain ⟨v_1, ev_1, h⟩ := x_let_e h
  refine ev_iinc (j := 4) (x := v4) (v := v_1) (lv' := [(4, .int v_1), (3, .int s0), (0, va_rf (some a0)), (1, .int v1), (2, .int v2)]) dX12_units_64 rfl (by rw [ev_1]; rfl) (by decide) rfl ?_
  refine ev_goto (tgt := 13) dX12_units_67 (by decide) ?_
  exact ev_sub [2, 3, 4, 1, 0] rfl (hk13 h)
set_option maxHeartbeats 4000000 in
set_option maxRecDepth 100000 in
theorem ev_X12_units_p58 {l : Launch} {G : xG} (hO : x_OK l G) {P : xP} (hP : x_PG P G) {a0 : Nat} {k13 : Int32 → Int32 → Int32 → Int32 → xS → xO Int32} (hk13 : ∀ {v1 : Int32} {v2 : Int32} {v3 : Int32} {v4 : Int32} {σ σ' : xS} {rr : Int32 ⊕ String}, k13 v1 v2 v3 v4 σ = some (rr, σ') → Ev l G mX12_units 13 [(0, va_rf (some a0)), (1, .int v1), (2, .int v2), (3, .int v3), (4, .int v4)] [] σ (xrI rr) σ') {v1 : Int32} {v2 : Int32} {v4 : Int32} {σ σ' : xS} {rr : Int32 ⊕ String} (h : dm_X12_units_p58 P k13 a0 v1 v2 v4 σ = some (rr, σ')) : Ev l G mX12_units 58 [(0, va_rf (some a0)), (1, .int v1), (2, .int v2), (4, .int v4)] [] σ (xrI rr) σ' := by
  unfold dm_X12_units_p58 at h
  refine ev_iconst (v := 1) dX12_units_58 (by decide) ?_
  refine ev_goto (tgt := 63) dX12_units_59 (by decide) ?_
  exact ev_sub [0, 1, 2, 3] rfl (ev_X12_units_p63 hO hP hk13 h)
set_option maxHeartbeats 4000000 in
set_option maxRecDepth 100000 in
theorem ev_X12_units_p62 {l : Launch} {G : xG} (hO : x_OK l G) {P : xP} (hP : x_PG P G) {a0 : Nat} {k13 : Int32 → Int32 → Int32 → Int32 → xS → xO Int32} (hk13 : ∀ {v1 : Int32} {v2 : Int32} {v3 : Int32} {v4 : Int32} {σ σ' : xS} {rr : Int32 ⊕ String}, k13 v1 v2 v3 v4 σ = some (rr, σ') → Ev l G mX12_units 13 [(0, va_rf (some a0)), (1, .int v1), (2, .int v2), (3, .int v3), (4, .int v4)] [] σ (xrI rr) σ') {v1 : Int32} {v2 : Int32} {v4 : Int32} {σ σ' : xS} {rr : Int32 ⊕ String} (h : dm_X12_units_p62 P k13 a0 v1 v2 v4 σ = some (rr, σ')) : Ev l G mX12_units 62 [(0, va_rf (some a0)), (1, .int v1), (2, .int v2), (4, .int v4)] [] σ (xrI rr) σ' := by
  unfold dm_X12_units_p62 at h
  refine ev_iconst (v := 0) dX12_units_62 (by decide) ?_
  exact ev_sub [0, 1, 2, 3] rfl (ev_X12_units_p63 hO hP hk13 h)
set_option maxHeartbeats 4000000 in
set_option maxRecDepth 100000 in
theorem ev_X12_units_p40 {l : Launch} {G : xG} (hO : x_OK l G) {P : xP} (hP : x_PG P G) {a0 : Nat} {k13 : Int32 → Int32 → Int32 → Int32 → xS → xO Int32} (hk13 : ∀ {v1 : Int32} {v2 : Int32} {v3 : Int32} {v4 : Int32} {σ σ' : xS} {rr : Int32 ⊕ String}, k13 v1 v2 v3 v4 σ = some (rr, σ') → Ev l G mX12_units 13 [(0, va_rf (some a0)), (1, .int v1), (2, .int v2), (3, .int v3), (4, .int v4)] [] σ (xrI rr) σ') {v1 : Int32} {v3 : Int32} {v4 : Int32} {v5 : Int32} {s0 : Int32} {σ σ' : xS} {rr : Int32 ⊕ String} (h : dm_X12_units_p40 P k13 a0 v1 v3 v4 v5 s0 σ = some (rr, σ')) : Ev l G mX12_units 40 [(0, va_rf (some a0)), (1, .int v1), (3, .int v3), (4, .int v4), (5, .int v5)] [.int s0] σ (xrI rr) σ' := by
  unfold dm_X12_units_p40 at h
  refine ev_istore_n (i := 2) (lv' := [(2, .int s0), (0, va_rf (some a0)), (1, .int v1), (3, .int v3), (4, .int v4), (5, .int v5)]) dX12_units_40 rfl (by decide) rfl ?_
  refine ev_iload_n (j := 3) (x := v3) dX12_units_41 rfl rfl ?_
  by_cases c_1 : v3 = 0
  · rw [if_pos c_1] at h
    refine ev_if_eq (x := v3) (tgt := 62) dX12_units_42 (by decide) (fun _ => ?_) (fun q9 => absurd c_1 q9)
    exact ev_sub [1, 2, 0, 4] rfl (ev_X12_units_p62 hO hP hk13 h)
  · rw [if_neg c_1] at h
    refine ev_if_eq (x := v3) (tgt := 62) dX12_units_42 (by decide) (fun q9 => absurd q9 c_1) (fun _ => ?_)
    refine ev_iload (j := 5) (x := v5) dX12_units_45 rfl ?_
    by_cases c_2 : v5 = 0
    · rw [if_pos c_2] at h
      refine ev_if_eq (x := v5) (tgt := 58) dX12_units_47 (by decide) (fun _ => ?_) (fun q9 => absurd c_2 q9)
      exact ev_sub [1, 2, 0, 4] rfl (ev_X12_units_p58 hO hP hk13 h)
    · rw [if_neg c_2] at h
      refine ev_if_eq (x := v5) (tgt := 58) dX12_units_47 (by decide) (fun q9 => absurd q9 c_2) (fun _ => ?_)
      refine ev_iload (j := 5) (x := v5) dX12_units_50 rfl ?_
      rcases x_bind_e h with ⟨v_3, σ_4, h_5, h⟩ | ⟨E_7, σ_4, h_5, h⟩
      · have z9 := x_call (M := mX12_units) (M' := mX12_isCharacter) (pc := 52) (st := [.int v5]) (rest := []) (av := [.int v5]) (x_linkS (M := mX12_units) (M' := mX12_isCharacter) (As := [.int v5]) (index := 111) wd_196 wd_197 wd_198 xw_X12_isCharacter rfl ⟨_, _, _, Or.inl wd_195⟩ (by decide) rfl rfl dX12_units_52) (ev_X12_isCharacter hO hP h_5) xw_X12_isCharacter rfl wd_198 dX12_units_52 (by decide) (by decide) (by simp [x_cat, x_catI, x_catJ])
        refine x_callR z9 ?_
        refine ev_at (st' := [.int v_3]) rfl rfl ?_
        by_cases c_6 : v_3 = 0
        · rw [if_pos c_6] at h
          refine ev_if_eq (x := v_3) (tgt := 62) dX12_units_55 (by decide) (fun _ => ?_) (fun q9 => absurd c_6 q9)
          exact ev_sub [1, 2, 0, 4] rfl (ev_X12_units_p62 hO hP hk13 h)
        · rw [if_neg c_6] at h
          refine ev_if_eq (x := v_3) (tgt := 62) dX12_units_55 (by decide) (fun q9 => absurd q9 c_6) (fun _ => ?_)
          exact ev_sub [1, 2, 0, 4] rfl (ev_X12_units_p58 hO hP hk13 h)
      · have z9 := x_call (M := mX12_units) (M' := mX12_isCharacter) (pc := 52) (st := [.int v5]) (rest := []) (av := [.int v5]) (x_linkS (M := mX12_units) (M' := mX12_isCharacter) (As := [.int v5]) (index := 111) wd_196 wd_197 wd_198 xw_X12_isCharacter rfl ⟨_, _, _, Or.inl wd_195⟩ (by decide) rfl rfl dX12_units_52) (ev_X12_isCharacter hO hP h_5) xw_X12_isCharacter rfl wd_198 dX12_units_52 (by decide) (by decide) (by simp [x_cat, x_catI, x_catJ])
        cases h
        exact x_callX z9 (evX_out rfl)
set_option maxHeartbeats 4000000 in
set_option maxRecDepth 100000 in
theorem ev_X12_units_p86 {l : Launch} {G : xG} (hO : x_OK l G) {P : xP} (hP : x_PG P G) {a0 : Nat} {σ σ' : xS} {rr : Int32 ⊕ String} (h : dm_X12_units_p86 P a0 σ = some (rr, σ')) : Ev l G mX12_units 86 [] [] σ (xrI rr) σ' := by
  unfold dm_X12_units_p86 at h
  refine ev_iconst (v := 0) dX12_units_86 (by decide) ?_
  cases h
  exact ev_iret rfl rfl dX12_units_87
set_option maxHeartbeats 4000000 in
set_option maxRecDepth 100000 in
theorem ev_X12_units_p133 {l : Launch} {G : xG} (hO : x_OK l G) {P : xP} (hP : x_PG P G) {a0 : Nat} {k92 : Int32 → Int32 → xS → xO Int32} (hk92 : ∀ {v1 : Int32} {v4 : Int32} {σ σ' : xS} {rr : Int32 ⊕ String}, k92 v1 v4 σ = some (rr, σ') → Ev l G mX12_units 92 [(0, va_rf (some a0)), (1, .int v1), (4, .int v4)] [] σ (xrI rr) σ') {v1 : Int32} {v4 : Int32} {σ σ' : xS} {rr : Int32 ⊕ String} (h : dm_X12_units_p133 P k92 a0 v1 v4 σ = some (rr, σ')) : Ev l G mX12_units 133 [(0, va_rf (some a0)), (1, .int v1), (4, .int v4)] [] σ (xrI rr) σ' := by
  unfold dm_X12_units_p133 at h
  obtain ⟨v_1, ev_1, h⟩ := x_let_e h
  refine ev_iinc (j := 2) (x := v4) (v := v_1) (lv' := [(4, .int v_1), (0, va_rf (some a0)), (1, .int v1)]) dX12_units_133 rfl (by rw [ev_1]; rfl) (by decide) rfl ?_
  refine ev_goto (tgt := 92) dX12_units_136 (by decide) ?_
  exact ev_sub [1, 2, 0] rfl (hk92 h)
set_option maxHeartbeats 4000000 in
set_option maxRecDepth 100000 in
theorem ev_X12_units_L92 {l : Launch} {G : xG} (hO : x_OK l G) {P : xP} (hP : x_PG P G) {a0 : Nat} : ∀ (n : Nat) {v1 : Int32} {v4 : Int32} {σ σ' : xS} {rr : Int32 ⊕ String}, dm_X12_units_L92 P a0 n v1 v4 σ = some (rr, σ') → Ev l G mX12_units 92 [(0, va_rf (some a0)), (1, .int v1), (4, .int v4)] [] σ (xrI rr) σ' := by
  intro n
  induction n with
  | zero => intro v1 v4 σ σ' rr h; cases h
  | succ n ih =>
    intro v1 v4 σ σ' rr h
    rw [dm_X12_units_L92] at h
    refine ev_iload (j := 2) (x := v4) dX12_units_92 rfl ?_
    by_cases c_1 : v4 < 0
    · rw [if_pos c_1] at h
      refine ev_if_lt (x := v4) (tgt := 139) dX12_units_94 (by decide) (fun _ => ?_) (fun q9 => absurd c_1 q9)
      refine ev_iconst (v := 1) dX12_units_139 (by decide) ?_
      cases h
      exact ev_iret rfl rfl dX12_units_140
    · rw [if_neg c_1] at h
      refine ev_if_lt (x := v4) (tgt := 139) dX12_units_94 (by decide) (fun q9 => absurd q9 c_1) (fun _ => ?_)
      refine ev_iload_n (j := 1) (x := v1) dX12_units_97 rfl rfl ?_
      refine ev_iload (j := 2) (x := v4) dX12_units_98 rfl ?_
      refine ev_iushr (x := v1) (y := v4) dX12_units_100 ?_
      refine ev_sipush (v := 255) dX12_units_101 (by decide) ?_
      refine ev_iand (x := (UInt32.toInt32 (Int32.toUInt32 v1 >>> (Int32.toUInt32 v4 &&& Int32.toUInt32 31)))) (y := 255) dX12_units_104 ?_
      obtain ⟨v_2, ev_2, h⟩ := x_let_e h
      rw [← ev_2]
      refine ev_istore (i := 5) (lv' := [(5, .int v_2), (0, va_rf (some a0)), (1, .int v1), (4, .int v4)]) dX12_units_105 (by decide) rfl ?_
      refine ev_iload (j := 0) (x := v_2) dX12_units_107 rfl ?_
      by_cases c_3 : v_2 ≤ 0
      · rw [if_pos c_3] at h
        refine ev_if_le (x := v_2) (tgt := 133) dX12_units_109 (by decide) (fun _ => ?_) (fun q9 => absurd c_3 q9)
        exact ev_sub [1, 2, 3] rfl (ev_X12_units_p133 hO hP ih h)
      · rw [if_neg c_3] at h
        refine ev_if_le (x := v_2) (tgt := 133) dX12_units_109 (by decide) (fun q9 => absurd q9 c_3) (fun _ => ?_)
        refine ev_aload_n (j := 1) (x := (some a0)) dX12_units_112 rfl rfl ?_
        obtain ⟨c_4, h⟩ := x_chk_e h
        refine ev_get (C := RX12) (T := TX12) (k := 1) inX12 (xE_12 c_4) rfl (by decide) wd_150 (Or.inl rfl) rfl dX12_units_113 ?_
        refine ev_aload_n (j := 1) (x := (some a0)) dX12_units_116 rfl rfl ?_
        refine ev_get (C := RX12) (T := TX12) (k := 2) inX12 (xE_12 c_4) rfl (by decide) wd_199 (Or.inl rfl) rfl dX12_units_117 ?_
        refine ev_iload (j := 0) (x := v_2) dX12_units_120 rfl ?_
        obtain ⟨a_5, ea_5, h⟩ := x_some_e h
        refine ev_at (st' := [.int v_2, .int (σ.I 1102 a0), va_rf (some a_5)]) rfl (by rw [ea_5]) ?_
        obtain ⟨c_6, h⟩ := x_chk_e h
        obtain ⟨σ_7, eσ_7, h⟩ := x_let_e h
        refine ev_iast_31 c_6.1 c_6.2.1 (hP.2.2.2.1 ▸ c_6.2.2) dX12_units_122 (eσ_7 ▸ ?_)
        refine ev_aload_n (j := 1) (x := (some a0)) dX12_units_123 rfl rfl ?_
        refine ev_dup dX12_units_124 (x_cat _) ?_
        obtain ⟨c_8, h⟩ := x_chk_e h
        refine ev_get (C := RX12) (T := TX12) (k := 2) inX12 (xE_12 c_8) rfl (by decide) wd_199 (Or.inl rfl) rfl dX12_units_125 ?_
        refine ev_iconst (v := 1) dX12_units_128 (by decide) ?_
        refine ev_iadd (x := (σ_7.I 1102 a0)) (y := 1) dX12_units_129 ?_
        obtain ⟨c_9, h⟩ := x_chk_e h
        obtain ⟨σ_10, eσ_10, h⟩ := x_let_e h
        refine ev_put (σ2 := σ_10) (C := RX12) (T := TX12) (k := 2) inX12 tyX12 tyX12_ok nmX12 (xE_12 c_9.1) rfl (by decide) wd_199 (Or.inl rfl) rfl rfl rfl rfl (Nat.le_of_ble_eq_true rfl) (hP.2.2.2.1 ▸ c_9.2) (by rw [eσ_10]; exact xP_12_2 _ c_9.1) (by rw [eσ_10]; exact xPut_I) dX12_units_130 ?_
        exact ev_sub [1, 2, 3] rfl (ev_X12_units_p133 hO hP ih h)
set_option maxHeartbeats 4000000 in
set_option maxRecDepth 100000 in
theorem ev_X12_units_L13 {l : Launch} {G : xG} (hO : x_OK l G) {P : xP} (hP : x_PG P G) {a0 : Nat} : ∀ (n : Nat) {v1 : Int32} {v2 : Int32} {v3 : Int32} {v4 : Int32} {σ σ' : xS} {rr : Int32 ⊕ String}, dm_X12_units_L13 P a0 n v1 v2 v3 v4 σ = some (rr, σ') → Ev l G mX12_units 13 [(0, va_rf (some a0)), (1, .int v1), (2, .int v2), (3, .int v3), (4, .int v4)] [] σ (xrI rr) σ' := by
  intro n
  induction n with
  | zero => intro v1 v2 v3 v4 σ σ' rr h; cases h
  | succ n ih =>
    intro v1 v2 v3 v4 σ σ' rr h
    rw [dm_X12_units_L13] at h
    refine ev_iload (j := 4) (x := v4) dX12_units_13 rfl ?_
    by_cases c_1 : v4 < 0
    · rw [if_pos c_1] at h
      refine ev_if_lt (x := v4) (tgt := 70) dX12_units_15 (by decide) (fun _ => ?_) (fun q9 => absurd c_1 q9)
      refine ev_iload_n (j := 3) (x := v3) dX12_units_70 rfl rfl ?_
      by_cases c_2 : v3 = 0
      · rw [if_pos c_2] at h
        refine ev_if_eq (x := v3) (tgt := 86) dX12_units_71 (by decide) (fun _ => ?_) (fun q9 => absurd c_2 q9)
        exact ev_sub [] rfl (ev_X12_units_p86 hO hP h)
      · rw [if_neg c_2] at h
        refine ev_if_eq (x := v3) (tgt := 86) dX12_units_71 (by decide) (fun q9 => absurd q9 c_2) (fun _ => ?_)
        refine ev_aload_n (j := 0) (x := (some a0)) dX12_units_74 rfl rfl ?_
        obtain ⟨c_3, h⟩ := x_chk_e h
        refine ev_get (C := RX12) (T := TX12) (k := 2) inX12 (xE_12 c_3) rfl (by decide) wd_199 (Or.inl rfl) rfl dX12_units_75 ?_
        refine ev_iload_n (j := 2) (x := v2) dX12_units_78 rfl rfl ?_
        refine ev_iadd (x := (σ.I 1102 a0)) (y := v2) dX12_units_79 ?_
        refine ev_sipush (v := 1000) dX12_units_80 (by decide) ?_
        by_cases c_4 : ((σ.I 1102 a0) + v2) ≤ 1000
        · rw [if_pos c_4] at h
          refine ev_icmp_le (x := ((σ.I 1102 a0) + v2)) (y := 1000) (tgt := 88) dX12_units_83 (by decide) (fun _ => ?_) (fun q9 => absurd c_4 q9)
          refine ev_bipush (v := 24) dX12_units_88 (by decide) ?_
          refine ev_istore (i := 4) (lv' := [(4, .int 24), (0, va_rf (some a0)), (1, .int v1), (2, .int v2), (3, .int v3)]) dX12_units_90 (by decide) rfl ?_
          exact ev_sub [1, 2, 0] rfl (ev_X12_units_L92 hO hP P.N h)
        · rw [if_neg c_4] at h
          refine ev_icmp_le (x := ((σ.I 1102 a0) + v2)) (y := 1000) (tgt := 88) dX12_units_83 (by decide) (fun q9 => absurd q9 c_4) (fun _ => ?_)
          exact ev_sub [] rfl (ev_X12_units_p86 hO hP h)
    · rw [if_neg c_1] at h
      refine ev_if_lt (x := v4) (tgt := 70) dX12_units_15 (by decide) (fun q9 => absurd q9 c_1) (fun _ => ?_)
      refine ev_iload_n (j := 1) (x := v1) dX12_units_18 rfl rfl ?_
      refine ev_iload (j := 4) (x := v4) dX12_units_19 rfl ?_
      refine ev_iushr (x := v1) (y := v4) dX12_units_21 ?_
      refine ev_sipush (v := 255) dX12_units_22 (by decide) ?_
      refine ev_iand (x := (UInt32.toInt32 (Int32.toUInt32 v1 >>> (Int32.toUInt32 v4 &&& Int32.toUInt32 31)))) (y := 255) dX12_units_25 ?_
      obtain ⟨v_5, ev_5, h⟩ := x_let_e h
      rw [← ev_5]
      refine ev_istore (i := 5) (lv' := [(5, .int v_5), (0, va_rf (some a0)), (1, .int v1), (2, .int v2), (3, .int v3), (4, .int v4)]) dX12_units_26 (by decide) rfl ?_
      refine ev_iload (j := 0) (x := v_5) dX12_units_28 rfl ?_
      by_cases c_6 : v_5 ≤ 0
      · rw [if_pos c_6] at h
        refine ev_if_le (x := v_5) (tgt := 39) dX12_units_30 (by decide) (fun _ => ?_) (fun q9 => absurd c_6 q9)
        refine ev_iload_n (j := 3) (x := v2) dX12_units_39 rfl rfl ?_
        exact ev_sub [1, 2, 4, 5, 0] rfl (ev_X12_units_p40 hO hP ih h)
      · rw [if_neg c_6] at h
        refine ev_if_le (x := v_5) (tgt := 39) dX12_units_30 (by decide) (fun q9 => absurd q9 c_6) (fun _ => ?_)
        refine ev_iload_n (j := 3) (x := v2) dX12_units_33 rfl rfl ?_
        refine ev_iconst (v := 1) dX12_units_34 (by decide) ?_
        refine ev_iadd (x := v2) (y := 1) dX12_units_35 ?_
        refine ev_goto (tgt := 40) dX12_units_36 (by decide) ?_
        exact ev_sub [1, 2, 4, 5, 0] rfl (ev_X12_units_p40 hO hP ih h)
set_option maxHeartbeats 4000000 in
set_option maxRecDepth 100000 in
theorem ev_X12_units {l : Launch} {G : xG} (hO : x_OK l G) {P : xP} (hP : x_PG P G) {a0 : Nat} {v1 : Int32} {σ σ' : xS} {rr : Int32 ⊕ String} (h : dm_X12_units P a0 v1 σ = some (rr, σ')) : EvM l G mX12_units [va_rf (some a0), .int v1] σ (xrI rr) σ' := by
  unfold dm_X12_units at h
  refine evM_of hO (by decide +kernel) (x_lenI (by simp [x_cat, x_catI, x_catJ, mX12_units, xM.maxL])) ?_
  refine Eq.mp (congrArg (fun z => Ev l G mX12_units 0 z [] σ (xrI rr) σ') (show [(0, va_rf (some a0)), (1, .int v1)] = lv_args 0 [va_rf (some a0), .int v1] by simp [lv_args, x_cat, x_catI, x_catJ])) ?_
  refine ev_aload_n (j := 0) (x := (some a0)) dX12_units_0 rfl rfl ?_
  refine ev_iconst (v := 0) dX12_units_1 (by decide) ?_
  obtain ⟨c_1, h⟩ := x_chk_e h
  obtain ⟨σ_2, eσ_2, h⟩ := x_let_e h
  refine ev_put (σ2 := σ_2) (C := RX12) (T := TX12) (k := 0) inX12 tyX12 tyX12_ok nmX12 (xE_12 c_1.1) rfl (by decide) wd_194 (Or.inl rfl) rfl rfl rfl rfl (Nat.le_of_ble_eq_true rfl) (hP.2.2.2.1 ▸ c_1.2) (by rw [eσ_2]; exact xP_12_0 _ c_1.1) (by rw [eσ_2]; exact xPut_I) dX12_units_2 ?_
  refine ev_iconst (v := 0) dX12_units_5 (by decide) ?_
  refine ev_istore_n (i := 2) (lv' := [(2, .int 0), (0, va_rf (some a0)), (1, .int v1)]) dX12_units_6 rfl (by decide) rfl ?_
  refine ev_iconst (v := 1) dX12_units_7 (by decide) ?_
  refine ev_istore_n (i := 3) (lv' := [(3, .int 1), (2, .int 0), (0, va_rf (some a0)), (1, .int v1)]) dX12_units_8 rfl (by decide) rfl ?_
  refine ev_bipush (v := 24) dX12_units_9 (by decide) ?_
  refine ev_istore (i := 4) (lv' := [(4, .int 24), (3, .int 1), (2, .int 0), (0, va_rf (some a0)), (1, .int v1)]) dX12_units_11 (by decide) rfl ?_
  exact ev_sub [3, 4, 2, 1, 0] rfl (ev_X12_units_L13 hO hP P.N h)
set_option maxHeartbeats 4000000 in
set_option maxRecDepth 100000 in
theorem ev_X10_behindBlanks_p84 {l : Launch} {G : xG} (hO : x_OK l G) {P : xP} (hP : x_PG P G) {a0 : Nat} {k4 : Int32 → Int32 → xS → xO Int32} (hk4 : ∀ {v2 : Int32} {v3 : Int32} {σ σ' : xS} {rr : Int32 ⊕ String}, k4 v2 v3 σ = some (rr, σ') → Ev l G mX10_behindBlanks 4 [(0, va_rf (some a0)), (2, .int v2), (3, .int v3)] [] σ (xrI rr) σ') {v2 : Int32} {v3 : Int32} {σ σ' : xS} {rr : Int32 ⊕ String} (h : dm_X10_behindBlanks_p84 P k4 a0 v2 v3 σ = some (rr, σ')) : Ev l G mX10_behindBlanks 84 [(0, va_rf (some a0)), (2, .int v2), (3, .int v3)] [] σ (xrI rr) σ' := by
  unfold dm_X10_behindBlanks_p84 at h
  obtain ⟨v_1, ev_1, h⟩ := x_let_e h
  refine ev_iinc (j := 2) (x := v3) (v := v_1) (lv' := [(3, .int v_1), (0, va_rf (some a0)), (2, .int v2)]) dX10_behindBlanks_84 rfl (by rw [ev_1]; rfl) (by decide) rfl ?_
  refine ev_goto (tgt := 4) dX10_behindBlanks_87 (by decide) ?_
  exact ev_sub [1, 2, 0] rfl (hk4 h)
set_option maxHeartbeats 4000000 in
set_option maxRecDepth 100000 in
theorem ev_X10_behindBlanks_p71 {l : Launch} {G : xG} (hO : x_OK l G) {P : xP} (hP : x_PG P G) {a0 : Nat} {k4 : Int32 → Int32 → xS → xO Int32} (hk4 : ∀ {v2 : Int32} {v3 : Int32} {σ σ' : xS} {rr : Int32 ⊕ String}, k4 v2 v3 σ = some (rr, σ') → Ev l G mX10_behindBlanks 4 [(0, va_rf (some a0)), (2, .int v2), (3, .int v3)] [] σ (xrI rr) σ') {v2 : Int32} {v3 : Int32} {v4 : Int32} {σ σ' : xS} {rr : Int32 ⊕ String} (h : dm_X10_behindBlanks_p71 P k4 a0 v2 v3 v4 σ = some (rr, σ')) : Ev l G mX10_behindBlanks 71 [(0, va_rf (some a0)), (2, .int v2), (3, .int v3), (4, .int v4)] [] σ (xrI rr) σ' := by
  unfold dm_X10_behindBlanks_p71 at h
  refine ev_iload_n (j := 1) (x := v2) dX10_behindBlanks_71 rfl rfl ?_
  by_cases c_1 : v2 = 0
  · rw [if_pos c_1] at h
    refine ev_if_ne (x := v2) (tgt := 84) dX10_behindBlanks_72 (by decide) (fun q9 => absurd c_1 q9) (fun _ => ?_)
    refine ev_iload (j := 3) (x := v4) dX10_behindBlanks_75 rfl ?_
    refine ev_bipush (v := 32) dX10_behindBlanks_77 (by decide) ?_
    by_cases c_2 : v4 = 32
    · rw [if_pos c_2] at h
      refine ev_icmp_eq (x := v4) (y := 32) (tgt := 84) dX10_behindBlanks_79 (by decide) (fun _ => ?_) (fun q9 => absurd c_2 q9)
      exact ev_sub [0, 1, 2] rfl (ev_X10_behindBlanks_p84 hO hP hk4 h)
    · rw [if_neg c_2] at h
      refine ev_icmp_eq (x := v4) (y := 32) (tgt := 84) dX10_behindBlanks_79 (by decide) (fun q9 => absurd q9 c_2) (fun _ => ?_)
      refine ev_iload_n (j := 2) (x := v3) dX10_behindBlanks_82 rfl rfl ?_
      cases h
      exact ev_iret rfl rfl dX10_behindBlanks_83
  · rw [if_neg c_1] at h
    refine ev_if_ne (x := v2) (tgt := 84) dX10_behindBlanks_72 (by decide) (fun _ => ?_) (fun q9 => absurd q9 c_1)
    exact ev_sub [0, 1, 2] rfl (ev_X10_behindBlanks_p84 hO hP hk4 h)
set_option maxHeartbeats 4000000 in
set_option maxRecDepth 100000 in
theorem ev_X10_behindBlanks_L4 {l : Launch} {G : xG} (hO : x_OK l G) {P : xP} (hP : x_PG P G) {a0 : Nat} : ∀ (n : Nat) {v2 : Int32} {v3 : Int32} {σ σ' : xS} {rr : Int32 ⊕ String}, dm_X10_behindBlanks_L4 P a0 n v2 v3 σ = some (rr, σ') → Ev l G mX10_behindBlanks 4 [(0, va_rf (some a0)), (2, .int v2), (3, .int v3)] [] σ (xrI rr) σ' := by
  intro n
  induction n with
  | zero => intro v2 v3 σ σ' rr h; cases h
  | succ n ih =>
    intro v2 v3 σ σ' rr h
    rw [dm_X10_behindBlanks_L4] at h
    refine ev_iload_n (j := 2) (x := v3) dX10_behindBlanks_4 rfl rfl ?_
    refine ev_aload_n (j := 0) (x := (some a0)) dX10_behindBlanks_5 rfl rfl ?_
    obtain ⟨c_1, h⟩ := x_chk_e h
    refine ev_get (C := RX10) (T := TX10) (k := 1) inX10 (xE_10 c_1) rfl (by decide) wd_89 (Or.inl rfl) rfl dX10_behindBlanks_6 ?_
    by_cases c_2 : (σ.I 901 a0) ≤ v3
    · rw [if_pos c_2] at h
      refine ev_icmp_ge (x := v3) (y := (σ.I 901 a0)) (tgt := 90) dX10_behindBlanks_9 (by decide) (fun _ => ?_) (fun q9 => absurd c_2 q9)
      refine ev_aload_n (j := 0) (x := (some a0)) dX10_behindBlanks_90 rfl rfl ?_
      refine ev_get (C := RX10) (T := TX10) (k := 1) inX10 (xE_10 c_1) rfl (by decide) wd_89 (Or.inl rfl) rfl dX10_behindBlanks_91 ?_
      cases h
      exact ev_iret rfl rfl dX10_behindBlanks_94
    · rw [if_neg c_2] at h
      refine ev_icmp_ge (x := v3) (y := (σ.I 901 a0)) (tgt := 90) dX10_behindBlanks_9 (by decide) (fun q9 => absurd q9 c_2) (fun _ => ?_)
      refine ev_aload_n (j := 0) (x := (some a0)) dX10_behindBlanks_12 rfl rfl ?_
      refine ev_get (C := RX10) (T := TX10) (k := 0) inX10 (xE_10 c_1) rfl (by decide) wd_88 (Or.inl rfl) rfl dX10_behindBlanks_13 ?_
      refine ev_iload_n (j := 2) (x := v3) dX10_behindBlanks_16 rfl rfl ?_
      obtain ⟨a_3, ea_3, h⟩ := x_some_e h
      refine ev_at (st' := [.int v3, va_rf (some a_3)]) rfl (by rw [ea_3]) ?_
      obtain ⟨c_4, h⟩ := x_chk_e h
      refine ev_cald c_4.1 c_4.2 dX10_behindBlanks_17 ?_
      obtain ⟨v_5, ev_5, h⟩ := x_let_e h
      rw [← ev_5]
      refine ev_istore (i := 4) (lv' := [(4, .int v_5), (0, va_rf (some a0)), (2, .int v2), (3, .int v3)]) dX10_behindBlanks_18 (by decide) rfl ?_
      refine ev_iload (j := 0) (x := v_5) dX10_behindBlanks_20 rfl ?_
      refine ev_bipush (v := 10) dX10_behindBlanks_22 (by decide) ?_
      by_cases c_6 : v_5 = 10
      · rw [if_pos c_6] at h
        refine ev_icmp_ne (x := v_5) (y := 10) (tgt := 32) dX10_behindBlanks_24 (by decide) (fun q9 => absurd c_6 q9) (fun _ => ?_)
        refine ev_iconst (v := 0) dX10_behindBlanks_27 (by decide) ?_
        refine ev_istore_n (i := 2) (lv' := [(2, .int 0), (4, .int v_5), (0, va_rf (some a0)), (3, .int v3)]) dX10_behindBlanks_28 rfl (by decide) rfl ?_
        refine ev_goto (tgt := 84) dX10_behindBlanks_29 (by decide) ?_
        exact ev_sub [2, 0, 3] rfl (ev_X10_behindBlanks_p84 hO hP ih h)
      · rw [if_neg c_6] at h
        refine ev_icmp_ne (x := v_5) (y := 10) (tgt := 32) dX10_behindBlanks_24 (by decide) (fun _ => ?_) (fun q9 => absurd q9 c_6)
        refine ev_iload_n (j := 2) (x := v2) dX10_behindBlanks_32 rfl rfl ?_
        by_cases c_7 : v2 = 0
        · rw [if_pos c_7] at h
          refine ev_if_ne (x := v2) (tgt := 71) dX10_behindBlanks_33 (by decide) (fun q9 => absurd c_7 q9) (fun _ => ?_)
          refine ev_iload (j := 0) (x := v_5) dX10_behindBlanks_36 rfl ?_
          refine ev_bipush (v := 47) dX10_behindBlanks_38 (by decide) ?_
          by_cases c_8 : v_5 = 47
          · rw [if_pos c_8] at h
            refine ev_icmp_ne (x := v_5) (y := 47) (tgt := 71) dX10_behindBlanks_40 (by decide) (fun q9 => absurd c_8 q9) (fun _ => ?_)
            refine ev_iload_n (j := 3) (x := v3) dX10_behindBlanks_43 rfl rfl ?_
            refine ev_iconst (v := 1) dX10_behindBlanks_44 (by decide) ?_
            refine ev_iadd (x := v3) (y := 1) dX10_behindBlanks_45 ?_
            refine ev_aload_n (j := 1) (x := (some a0)) dX10_behindBlanks_46 rfl rfl ?_
            refine ev_get (C := RX10) (T := TX10) (k := 1) inX10 (xE_10 c_1) rfl (by decide) wd_89 (Or.inl rfl) rfl dX10_behindBlanks_47 ?_
            by_cases c_9 : (σ.I 901 a0) ≤ (v3 + 1)
            · rw [if_pos c_9] at h
              refine ev_icmp_ge (x := (v3 + 1)) (y := (σ.I 901 a0)) (tgt := 71) dX10_behindBlanks_50 (by decide) (fun _ => ?_) (fun q9 => absurd c_9 q9)
              exact ev_sub [1, 2, 3, 0] rfl (ev_X10_behindBlanks_p71 hO hP ih h)
            · rw [if_neg c_9] at h
              refine ev_icmp_ge (x := (v3 + 1)) (y := (σ.I 901 a0)) (tgt := 71) dX10_behindBlanks_50 (by decide) (fun q9 => absurd q9 c_9) (fun _ => ?_)
              refine ev_aload_n (j := 1) (x := (some a0)) dX10_behindBlanks_53 rfl rfl ?_
              refine ev_get (C := RX10) (T := TX10) (k := 0) inX10 (xE_10 c_1) rfl (by decide) wd_88 (Or.inl rfl) rfl dX10_behindBlanks_54 ?_
              refine ev_iload_n (j := 3) (x := v3) dX10_behindBlanks_57 rfl rfl ?_
              refine ev_iconst (v := 1) dX10_behindBlanks_58 (by decide) ?_
              refine ev_iadd (x := v3) (y := 1) dX10_behindBlanks_59 ?_
              refine ev_at (st' := [.int (v3 + 1), va_rf (some a_3)]) rfl (by rw [ea_3]) ?_
              obtain ⟨c_10, h⟩ := x_chk_e h
              refine ev_cald c_10.1 c_10.2 dX10_behindBlanks_60 ?_
              refine ev_bipush (v := 47) dX10_behindBlanks_61 (by decide) ?_
              by_cases c_11 : (σ.AI a_3 (Int32.toNatClampNeg (v3 + 1))) = 47
              · rw [if_pos c_11] at h
                refine ev_icmp_ne (x := (σ.AI a_3 (Int32.toNatClampNeg (v3 + 1)))) (y := 47) (tgt := 71) dX10_behindBlanks_63 (by decide) (fun q9 => absurd c_11 q9) (fun _ => ?_)
                refine ev_iconst (v := 1) dX10_behindBlanks_66 (by decide) ?_
                refine ev_istore_n (i := 2) (lv' := [(2, .int 1), (4, .int v_5), (0, va_rf (some a0)), (3, .int v3)]) dX10_behindBlanks_67 rfl (by decide) rfl ?_
                refine ev_goto (tgt := 84) dX10_behindBlanks_68 (by decide) ?_
                exact ev_sub [2, 0, 3] rfl (ev_X10_behindBlanks_p84 hO hP ih h)
              · rw [if_neg c_11] at h
                refine ev_icmp_ne (x := (σ.AI a_3 (Int32.toNatClampNeg (v3 + 1)))) (y := 47) (tgt := 71) dX10_behindBlanks_63 (by decide) (fun _ => ?_) (fun q9 => absurd q9 c_11)
                exact ev_sub [1, 2, 3, 0] rfl (ev_X10_behindBlanks_p71 hO hP ih h)
          · rw [if_neg c_8] at h
            refine ev_icmp_ne (x := v_5) (y := 47) (tgt := 71) dX10_behindBlanks_40 (by decide) (fun _ => ?_) (fun q9 => absurd q9 c_8)
            exact ev_sub [1, 2, 3, 0] rfl (ev_X10_behindBlanks_p71 hO hP ih h)
        · rw [if_neg c_7] at h
          refine ev_if_ne (x := v2) (tgt := 71) dX10_behindBlanks_33 (by decide) (fun _ => ?_) (fun q9 => absurd q9 c_7)
          exact ev_sub [1, 2, 3, 0] rfl (ev_X10_behindBlanks_p71 hO hP ih h)
set_option maxHeartbeats 4000000 in
set_option maxRecDepth 100000 in
theorem ev_X10_behindBlanks {l : Launch} {G : xG} (hO : x_OK l G) {P : xP} (hP : x_PG P G) {a0 : Nat} {v1 : Int32} {σ σ' : xS} {rr : Int32 ⊕ String} (h : dm_X10_behindBlanks P a0 v1 σ = some (rr, σ')) : EvM l G mX10_behindBlanks [va_rf (some a0), .int v1] σ (xrI rr) σ' := by
  unfold dm_X10_behindBlanks at h
  refine evM_of hO (by decide +kernel) (x_lenI (by simp [x_cat, x_catI, x_catJ, mX10_behindBlanks, xM.maxL])) ?_
  refine Eq.mp (congrArg (fun z => Ev l G mX10_behindBlanks 0 z [] σ (xrI rr) σ') (show [(0, va_rf (some a0)), (1, .int v1)] = lv_args 0 [va_rf (some a0), .int v1] by simp [lv_args, x_cat, x_catI, x_catJ])) ?_
  refine ev_iconst (v := 0) dX10_behindBlanks_0 (by decide) ?_
  refine ev_istore_n (i := 2) (lv' := [(2, .int 0), (0, va_rf (some a0)), (1, .int v1)]) dX10_behindBlanks_1 rfl (by decide) rfl ?_
  refine ev_iload_n (j := 2) (x := v1) dX10_behindBlanks_2 rfl rfl ?_
  refine ev_istore_n (i := 3) (lv' := [(3, .int v1), (2, .int 0), (0, va_rf (some a0)), (1, .int v1)]) dX10_behindBlanks_3 rfl (by decide) rfl ?_
  exact ev_sub [2, 1, 0] rfl (ev_X10_behindBlanks_L4 hO hP P.N h)
set_option maxHeartbeats 4000000 in
set_option maxRecDepth 100000 in
theorem ev_X10_isDigit_p17 {l : Launch} {G : xG} (hO : x_OK l G) {P : xP} (hP : x_PG P G) {s0 : Int32} {σ σ' : xS} {rr : Int32 ⊕ String} (h : dm_X10_isDigit_p17 P s0 σ = some (rr, σ')) : Ev l G mX10_isDigit 17 [] [.int s0] σ (xrI rr) σ' := by
  unfold dm_X10_isDigit_p17 at h
  obtain ⟨c_1, h⟩ := x_chk_e h
  cases h
  exact ev_iret rfl (x_boolN c_1) dX10_isDigit_17
set_option maxHeartbeats 4000000 in
set_option maxRecDepth 100000 in
theorem ev_X10_isDigit_p16 {l : Launch} {G : xG} (hO : x_OK l G) {P : xP} (hP : x_PG P G) {σ σ' : xS} {rr : Int32 ⊕ String} (h : dm_X10_isDigit_p16 P σ = some (rr, σ')) : Ev l G mX10_isDigit 16 [] [] σ (xrI rr) σ' := by
  unfold dm_X10_isDigit_p16 at h
  refine ev_iconst (v := 0) dX10_isDigit_16 (by decide) ?_
  exact ev_sub [] rfl (ev_X10_isDigit_p17 hO hP h)
set_option maxHeartbeats 4000000 in
set_option maxRecDepth 100000 in
theorem ev_X10_isDigit {l : Launch} {G : xG} (hO : x_OK l G) {P : xP} (hP : x_PG P G) {v0 : Int32} {σ σ' : xS} {rr : Int32 ⊕ String} (h : dm_X10_isDigit P v0 σ = some (rr, σ')) : EvM l G mX10_isDigit [.int v0] σ (xrI rr) σ' := by
  unfold dm_X10_isDigit at h
  refine evM_of hO (by decide +kernel) (x_lenI (by simp [x_cat, x_catI, x_catJ, mX10_isDigit, xM.maxL])) ?_
  refine Eq.mp (congrArg (fun z => Ev l G mX10_isDigit 0 z [] σ (xrI rr) σ') (show [(0, .int v0)] = lv_args 0 [.int v0] by simp [lv_args, x_cat, x_catI, x_catJ])) ?_
  refine ev_iload_n (j := 0) (x := v0) dX10_isDigit_0 rfl rfl ?_
  refine ev_bipush (v := 48) dX10_isDigit_1 (by decide) ?_
  by_cases c_1 : v0 < 48
  · rw [if_pos c_1] at h
    refine ev_icmp_lt (x := v0) (y := 48) (tgt := 16) dX10_isDigit_3 (by decide) (fun _ => ?_) (fun q9 => absurd c_1 q9)
    exact ev_sub [] rfl (ev_X10_isDigit_p16 hO hP h)
  · rw [if_neg c_1] at h
    refine ev_icmp_lt (x := v0) (y := 48) (tgt := 16) dX10_isDigit_3 (by decide) (fun q9 => absurd q9 c_1) (fun _ => ?_)
    refine ev_iload_n (j := 0) (x := v0) dX10_isDigit_6 rfl rfl ?_
    refine ev_bipush (v := 57) dX10_isDigit_7 (by decide) ?_
    by_cases c_2 : 57 < v0
    · rw [if_pos c_2] at h
      refine ev_icmp_gt (x := v0) (y := 57) (tgt := 16) dX10_isDigit_9 (by decide) (fun _ => ?_) (fun q9 => absurd c_2 q9)
      exact ev_sub [] rfl (ev_X10_isDigit_p16 hO hP h)
    · rw [if_neg c_2] at h
      refine ev_icmp_gt (x := v0) (y := 57) (tgt := 16) dX10_isDigit_9 (by decide) (fun q9 => absurd q9 c_2) (fun _ => ?_)
      refine ev_iconst (v := 1) dX10_isDigit_12 (by decide) ?_
      refine ev_goto (tgt := 17) dX10_isDigit_13 (by decide) ?_
      exact ev_sub [] rfl (ev_X10_isDigit_p17 hO hP h)
set_option maxHeartbeats 4000000 in
set_option maxRecDepth 100000 in
theorem ev_X10_isLetter_p35 {l : Launch} {G : xG} (hO : x_OK l G) {P : xP} (hP : x_PG P G) {s0 : Int32} {σ σ' : xS} {rr : Int32 ⊕ String} (h : dm_X10_isLetter_p35 P s0 σ = some (rr, σ')) : Ev l G mX10_isLetter 35 [] [.int s0] σ (xrI rr) σ' := by
  unfold dm_X10_isLetter_p35 at h
  obtain ⟨c_1, h⟩ := x_chk_e h
  cases h
  exact ev_iret rfl (x_boolN c_1) dX10_isLetter_35
set_option maxHeartbeats 4000000 in
set_option maxRecDepth 100000 in
theorem ev_X10_isLetter_p30 {l : Launch} {G : xG} (hO : x_OK l G) {P : xP} (hP : x_PG P G) {σ σ' : xS} {rr : Int32 ⊕ String} (h : dm_X10_isLetter_p30 P σ = some (rr, σ')) : Ev l G mX10_isLetter 30 [] [] σ (xrI rr) σ' := by
  unfold dm_X10_isLetter_p30 at h
  refine ev_iconst (v := 1) dX10_isLetter_30 (by decide) ?_
  refine ev_goto (tgt := 35) dX10_isLetter_31 (by decide) ?_
  exact ev_sub [] rfl (ev_X10_isLetter_p35 hO hP h)
set_option maxHeartbeats 4000000 in
set_option maxRecDepth 100000 in
theorem ev_X10_isLetter_p24 {l : Launch} {G : xG} (hO : x_OK l G) {P : xP} (hP : x_PG P G) {v0 : Int32} {σ σ' : xS} {rr : Int32 ⊕ String} (h : dm_X10_isLetter_p24 P v0 σ = some (rr, σ')) : Ev l G mX10_isLetter 24 [(0, .int v0)] [] σ (xrI rr) σ' := by
  unfold dm_X10_isLetter_p24 at h
  refine ev_iload_n (j := 0) (x := v0) dX10_isLetter_24 rfl rfl ?_
  refine ev_bipush (v := 95) dX10_isLetter_25 (by decide) ?_
  by_cases c_1 : v0 = 95
  · rw [if_pos c_1] at h
    refine ev_icmp_ne (x := v0) (y := 95) (tgt := 34) dX10_isLetter_27 (by decide) (fun q9 => absurd c_1 q9) (fun _ => ?_)
    exact ev_sub [] rfl (ev_X10_isLetter_p30 hO hP h)
  · rw [if_neg c_1] at h
    refine ev_icmp_ne (x := v0) (y := 95) (tgt := 34) dX10_isLetter_27 (by decide) (fun _ => ?_) (fun q9 => absurd q9 c_1)
    refine ev_iconst (v := 0) dX10_isLetter_34 (by decide) ?_
    exact ev_sub [] rfl (ev_X10_isLetter_p35 hO hP h)
set_option maxHeartbeats 4000000 in
set_option maxRecDepth 100000 in
theorem ev_X10_isLetter_p12 {l : Launch} {G : xG} (hO : x_OK l G) {P : xP} (hP : x_PG P G) {v0 : Int32} {σ σ' : xS} {rr : Int32 ⊕ String} (h : dm_X10_isLetter_p12 P v0 σ = some (rr, σ')) : Ev l G mX10_isLetter 12 [(0, .int v0)] [] σ (xrI rr) σ' := by
  unfold dm_X10_isLetter_p12 at h
  refine ev_iload_n (j := 0) (x := v0) dX10_isLetter_12 rfl rfl ?_
  refine ev_bipush (v := 65) dX10_isLetter_13 (by decide) ?_
  by_cases c_1 : v0 < 65
  · rw [if_pos c_1] at h
    refine ev_icmp_lt (x := v0) (y := 65) (tgt := 24) dX10_isLetter_15 (by decide) (fun _ => ?_) (fun q9 => absurd c_1 q9)
    exact ev_sub [0] rfl (ev_X10_isLetter_p24 hO hP h)
  · rw [if_neg c_1] at h
    refine ev_icmp_lt (x := v0) (y := 65) (tgt := 24) dX10_isLetter_15 (by decide) (fun q9 => absurd q9 c_1) (fun _ => ?_)
    refine ev_iload_n (j := 0) (x := v0) dX10_isLetter_18 rfl rfl ?_
    refine ev_bipush (v := 90) dX10_isLetter_19 (by decide) ?_
    by_cases c_2 : v0 ≤ 90
    · rw [if_pos c_2] at h
      refine ev_icmp_le (x := v0) (y := 90) (tgt := 30) dX10_isLetter_21 (by decide) (fun _ => ?_) (fun q9 => absurd c_2 q9)
      exact ev_sub [] rfl (ev_X10_isLetter_p30 hO hP h)
    · rw [if_neg c_2] at h
      refine ev_icmp_le (x := v0) (y := 90) (tgt := 30) dX10_isLetter_21 (by decide) (fun q9 => absurd q9 c_2) (fun _ => ?_)
      exact ev_sub [0] rfl (ev_X10_isLetter_p24 hO hP h)
set_option maxHeartbeats 4000000 in
set_option maxRecDepth 100000 in
theorem ev_X10_isLetter {l : Launch} {G : xG} (hO : x_OK l G) {P : xP} (hP : x_PG P G) {v0 : Int32} {σ σ' : xS} {rr : Int32 ⊕ String} (h : dm_X10_isLetter P v0 σ = some (rr, σ')) : EvM l G mX10_isLetter [.int v0] σ (xrI rr) σ' := by
  unfold dm_X10_isLetter at h
  refine evM_of hO (by decide +kernel) (x_lenI (by simp [x_cat, x_catI, x_catJ, mX10_isLetter, xM.maxL])) ?_
  refine Eq.mp (congrArg (fun z => Ev l G mX10_isLetter 0 z [] σ (xrI rr) σ') (show [(0, .int v0)] = lv_args 0 [.int v0] by simp [lv_args, x_cat, x_catI, x_catJ])) ?_
  refine ev_iload_n (j := 0) (x := v0) dX10_isLetter_0 rfl rfl ?_
  refine ev_bipush (v := 97) dX10_isLetter_1 (by decide) ?_
  by_cases c_1 : v0 < 97
  · rw [if_pos c_1] at h
    refine ev_icmp_lt (x := v0) (y := 97) (tgt := 12) dX10_isLetter_3 (by decide) (fun _ => ?_) (fun q9 => absurd c_1 q9)
    exact ev_sub [0] rfl (ev_X10_isLetter_p12 hO hP h)
  · rw [if_neg c_1] at h
    refine ev_icmp_lt (x := v0) (y := 97) (tgt := 12) dX10_isLetter_3 (by decide) (fun q9 => absurd q9 c_1) (fun _ => ?_)
    refine ev_iload_n (j := 0) (x := v0) dX10_isLetter_6 rfl rfl ?_
    refine ev_bipush (v := 122) dX10_isLetter_7 (by decide) ?_
    by_cases c_2 : v0 ≤ 122
    · rw [if_pos c_2] at h
      refine ev_icmp_le (x := v0) (y := 122) (tgt := 30) dX10_isLetter_9 (by decide) (fun _ => ?_) (fun q9 => absurd c_2 q9)
      exact ev_sub [] rfl (ev_X10_isLetter_p30 hO hP h)
    · rw [if_neg c_2] at h
      refine ev_icmp_le (x := v0) (y := 122) (tgt := 30) dX10_isLetter_9 (by decide) (fun q9 => absurd q9 c_2) (fun _ => ?_)
      exact ev_sub [0] rfl (ev_X10_isLetter_p12 hO hP h)
set_option maxHeartbeats 4000000 in
set_option maxRecDepth 100000 in
theorem ev_X10_rowEnd_p70 {l : Launch} {G : xG} (hO : x_OK l G) {P : xP} (hP : x_PG P G) {a0 : Nat} {v3 : Int32} {σ σ' : xS} {rr : Int32 ⊕ String} (h : dm_X10_rowEnd_p70 P a0 v3 σ = some (rr, σ')) : Ev l G mX10_rowEnd 70 [(3, .int v3)] [] σ (xrI rr) σ' := by
  unfold dm_X10_rowEnd_p70 at h
  refine ev_iload_n (j := 0) (x := v3) dX10_rowEnd_70 rfl rfl ?_
  cases h
  exact ev_iret rfl rfl dX10_rowEnd_71
set_option maxHeartbeats 4000000 in
set_option maxRecDepth 100000 in
theorem ev_X10_rowEnd_p72 {l : Launch} {G : xG} (hO : x_OK l G) {P : xP} (hP : x_PG P G) {a0 : Nat} {k34 : Int32 → Int32 → xS → xO Int32} (hk34 : ∀ {v2 : Int32} {v3 : Int32} {σ σ' : xS} {rr : Int32 ⊕ String}, k34 v2 v3 σ = some (rr, σ') → Ev l G mX10_rowEnd 34 [(0, va_rf (some a0)), (2, .int v2), (3, .int v3)] [] σ (xrI rr) σ') {v2 : Int32} {v3 : Int32} {σ σ' : xS} {rr : Int32 ⊕ String} (h : dm_X10_rowEnd_p72 P k34 a0 v2 v3 σ = some (rr, σ')) : Ev l G mX10_rowEnd 72 [(0, va_rf (some a0)), (2, .int v2), (3, .int v3)] [] σ (xrI rr) σ' := by
  unfold dm_X10_rowEnd_p72 at h
  obtain ⟨v_1, ev_1, h⟩ := x_let_e h
  refine ev_iinc (j := 2) (x := v3) (v := v_1) (lv' := [(3, .int v_1), (0, va_rf (some a0)), (2, .int v2)]) dX10_rowEnd_72 rfl (by rw [ev_1]; rfl) (by decide) rfl ?_
  refine ev_goto (tgt := 34) dX10_rowEnd_75 (by decide) ?_
  exact ev_sub [1, 2, 0] rfl (hk34 h)
set_option maxHeartbeats 4000000 in
set_option maxRecDepth 100000 in
theorem ev_X10_rowEnd_L34 {l : Launch} {G : xG} (hO : x_OK l G) {P : xP} (hP : x_PG P G) {a0 : Nat} : ∀ (n : Nat) {v2 : Int32} {v3 : Int32} {σ σ' : xS} {rr : Int32 ⊕ String}, dm_X10_rowEnd_L34 P a0 n v2 v3 σ = some (rr, σ') → Ev l G mX10_rowEnd 34 [(0, va_rf (some a0)), (2, .int v2), (3, .int v3)] [] σ (xrI rr) σ' := by
  intro n
  induction n with
  | zero => intro v2 v3 σ σ' rr h; cases h
  | succ n ih =>
    intro v2 v3 σ σ' rr h
    rw [dm_X10_rowEnd_L34] at h
    refine ev_iload_n (j := 2) (x := v3) dX10_rowEnd_34 rfl rfl ?_
    refine ev_aload_n (j := 0) (x := (some a0)) dX10_rowEnd_35 rfl rfl ?_
    obtain ⟨c_1, h⟩ := x_chk_e h
    refine ev_get (C := RX10) (T := TX10) (k := 1) inX10 (xE_10 c_1) rfl (by decide) wd_89 (Or.inl rfl) rfl dX10_rowEnd_36 ?_
    by_cases c_2 : (σ.I 901 a0) ≤ v3
    · rw [if_pos c_2] at h
      refine ev_icmp_ge (x := v3) (y := (σ.I 901 a0)) (tgt := 78) dX10_rowEnd_39 (by decide) (fun _ => ?_) (fun q9 => absurd c_2 q9)
      refine ev_aload_n (j := 0) (x := (some a0)) dX10_rowEnd_78 rfl rfl ?_
      refine ev_get (C := RX10) (T := TX10) (k := 1) inX10 (xE_10 c_1) rfl (by decide) wd_89 (Or.inl rfl) rfl dX10_rowEnd_79 ?_
      cases h
      exact ev_iret rfl rfl dX10_rowEnd_82
    · rw [if_neg c_2] at h
      refine ev_icmp_ge (x := v3) (y := (σ.I 901 a0)) (tgt := 78) dX10_rowEnd_39 (by decide) (fun q9 => absurd q9 c_2) (fun _ => ?_)
      refine ev_aload_n (j := 0) (x := (some a0)) dX10_rowEnd_42 rfl rfl ?_
      refine ev_get (C := RX10) (T := TX10) (k := 0) inX10 (xE_10 c_1) rfl (by decide) wd_88 (Or.inl rfl) rfl dX10_rowEnd_43 ?_
      refine ev_iload_n (j := 2) (x := v3) dX10_rowEnd_46 rfl rfl ?_
      obtain ⟨a_3, ea_3, h⟩ := x_some_e h
      refine ev_at (st' := [.int v3, va_rf (some a_3)]) rfl (by rw [ea_3]) ?_
      obtain ⟨c_4, h⟩ := x_chk_e h
      refine ev_cald c_4.1 c_4.2 dX10_rowEnd_47 ?_
      rcases x_bind_e h with ⟨v_5, σ_6, h_7, h⟩ | ⟨E_18, σ_6, h_7, h⟩
      · have z9 := x_call (M := mX10_rowEnd) (M' := mX10_isDigit) (pc := 48) (st := [.int (σ.AI a_3 (Int32.toNatClampNeg v3))]) (rest := []) (av := [.int (σ.AI a_3 (Int32.toNatClampNeg v3))]) (x_linkS (M := mX10_rowEnd) (M' := mX10_isDigit) (As := [.int (σ.AI a_3 (Int32.toNatClampNeg v3))]) (index := 72) wd_201 wd_202 wd_118 xw_X10_isDigit rfl ⟨_, _, _, Or.inl wd_200⟩ (by decide) rfl rfl dX10_rowEnd_48) (ev_X10_isDigit hO hP h_7) xw_X10_isDigit rfl wd_118 dX10_rowEnd_48 (by decide) (by decide) (by simp [x_cat, x_catI, x_catJ])
        refine x_callR z9 ?_
        refine ev_at (st' := [.int v_5]) rfl rfl ?_
        by_cases c_8 : v_5 = 0
        · rw [if_pos c_8] at h
          refine ev_if_ne (x := v_5) (tgt := 72) dX10_rowEnd_51 (by decide) (fun q9 => absurd c_8 q9) (fun _ => ?_)
          refine ev_iload_n (j := 1) (x := v2) dX10_rowEnd_54 rfl rfl ?_
          by_cases c_9 : v2 = 0
          · rw [if_pos c_9] at h
            refine ev_if_ne (x := v2) (tgt := 70) dX10_rowEnd_55 (by decide) (fun q9 => absurd c_9 q9) (fun _ => ?_)
            refine ev_aload_n (j := 0) (x := (some a0)) dX10_rowEnd_58 rfl rfl ?_
            obtain ⟨c_10, h⟩ := x_chk_e h
            refine ev_get (C := RX10) (T := TX10) (k := 0) inX10 (xE_10 c_10) rfl (by decide) wd_88 (Or.inl rfl) rfl dX10_rowEnd_59 ?_
            refine ev_iload_n (j := 2) (x := v3) dX10_rowEnd_62 rfl rfl ?_
            obtain ⟨a_11, ea_11, h⟩ := x_some_e h
            refine ev_at (st' := [.int v3, va_rf (some a_11)]) rfl (by rw [ea_11]) ?_
            obtain ⟨c_12, h⟩ := x_chk_e h
            refine ev_cald c_12.1 c_12.2 dX10_rowEnd_63 ?_
            rcases x_bind_e h with ⟨v_13, σ_14, h_15, h⟩ | ⟨E_17, σ_14, h_15, h⟩
            · have z9 := x_call (M := mX10_rowEnd) (M' := mX10_isLetter) (pc := 64) (st := [.int (σ_6.AI a_11 (Int32.toNatClampNeg v3))]) (rest := []) (av := [.int (σ_6.AI a_11 (Int32.toNatClampNeg v3))]) (x_linkS (M := mX10_rowEnd) (M' := mX10_isLetter) (As := [.int (σ_6.AI a_11 (Int32.toNatClampNeg v3))]) (index := 76) wd_204 wd_205 wd_118 xw_X10_isLetter rfl ⟨_, _, _, Or.inl wd_203⟩ (by decide) rfl rfl dX10_rowEnd_64) (ev_X10_isLetter hO hP h_15) xw_X10_isLetter rfl wd_118 dX10_rowEnd_64 (by decide) (by decide) (by simp [x_cat, x_catI, x_catJ])
              refine x_callR z9 ?_
              refine ev_at (st' := [.int v_13]) rfl rfl ?_
              by_cases c_16 : v_13 = 0
              · rw [if_pos c_16] at h
                refine ev_if_ne (x := v_13) (tgt := 72) dX10_rowEnd_67 (by decide) (fun q9 => absurd c_16 q9) (fun _ => ?_)
                exact ev_sub [2] rfl (ev_X10_rowEnd_p70 hO hP h)
              · rw [if_neg c_16] at h
                refine ev_if_ne (x := v_13) (tgt := 72) dX10_rowEnd_67 (by decide) (fun _ => ?_) (fun q9 => absurd q9 c_16)
                exact ev_sub [0, 1, 2] rfl (ev_X10_rowEnd_p72 hO hP ih h)
            · have z9 := x_call (M := mX10_rowEnd) (M' := mX10_isLetter) (pc := 64) (st := [.int (σ_6.AI a_11 (Int32.toNatClampNeg v3))]) (rest := []) (av := [.int (σ_6.AI a_11 (Int32.toNatClampNeg v3))]) (x_linkS (M := mX10_rowEnd) (M' := mX10_isLetter) (As := [.int (σ_6.AI a_11 (Int32.toNatClampNeg v3))]) (index := 76) wd_204 wd_205 wd_118 xw_X10_isLetter rfl ⟨_, _, _, Or.inl wd_203⟩ (by decide) rfl rfl dX10_rowEnd_64) (ev_X10_isLetter hO hP h_15) xw_X10_isLetter rfl wd_118 dX10_rowEnd_64 (by decide) (by decide) (by simp [x_cat, x_catI, x_catJ])
              cases h
              exact x_callX z9 (evX_out rfl)
          · rw [if_neg c_9] at h
            refine ev_if_ne (x := v2) (tgt := 70) dX10_rowEnd_55 (by decide) (fun _ => ?_) (fun q9 => absurd q9 c_9)
            exact ev_sub [2] rfl (ev_X10_rowEnd_p70 hO hP h)
        · rw [if_neg c_8] at h
          refine ev_if_ne (x := v_5) (tgt := 72) dX10_rowEnd_51 (by decide) (fun _ => ?_) (fun q9 => absurd q9 c_8)
          exact ev_sub [0, 1, 2] rfl (ev_X10_rowEnd_p72 hO hP ih h)
      · have z9 := x_call (M := mX10_rowEnd) (M' := mX10_isDigit) (pc := 48) (st := [.int (σ.AI a_3 (Int32.toNatClampNeg v3))]) (rest := []) (av := [.int (σ.AI a_3 (Int32.toNatClampNeg v3))]) (x_linkS (M := mX10_rowEnd) (M' := mX10_isDigit) (As := [.int (σ.AI a_3 (Int32.toNatClampNeg v3))]) (index := 72) wd_201 wd_202 wd_118 xw_X10_isDigit rfl ⟨_, _, _, Or.inl wd_200⟩ (by decide) rfl rfl dX10_rowEnd_48) (ev_X10_isDigit hO hP h_7) xw_X10_isDigit rfl wd_118 dX10_rowEnd_48 (by decide) (by decide) (by simp [x_cat, x_catI, x_catJ])
        cases h
        exact x_callX z9 (evX_out rfl)
set_option maxHeartbeats 4000000 in
set_option maxRecDepth 100000 in
theorem ev_X10_rowEnd_p30 {l : Launch} {G : xG} (hO : x_OK l G) {P : xP} (hP : x_PG P G) {a0 : Nat} {v1 : Int32} {v2 : Int32} {σ σ' : xS} {rr : Int32 ⊕ String} (h : dm_X10_rowEnd_p30 P a0 v1 v2 σ = some (rr, σ')) : Ev l G mX10_rowEnd 30 [(0, va_rf (some a0)), (1, .int v1), (2, .int v2)] [] σ (xrI rr) σ' := by
  unfold dm_X10_rowEnd_p30 at h
  refine ev_iload_n (j := 1) (x := v1) dX10_rowEnd_30 rfl rfl ?_
  refine ev_iconst (v := 1) dX10_rowEnd_31 (by decide) ?_
  refine ev_iadd (x := v1) (y := 1) dX10_rowEnd_32 ?_
  obtain ⟨v_1, ev_1, h⟩ := x_let_e h
  rw [← ev_1]
  refine ev_istore_n (i := 3) (lv' := [(3, .int v_1), (0, va_rf (some a0)), (1, .int v1), (2, .int v2)]) dX10_rowEnd_33 rfl (by decide) rfl ?_
  exact ev_sub [1, 3, 0] rfl (ev_X10_rowEnd_L34 hO hP P.N h)
set_option maxHeartbeats 4000000 in
set_option maxRecDepth 100000 in
theorem ev_X10_rowEnd {l : Launch} {G : xG} (hO : x_OK l G) {P : xP} (hP : x_PG P G) {a0 : Nat} {v1 : Int32} {σ σ' : xS} {rr : Int32 ⊕ String} (h : dm_X10_rowEnd P a0 v1 σ = some (rr, σ')) : EvM l G mX10_rowEnd [va_rf (some a0), .int v1] σ (xrI rr) σ' := by
  unfold dm_X10_rowEnd at h
  refine evM_of hO (by decide +kernel) (x_lenI (by simp [x_cat, x_catI, x_catJ, mX10_rowEnd, xM.maxL])) ?_
  refine Eq.mp (congrArg (fun z => Ev l G mX10_rowEnd 0 z [] σ (xrI rr) σ') (show [(0, va_rf (some a0)), (1, .int v1)] = lv_args 0 [va_rf (some a0), .int v1] by simp [lv_args, x_cat, x_catI, x_catJ])) ?_
  refine ev_aload_n (j := 0) (x := (some a0)) dX10_rowEnd_0 rfl rfl ?_
  obtain ⟨c_1, h⟩ := x_chk_e h
  refine ev_get (C := RX10) (T := TX10) (k := 0) inX10 (xE_10 c_1) rfl (by decide) wd_88 (Or.inl rfl) rfl dX10_rowEnd_1 ?_
  refine ev_iload_n (j := 1) (x := v1) dX10_rowEnd_4 rfl rfl ?_
  obtain ⟨a_2, ea_2, h⟩ := x_some_e h
  refine ev_at (st' := [.int v1, va_rf (some a_2)]) rfl (by rw [ea_2]) ?_
  obtain ⟨c_3, h⟩ := x_chk_e h
  refine ev_cald c_3.1 c_3.2 dX10_rowEnd_5 ?_
  rcases x_bind_e h with ⟨v_4, σ_5, h_6, h⟩ | ⟨E_16, σ_5, h_6, h⟩
  · have z9 := x_call (M := mX10_rowEnd) (M' := mX10_isDigit) (pc := 6) (st := [.int (σ.AI a_2 (Int32.toNatClampNeg v1))]) (rest := []) (av := [.int (σ.AI a_2 (Int32.toNatClampNeg v1))]) (x_linkS (M := mX10_rowEnd) (M' := mX10_isDigit) (As := [.int (σ.AI a_2 (Int32.toNatClampNeg v1))]) (index := 72) wd_201 wd_202 wd_118 xw_X10_isDigit rfl ⟨_, _, _, Or.inl wd_200⟩ (by decide) rfl rfl dX10_rowEnd_6) (ev_X10_isDigit hO hP h_6) xw_X10_isDigit rfl wd_118 dX10_rowEnd_6 (by decide) (by decide) (by simp [x_cat, x_catI, x_catJ])
    refine x_callR z9 ?_
    refine ev_at (st' := [.int v_4]) rfl rfl ?_
    refine ev_istore_n (i := 2) (lv' := [(2, .int v_4), (0, va_rf (some a0)), (1, .int v1)]) dX10_rowEnd_9 rfl (by decide) rfl ?_
    refine ev_iload_n (j := 0) (x := v_4) dX10_rowEnd_10 rfl rfl ?_
    by_cases c_7 : v_4 = 0
    · rw [if_pos c_7] at h
      refine ev_if_ne (x := v_4) (tgt := 30) dX10_rowEnd_11 (by decide) (fun q9 => absurd c_7 q9) (fun _ => ?_)
      refine ev_aload_n (j := 1) (x := (some a0)) dX10_rowEnd_14 rfl rfl ?_
      obtain ⟨c_8, h⟩ := x_chk_e h
      refine ev_get (C := RX10) (T := TX10) (k := 0) inX10 (xE_10 c_8) rfl (by decide) wd_88 (Or.inl rfl) rfl dX10_rowEnd_15 ?_
      refine ev_iload_n (j := 2) (x := v1) dX10_rowEnd_18 rfl rfl ?_
      obtain ⟨a_9, ea_9, h⟩ := x_some_e h
      refine ev_at (st' := [.int v1, va_rf (some a_9)]) rfl (by rw [ea_9]) ?_
      obtain ⟨c_10, h⟩ := x_chk_e h
      refine ev_cald c_10.1 c_10.2 dX10_rowEnd_19 ?_
      rcases x_bind_e h with ⟨v_11, σ_12, h_13, h⟩ | ⟨E_15, σ_12, h_13, h⟩
      · have z9 := x_call (M := mX10_rowEnd) (M' := mX10_isLetter) (pc := 20) (st := [.int (σ_5.AI a_9 (Int32.toNatClampNeg v1))]) (rest := []) (av := [.int (σ_5.AI a_9 (Int32.toNatClampNeg v1))]) (x_linkS (M := mX10_rowEnd) (M' := mX10_isLetter) (As := [.int (σ_5.AI a_9 (Int32.toNatClampNeg v1))]) (index := 76) wd_204 wd_205 wd_118 xw_X10_isLetter rfl ⟨_, _, _, Or.inl wd_203⟩ (by decide) rfl rfl dX10_rowEnd_20) (ev_X10_isLetter hO hP h_13) xw_X10_isLetter rfl wd_118 dX10_rowEnd_20 (by decide) (by decide) (by simp [x_cat, x_catI, x_catJ])
        refine x_callR z9 ?_
        refine ev_at (st' := [.int v_11]) rfl rfl ?_
        by_cases c_14 : v_11 = 0
        · rw [if_pos c_14] at h
          refine ev_if_ne (x := v_11) (tgt := 30) dX10_rowEnd_23 (by decide) (fun q9 => absurd c_14 q9) (fun _ => ?_)
          refine ev_iload_n (j := 2) (x := v1) dX10_rowEnd_26 rfl rfl ?_
          refine ev_iconst (v := 1) dX10_rowEnd_27 (by decide) ?_
          refine ev_iadd (x := v1) (y := 1) dX10_rowEnd_28 ?_
          cases h
          exact ev_iret rfl rfl dX10_rowEnd_29
        · rw [if_neg c_14] at h
          refine ev_if_ne (x := v_11) (tgt := 30) dX10_rowEnd_23 (by decide) (fun _ => ?_) (fun q9 => absurd q9 c_14)
          exact ev_sub [1, 2, 0] rfl (ev_X10_rowEnd_p30 hO hP h)
      · have z9 := x_call (M := mX10_rowEnd) (M' := mX10_isLetter) (pc := 20) (st := [.int (σ_5.AI a_9 (Int32.toNatClampNeg v1))]) (rest := []) (av := [.int (σ_5.AI a_9 (Int32.toNatClampNeg v1))]) (x_linkS (M := mX10_rowEnd) (M' := mX10_isLetter) (As := [.int (σ_5.AI a_9 (Int32.toNatClampNeg v1))]) (index := 76) wd_204 wd_205 wd_118 xw_X10_isLetter rfl ⟨_, _, _, Or.inl wd_203⟩ (by decide) rfl rfl dX10_rowEnd_20) (ev_X10_isLetter hO hP h_13) xw_X10_isLetter rfl wd_118 dX10_rowEnd_20 (by decide) (by decide) (by simp [x_cat, x_catI, x_catJ])
        cases h
        exact x_callX z9 (evX_out rfl)
    · rw [if_neg c_7] at h
      refine ev_if_ne (x := v_4) (tgt := 30) dX10_rowEnd_11 (by decide) (fun _ => ?_) (fun q9 => absurd q9 c_7)
      exact ev_sub [1, 2, 0] rfl (ev_X10_rowEnd_p30 hO hP h)
  · have z9 := x_call (M := mX10_rowEnd) (M' := mX10_isDigit) (pc := 6) (st := [.int (σ.AI a_2 (Int32.toNatClampNeg v1))]) (rest := []) (av := [.int (σ.AI a_2 (Int32.toNatClampNeg v1))]) (x_linkS (M := mX10_rowEnd) (M' := mX10_isDigit) (As := [.int (σ.AI a_2 (Int32.toNatClampNeg v1))]) (index := 72) wd_201 wd_202 wd_118 xw_X10_isDigit rfl ⟨_, _, _, Or.inl wd_200⟩ (by decide) rfl rfl dX10_rowEnd_6) (ev_X10_isDigit hO hP h_6) xw_X10_isDigit rfl wd_118 dX10_rowEnd_6 (by decide) (by decide) (by simp [x_cat, x_catI, x_catJ])
    cases h
    exact x_callX z9 (evX_out rfl)
set_option maxHeartbeats 4000000 in
set_option maxRecDepth 100000 in
theorem ev_X10_numberIn_p41 {l : Launch} {G : xG} (hO : x_OK l G) {P : xP} (hP : x_PG P G) {a0 : Nat} {v3 : Int32} {σ σ' : xS} {rr : Int32 ⊕ String} (h : dm_X10_numberIn_p41 P a0 v3 σ = some (rr, σ')) : Ev l G mX10_numberIn 41 [(3, .int v3)] [] σ (xrI rr) σ' := by
  unfold dm_X10_numberIn_p41 at h
  refine ev_iload_n (j := 0) (x := v3) dX10_numberIn_41 rfl rfl ?_
  cases h
  exact ev_iret rfl rfl dX10_numberIn_42
set_option maxHeartbeats 4000000 in
set_option maxRecDepth 100000 in
theorem ev_X10_numberIn_L5 {l : Launch} {G : xG} (hO : x_OK l G) {P : xP} (hP : x_PG P G) {a0 : Nat} : ∀ (n : Nat) {v1 : Int32} {v2 : Int32} {v3 : Int32} {v4 : Int32} {σ σ' : xS} {rr : Int32 ⊕ String}, dm_X10_numberIn_L5 P a0 n v1 v2 v3 v4 σ = some (rr, σ') → Ev l G mX10_numberIn 5 [(0, va_rf (some a0)), (1, .int v1), (2, .int v2), (3, .int v3), (4, .int v4)] [] σ (xrI rr) σ' := by
  intro n
  induction n with
  | zero => intro v1 v2 v3 v4 σ σ' rr h; cases h
  | succ n ih =>
    intro v1 v2 v3 v4 σ σ' rr h
    rw [dm_X10_numberIn_L5] at h
    refine ev_iload (j := 4) (x := v4) dX10_numberIn_5 rfl ?_
    refine ev_iload_n (j := 2) (x := v2) dX10_numberIn_7 rfl rfl ?_
    by_cases c_1 : v2 ≤ v4
    · rw [if_pos c_1] at h
      refine ev_icmp_ge (x := v4) (y := v2) (tgt := 41) dX10_numberIn_8 (by decide) (fun _ => ?_) (fun q9 => absurd c_1 q9)
      exact ev_sub [3] rfl (ev_X10_numberIn_p41 hO hP h)
    · rw [if_neg c_1] at h
      refine ev_icmp_ge (x := v4) (y := v2) (tgt := 41) dX10_numberIn_8 (by decide) (fun q9 => absurd q9 c_1) (fun _ => ?_)
      refine ev_iload (j := 4) (x := v4) dX10_numberIn_11 rfl ?_
      refine ev_iload_n (j := 1) (x := v1) dX10_numberIn_13 rfl rfl ?_
      refine ev_iconst (v := 2) dX10_numberIn_14 (by decide) ?_
      refine ev_iadd (x := v1) (y := 2) dX10_numberIn_15 ?_
      by_cases c_2 : (v1 + 2) ≤ v4
      · rw [if_pos c_2] at h
        refine ev_icmp_ge (x := v4) (y := (v1 + 2)) (tgt := 41) dX10_numberIn_16 (by decide) (fun _ => ?_) (fun q9 => absurd c_2 q9)
        exact ev_sub [3] rfl (ev_X10_numberIn_p41 hO hP h)
      · rw [if_neg c_2] at h
        refine ev_icmp_ge (x := v4) (y := (v1 + 2)) (tgt := 41) dX10_numberIn_16 (by decide) (fun q9 => absurd q9 c_2) (fun _ => ?_)
        refine ev_iload_n (j := 3) (x := v3) dX10_numberIn_19 rfl rfl ?_
        refine ev_bipush (v := 10) dX10_numberIn_20 (by decide) ?_
        refine ev_imul (x := v3) (y := 10) dX10_numberIn_22 ?_
        refine ev_aload_n (j := 0) (x := (some a0)) dX10_numberIn_23 rfl rfl ?_
        obtain ⟨c_3, h⟩ := x_chk_e h
        refine ev_get (C := RX10) (T := TX10) (k := 0) inX10 (xE_10 c_3) rfl (by decide) wd_88 (Or.inl rfl) rfl dX10_numberIn_24 ?_
        refine ev_iload (j := 4) (x := v4) dX10_numberIn_27 rfl ?_
        obtain ⟨a_4, ea_4, h⟩ := x_some_e h
        refine ev_at (st' := [.int v4, va_rf (some a_4), .int (v3 * 10)]) rfl (by rw [ea_4]) ?_
        obtain ⟨c_5, h⟩ := x_chk_e h
        refine ev_cald c_5.1 c_5.2 dX10_numberIn_29 ?_
        refine ev_iadd (x := (v3 * 10)) (y := (σ.AI a_4 (Int32.toNatClampNeg v4))) dX10_numberIn_30 ?_
        refine ev_bipush (v := 48) dX10_numberIn_31 (by decide) ?_
        refine ev_isub (x := ((v3 * 10) + (σ.AI a_4 (Int32.toNatClampNeg v4)))) (y := 48) dX10_numberIn_33 ?_
        obtain ⟨v_6, ev_6, h⟩ := x_let_e h
        rw [← ev_6]
        refine ev_istore_n (i := 3) (lv' := [(3, .int v_6), (0, va_rf (some a0)), (1, .int v1), (2, .int v2), (4, .int v4)]) dX10_numberIn_34 rfl (by decide) rfl ?_
        obtain ⟨v_7, ev_7, h⟩ := x_let_e h
        refine ev_iinc (j := 4) (x := v4) (v := v_7) (lv' := [(4, .int v_7), (3, .int v_6), (0, va_rf (some a0)), (1, .int v1), (2, .int v2)]) dX10_numberIn_35 rfl (by rw [ev_7]; rfl) (by decide) rfl ?_
        refine ev_goto (tgt := 5) dX10_numberIn_38 (by decide) ?_
        exact ev_sub [2, 3, 4, 1, 0] rfl (ih h)
set_option maxHeartbeats 4000000 in
set_option maxRecDepth 100000 in
theorem ev_X10_numberIn {l : Launch} {G : xG} (hO : x_OK l G) {P : xP} (hP : x_PG P G) {a0 : Nat} {v1 : Int32} {v2 : Int32} {σ σ' : xS} {rr : Int32 ⊕ String} (h : dm_X10_numberIn P a0 v1 v2 σ = some (rr, σ')) : EvM l G mX10_numberIn [va_rf (some a0), .int v1, .int v2] σ (xrI rr) σ' := by
  unfold dm_X10_numberIn at h
  refine evM_of hO (by decide +kernel) (x_lenI (by simp [x_cat, x_catI, x_catJ, mX10_numberIn, xM.maxL])) ?_
  refine Eq.mp (congrArg (fun z => Ev l G mX10_numberIn 0 z [] σ (xrI rr) σ') (show [(0, va_rf (some a0)), (1, .int v1), (2, .int v2)] = lv_args 0 [va_rf (some a0), .int v1, .int v2] by simp [lv_args, x_cat, x_catI, x_catJ])) ?_
  refine ev_iconst (v := 0) dX10_numberIn_0 (by decide) ?_
  refine ev_istore_n (i := 3) (lv' := [(3, .int 0), (0, va_rf (some a0)), (1, .int v1), (2, .int v2)]) dX10_numberIn_1 rfl (by decide) rfl ?_
  refine ev_iload_n (j := 2) (x := v1) dX10_numberIn_2 rfl rfl ?_
  refine ev_istore (i := 4) (lv' := [(4, .int v1), (3, .int 0), (0, va_rf (some a0)), (1, .int v1), (2, .int v2)]) dX10_numberIn_3 (by decide) rfl ?_
  exact ev_sub [2, 3, 4, 1, 0] rfl (ev_X10_numberIn_L5 hO hP P.N h)
set_option maxHeartbeats 4000000 in
set_option maxRecDepth 100000 in
theorem ev_X10_nameIn_p48 {l : Launch} {G : xG} (hO : x_OK l G) {P : xP} (hP : x_PG P G) {a0 : Nat} {v3 : Int64} {σ σ' : xS} {rr : Int64 ⊕ String} (h : dm_X10_nameIn_p48 P a0 v3 σ = some (rr, σ')) : Ev l G mX10_nameIn 48 [(3, .long v3)] [] σ (xrJ rr) σ' := by
  unfold dm_X10_nameIn_p48 at h
  refine ev_lload_n (j := 0) (x := v3) dX10_nameIn_48 rfl rfl ?_
  cases h
  exact ev_lret rfl dX10_nameIn_49
set_option maxHeartbeats 4000000 in
set_option maxRecDepth 100000 in
theorem ev_X10_nameIn_L5 {l : Launch} {G : xG} (hO : x_OK l G) {P : xP} (hP : x_PG P G) {a0 : Nat} : ∀ (n : Nat) {v1 : Int32} {v2 : Int32} {v3 : Int64} {v5 : Int32} {σ σ' : xS} {rr : Int64 ⊕ String}, dm_X10_nameIn_L5 P a0 n v1 v2 v3 v5 σ = some (rr, σ') → Ev l G mX10_nameIn 5 [(0, va_rf (some a0)), (1, .int v1), (2, .int v2), (3, .long v3), (5, .int v5)] [] σ (xrJ rr) σ' := by
  intro n
  induction n with
  | zero => intro v1 v2 v3 v5 σ σ' rr h; cases h
  | succ n ih =>
    intro v1 v2 v3 v5 σ σ' rr h
    rw [dm_X10_nameIn_L5] at h
    refine ev_iload (j := 4) (x := v5) dX10_nameIn_5 rfl ?_
    refine ev_bipush (v := 8) dX10_nameIn_7 (by decide) ?_
    by_cases c_1 : 8 ≤ v5
    · rw [if_pos c_1] at h
      refine ev_icmp_ge (x := v5) (y := 8) (tgt := 48) dX10_nameIn_9 (by decide) (fun _ => ?_) (fun q9 => absurd c_1 q9)
      exact ev_sub [3] rfl (ev_X10_nameIn_p48 hO hP h)
    · rw [if_neg c_1] at h
      refine ev_icmp_ge (x := v5) (y := 8) (tgt := 48) dX10_nameIn_9 (by decide) (fun q9 => absurd q9 c_1) (fun _ => ?_)
      refine ev_iload_n (j := 1) (x := v1) dX10_nameIn_12 rfl rfl ?_
      refine ev_iload (j := 4) (x := v5) dX10_nameIn_13 rfl ?_
      refine ev_iadd (x := v1) (y := v5) dX10_nameIn_15 ?_
      refine ev_iload_n (j := 2) (x := v2) dX10_nameIn_16 rfl rfl ?_
      by_cases c_2 : v2 ≤ (v1 + v5)
      · rw [if_pos c_2] at h
        refine ev_icmp_ge (x := (v1 + v5)) (y := v2) (tgt := 48) dX10_nameIn_17 (by decide) (fun _ => ?_) (fun q9 => absurd c_2 q9)
        exact ev_sub [3] rfl (ev_X10_nameIn_p48 hO hP h)
      · rw [if_neg c_2] at h
        refine ev_icmp_ge (x := (v1 + v5)) (y := v2) (tgt := 48) dX10_nameIn_17 (by decide) (fun q9 => absurd q9 c_2) (fun _ => ?_)
        refine ev_lload_n (j := 3) (x := v3) dX10_nameIn_20 rfl rfl ?_
        refine ev_aload_n (j := 0) (x := (some a0)) dX10_nameIn_21 rfl rfl ?_
        obtain ⟨c_3, h⟩ := x_chk_e h
        refine ev_get (C := RX10) (T := TX10) (k := 0) inX10 (xE_10 c_3) rfl (by decide) wd_88 (Or.inl rfl) rfl dX10_nameIn_22 ?_
        refine ev_iload_n (j := 1) (x := v1) dX10_nameIn_25 rfl rfl ?_
        refine ev_iload (j := 4) (x := v5) dX10_nameIn_26 rfl ?_
        refine ev_iadd (x := v1) (y := v5) dX10_nameIn_28 ?_
        obtain ⟨a_4, ea_4, h⟩ := x_some_e h
        refine ev_at (st' := [.int (v1 + v5), va_rf (some a_4), .long v3]) rfl (by rw [ea_4]) ?_
        obtain ⟨c_5, h⟩ := x_chk_e h
        refine ev_cald c_5.1 c_5.2 dX10_nameIn_29 ?_
        refine ev_i2l (x := (σ.AI a_4 (Int32.toNatClampNeg (v1 + v5)))) dX10_nameIn_30 ?_
        refine ev_bipush (v := 56) dX10_nameIn_31 (by decide) ?_
        refine ev_bipush (v := 8) dX10_nameIn_33 (by decide) ?_
        refine ev_iload (j := 4) (x := v5) dX10_nameIn_35 rfl ?_
        refine ev_imul (x := 8) (y := v5) dX10_nameIn_37 ?_
        refine ev_isub (x := 56) (y := (8 * v5)) dX10_nameIn_38 ?_
        refine ev_lshl (x := (Int32.toInt64 (σ.AI a_4 (Int32.toNatClampNeg (v1 + v5))))) (y := (56 - (8 * v5))) dX10_nameIn_39 ?_
        refine ev_lor (x := v3) (y := ((Int32.toInt64 (σ.AI a_4 (Int32.toNatClampNeg (v1 + v5)))) <<< (Int32.toInt64 (56 - (8 * v5)) &&& 63))) dX10_nameIn_40 ?_
        obtain ⟨v_6, ev_6, h⟩ := x_let_e h
        rw [← ev_6]
        refine ev_lstore_n (i := 3) (lv' := [(3, .long v_6), (0, va_rf (some a0)), (1, .int v1), (2, .int v2), (5, .int v5)]) dX10_nameIn_41 rfl (by decide) rfl ?_
        obtain ⟨v_7, ev_7, h⟩ := x_let_e h
        refine ev_iinc (j := 4) (x := v5) (v := v_7) (lv' := [(5, .int v_7), (3, .long v_6), (0, va_rf (some a0)), (1, .int v1), (2, .int v2)]) dX10_nameIn_42 rfl (by rw [ev_7]; rfl) (by decide) rfl ?_
        refine ev_goto (tgt := 5) dX10_nameIn_45 (by decide) ?_
        exact ev_sub [2, 3, 4, 1, 0] rfl (ih h)
set_option maxHeartbeats 4000000 in
set_option maxRecDepth 100000 in
theorem ev_X10_nameIn {l : Launch} {G : xG} (hO : x_OK l G) {P : xP} (hP : x_PG P G) {a0 : Nat} {v1 : Int32} {v2 : Int32} {σ σ' : xS} {rr : Int64 ⊕ String} (h : dm_X10_nameIn P a0 v1 v2 σ = some (rr, σ')) : EvM l G mX10_nameIn [va_rf (some a0), .int v1, .int v2] σ (xrJ rr) σ' := by
  unfold dm_X10_nameIn at h
  refine evM_of hO (by decide +kernel) (x_lenI (by simp [x_cat, x_catI, x_catJ, mX10_nameIn, xM.maxL])) ?_
  refine Eq.mp (congrArg (fun z => Ev l G mX10_nameIn 0 z [] σ (xrJ rr) σ') (show [(0, va_rf (some a0)), (1, .int v1), (2, .int v2)] = lv_args 0 [va_rf (some a0), .int v1, .int v2] by simp [lv_args, x_cat, x_catI, x_catJ])) ?_
  refine ev_lconst (v := 0) dX10_nameIn_0 (by decide) ?_
  refine ev_lstore_n (i := 3) (lv' := [(3, .long 0), (0, va_rf (some a0)), (1, .int v1), (2, .int v2)]) dX10_nameIn_1 rfl (by decide) rfl ?_
  refine ev_iconst (v := 0) dX10_nameIn_2 (by decide) ?_
  refine ev_istore (i := 5) (lv' := [(5, .int 0), (3, .long 0), (0, va_rf (some a0)), (1, .int v1), (2, .int v2)]) dX10_nameIn_3 (by decide) rfl ?_
  exact ev_sub [2, 3, 4, 1, 0] rfl (ev_X10_nameIn_L5 hO hP P.N h)
