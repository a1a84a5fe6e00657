set_option maxHeartbeats 4000000 in
set_option maxRecDepth 100000 in
theorem ev_X7_pick_p75 {l : Launch} {G : xG} (hO : x_OK l G) {P : xP} (hP : x_PG P G) {a0 : Nat} {k26 : Option Nat → Int32 → xS → xO Int32} (hk26 : ∀ {v1 : Option Nat} {v4 : Int32} {σ σ' : xS} {rr : Int32 ⊕ String}, k26 v1 v4 σ = some (rr, σ') → Ev l G mX7_pick 26 [(0, va_rf (some a0)), (1, va_rf v1), (4, .int v4)] [] σ (xrI rr) σ') {v1 : Option Nat} {v4 : Int32} {σ σ' : xS} {rr : Int32 ⊕ String} (h : dm_X7_pick_p75 P k26 a0 v1 v4 σ = some (rr, σ')) : Ev l G mX7_pick 75 [(0, va_rf (some a0)), (1, va_rf v1), (4, .int v4)] [] σ (xrI rr) σ' := by
  unfold dm_X7_pick_p75 at h
  obtain ⟨v_1, ev_1, h⟩ := x_let_e h
  refine ev_iinc (j := 2) (x := v4) (v := v_1) (lv' := [(4, .int v_1), (0, va_rf (some a0)), (1, va_rf v1)]) dX7_pick_75 rfl (by rw [ev_1]; rfl) (by decide) rfl ?_
  refine ev_goto (tgt := 26) dX7_pick_78 (by decide) ?_
  exact ev_sub [1, 2, 0] rfl (hk26 h)
set_option maxHeartbeats 4000000 in
set_option maxRecDepth 100000 in
theorem ev_X7_pick_p81 {l : Launch} {G : xG} (hO : x_OK l G) {P : xP} (hP : x_PG P G) {a0 : Nat} {σ σ' : xS} {rr : Int32 ⊕ String} (h : dm_X7_pick_p81 P a0 σ = some (rr, σ')) : Ev l G mX7_pick 81 [(0, va_rf (some a0))] [] σ (xrI rr) σ' := by
  unfold dm_X7_pick_p81 at h
  refine ev_aload_n (j := 0) (x := (some a0)) dX7_pick_81 rfl rfl ?_
  obtain ⟨c_1, h⟩ := x_chk_e h
  refine ev_get (C := RX7) (T := TX7) (k := 2) inX7 (xE_8 c_1) rfl (by decide) wd_109 (Or.inl rfl) rfl dX7_pick_82 ?_
  cases h
  exact ev_iret rfl rfl dX7_pick_85
set_option maxHeartbeats 4000000 in
set_option maxRecDepth 100000 in
theorem ev_X7_pick_L26 {l : Launch} {G : xG} (hO : x_OK l G) {P : xP} (hP : x_PG P G) {a0 : Nat} : ∀ (n : Nat) {v1 : Option Nat} {v4 : Int32} {σ σ' : xS} {rr : Int32 ⊕ String}, dm_X7_pick_L26 P a0 n v1 v4 σ = some (rr, σ') → Ev l G mX7_pick 26 [(0, va_rf (some a0)), (1, va_rf v1), (4, .int v4)] [] σ (xrI rr) σ' := by
  intro n
  induction n with
  | zero => intro v1 v4 σ σ' rr h; cases h
  | succ n ih =>
    intro v1 v4 σ σ' rr h
    rw [dm_X7_pick_L26] at h
    refine ev_iload (j := 2) (x := v4) dX7_pick_26 rfl ?_
    refine ev_aload_n (j := 1) (x := v1) dX7_pick_28 rfl rfl ?_
    obtain ⟨a_1, ea_1, h⟩ := x_some_e h
    refine ev_at (st' := [va_rf (some a_1), .int v4]) rfl (by rw [ea_1]) ?_
    obtain ⟨c_2, h⟩ := x_chk_e h
    refine ev_get (C := RX0) (T := TX0) (k := 1) inX0 (xE_1 c_2) rfl (by decide) wd_924 (Or.inl rfl) rfl dX7_pick_29 ?_
    by_cases c_3 : (σ.I 1 a_1) ≤ v4
    · rw [if_pos c_3] at h
      refine ev_icmp_ge (x := v4) (y := (σ.I 1 a_1)) (tgt := 81) dX7_pick_32 (by decide) (fun _ => ?_) (fun q9 => absurd c_3 q9)
      exact ev_sub [0] rfl (ev_X7_pick_p81 hO hP h)
    · rw [if_neg c_3] at h
      refine ev_icmp_ge (x := v4) (y := (σ.I 1 a_1)) (tgt := 81) dX7_pick_32 (by decide) (fun q9 => absurd q9 c_3) (fun _ => ?_)
      refine ev_aload_n (j := 0) (x := (some a0)) dX7_pick_35 rfl rfl ?_
      obtain ⟨c_4, h⟩ := x_chk_e h
      refine ev_get (C := RX7) (T := TX7) (k := 2) inX7 (xE_8 c_4) rfl (by decide) wd_109 (Or.inl rfl) rfl dX7_pick_36 ?_
      refine ev_iconst (v := -1) dX7_pick_39 (by decide) ?_
      by_cases c_5 : (σ.I 702 a0) = (-1)
      · rw [if_pos c_5] at h
        refine ev_icmp_ne (x := (σ.I 702 a0)) (y := (-1)) (tgt := 81) dX7_pick_40 (by decide) (fun q9 => absurd c_5 q9) (fun _ => ?_)
        refine ev_aload_n (j := 0) (x := (some a0)) dX7_pick_43 rfl rfl ?_
        refine ev_get (C := RX7) (T := TX7) (k := 0) inX7 (xE_8 c_4) rfl (by decide) wd_107 (Or.inl rfl) rfl dX7_pick_44 ?_
        by_cases c_6 : (σ.I 700 a0) = 0
        · rw [if_pos c_6] at h
          refine ev_if_eq (x := (σ.I 700 a0)) (tgt := 64) dX7_pick_47 (by decide) (fun _ => ?_) (fun q9 => absurd c_6 q9)
          refine ev_aload_n (j := 0) (x := (some a0)) dX7_pick_64 rfl rfl ?_
          refine ev_aload_n (j := 1) (x := v1) dX7_pick_65 rfl rfl ?_
          refine ev_at (st' := [va_rf (some a_1), va_rf (some a0)]) rfl (by rw [ea_1]) ?_
          refine ev_get (C := RX0) (T := TX0) (k := 0) inX0 (xE_1 c_2) rfl (by decide) wd_925 (Or.inl rfl) rfl dX7_pick_66 ?_
          refine ev_iload (j := 2) (x := v4) dX7_pick_69 rfl ?_
          obtain ⟨a_7, ea_7, h⟩ := x_some_e h
          refine ev_at (st' := [.int v4, va_rf (some a_7), va_rf (some a0)]) rfl (by rw [ea_7]) ?_
          obtain ⟨c_8, h⟩ := x_chk_e h
          refine ev_aald_27 c_8.1 c_8.2 dX7_pick_71 ?_
          rcases x_bind_e h with ⟨v_9, σ_10, h_11, h⟩ | ⟨E_12, σ_10, h_11, h⟩
          · have z9 := x_call (M := mX7_pick) (M' := mX7_printShort) (pc := 72) (st := [va_rf (σ.AR a_7 (Int32.toNatClampNeg v4)), va_rf (some a0)]) (rest := []) (av := [va_rf (some a0), va_rf (σ.AR a_7 (Int32.toNatClampNeg v4))]) (x_linkV (M := mX7_pick) (M' := mX7_printShort) (As := [va_rf (σ.AR a_7 (Int32.toNatClampNeg v4))]) (index := 35) (C := RX7) (T := TX7) (xE_8 c_4) rfl wd_927 wd_928 (wG_in (List.mem_append_left _ (List.mem_of_getElem? (i := 33) rfl)) rfl) xw_X7_printShort rfl (by decide) rfl rfl dX7_pick_72) (ev_X7_printShort hO hP h_11) xw_X7_printShort rfl wd_138 dX7_pick_72 (by decide) (by decide) (by simp [x_cat, x_catI, x_catJ])
            refine x_callR z9 ?_
            refine ev_at (st' := []) rfl rfl ?_
            exact ev_sub [0, 1, 2] rfl (ev_X7_pick_p75 hO hP ih h)
          · have z9 := x_call (M := mX7_pick) (M' := mX7_printShort) (pc := 72) (st := [va_rf (σ.AR a_7 (Int32.toNatClampNeg v4)), va_rf (some a0)]) (rest := []) (av := [va_rf (some a0), va_rf (σ.AR a_7 (Int32.toNatClampNeg v4))]) (x_linkV (M := mX7_pick) (M' := mX7_printShort) (As := [va_rf (σ.AR a_7 (Int32.toNatClampNeg v4))]) (index := 35) (C := RX7) (T := TX7) (xE_8 c_4) rfl wd_927 wd_928 (wG_in (List.mem_append_left _ (List.mem_of_getElem? (i := 33) rfl)) rfl) xw_X7_printShort rfl (by decide) rfl rfl dX7_pick_72) (ev_X7_printShort hO hP h_11) xw_X7_printShort rfl wd_138 dX7_pick_72 (by decide) (by decide) (by simp [x_cat, x_catI, x_catJ])
            cases h
            exact x_callX z9 (evX_out rfl)
        · rw [if_neg c_6] at h
          refine ev_if_eq (x := (σ.I 700 a0)) (tgt := 64) dX7_pick_47 (by decide) (fun q9 => absurd q9 c_6) (fun _ => ?_)
          refine ev_aload_n (j := 0) (x := (some a0)) dX7_pick_50 rfl rfl ?_
          refine ev_aload_n (j := 1) (x := v1) dX7_pick_51 rfl rfl ?_
          refine ev_at (st' := [va_rf (some a_1), va_rf (some a0)]) rfl (by rw [ea_1]) ?_
          refine ev_get (C := RX0) (T := TX0) (k := 0) inX0 (xE_1 c_2) rfl (by decide) wd_925 (Or.inl rfl) rfl dX7_pick_52 ?_
          refine ev_iload (j := 2) (x := v4) dX7_pick_55 rfl ?_
          obtain ⟨a_13, ea_13, h⟩ := x_some_e h
          refine ev_at (st' := [.int v4, va_rf (some a_13), va_rf (some a0)]) rfl (by rw [ea_13]) ?_
          obtain ⟨c_14, h⟩ := x_chk_e h
          refine ev_aald_27 c_14.1 c_14.2 dX7_pick_57 ?_
          rcases x_bind_e h with ⟨v_15, σ_16, h_17, h⟩ | ⟨E_18, σ_16, h_17, h⟩
          · have z9 := x_call (M := mX7_pick) (M' := mX7_printLong) (pc := 58) (st := [va_rf (σ.AR a_13 (Int32.toNatClampNeg v4)), va_rf (some a0)]) (rest := []) (av := [va_rf (some a0), va_rf (σ.AR a_13 (Int32.toNatClampNeg v4))]) (x_linkV (M := mX7_pick) (M' := mX7_printLong) (As := [va_rf (σ.AR a_13 (Int32.toNatClampNeg v4))]) (index := 31) (C := RX7) (T := TX7) (xE_8 c_4) rfl wd_930 wd_931 (wG_in (List.mem_append_left _ (List.mem_of_getElem? (i := 22) rfl)) rfl) xw_X7_printLong rfl (by decide) rfl rfl dX7_pick_58) (ev_X7_printLong hO hP h_17) xw_X7_printLong rfl wd_138 dX7_pick_58 (by decide) (by decide) (by simp [x_cat, x_catI, x_catJ])
            refine x_callR z9 ?_
            refine ev_at (st' := []) rfl rfl ?_
            refine ev_goto (tgt := 75) dX7_pick_61 (by decide) ?_
            exact ev_sub [0, 1, 2] rfl (ev_X7_pick_p75 hO hP ih h)
          · have z9 := x_call (M := mX7_pick) (M' := mX7_printLong) (pc := 58) (st := [va_rf (σ.AR a_13 (Int32.toNatClampNeg v4)), va_rf (some a0)]) (rest := []) (av := [va_rf (some a0), va_rf (σ.AR a_13 (Int32.toNatClampNeg v4))]) (x_linkV (M := mX7_pick) (M' := mX7_printLong) (As := [va_rf (σ.AR a_13 (Int32.toNatClampNeg v4))]) (index := 31) (C := RX7) (T := TX7) (xE_8 c_4) rfl wd_930 wd_931 (wG_in (List.mem_append_left _ (List.mem_of_getElem? (i := 22) rfl)) rfl) xw_X7_printLong rfl (by decide) rfl rfl dX7_pick_58) (ev_X7_printLong hO hP h_17) xw_X7_printLong rfl wd_138 dX7_pick_58 (by decide) (by decide) (by simp [x_cat, x_catI, x_catJ])
            cases h
            exact x_callX z9 (evX_out rfl)
      · rw [if_neg c_5] at h
        refine ev_icmp_ne (x := (σ.I 702 a0)) (y := (-1)) (tgt := 81) dX7_pick_40 (by decide) (fun _ => ?_) (fun q9 => absurd q9 c_5)
        exact ev_sub [0] rfl (ev_X7_pick_p81 hO hP h)
set_option maxHeartbeats 4000000 in
set_option maxRecDepth 100000 in
theorem ev_X7_pick_p10 {l : Launch} {G : xG} (hO : x_OK l G) {P : xP} (hP : x_PG P G) {a0 : Nat} {v1 : Option Nat} {v3 : Int32} {s0 : Option Nat} {s1 : Int32} {σ σ' : xS} {rr : Int32 ⊕ String} (h : dm_X7_pick_p10 P a0 v1 v3 s0 s1 σ = some (rr, σ')) : Ev l G mX7_pick 10 [(0, va_rf (some a0)), (1, va_rf v1), (3, .int v3)] [.int s1, va_rf s0] σ (xrI rr) σ' := by
  unfold dm_X7_pick_p10 at h
  obtain ⟨a_1, ea_1, h⟩ := x_some_e h
  refine ev_at (st' := [.int s1, va_rf (some a_1)]) rfl (by rw [ea_1]) ?_
  obtain ⟨c_2, h⟩ := x_chk_e h
  obtain ⟨σ_3, eσ_3, h⟩ := x_let_e h
  refine ev_put (σ2 := σ_3) (C := RX7) (T := TX7) (k := 0) inX7 tyX7 tyX7_ok nmX7 (xE_8 c_2.1) rfl (by decide) wd_107 (Or.inl rfl) rfl rfl (x_boolN c_2.2.2) (x_boolF c_2.2.2) (Nat.le_of_ble_eq_true rfl) (hP.2.2.2.1 ▸ c_2.2.1) (by rw [eσ_3]; exact xP_8_0 _ c_2.1) (by rw [eσ_3]; exact xPut_I) dX7_pick_10 ?_
  refine ev_aload_n (j := 0) (x := (some a0)) dX7_pick_13 rfl rfl ?_
  refine ev_iload_n (j := 2) (x := v3) dX7_pick_14 rfl rfl ?_
  obtain ⟨c_4, h⟩ := x_chk_e h
  obtain ⟨σ_5, eσ_5, h⟩ := x_let_e h
  refine ev_put (σ2 := σ_5) (C := RX7) (T := TX7) (k := 1) inX7 tyX7 tyX7_ok nmX7 (xE_8 c_4.1) rfl (by decide) wd_108 (Or.inl rfl) rfl rfl rfl rfl (Nat.le_of_ble_eq_true rfl) (hP.2.2.2.1 ▸ c_4.2) (by rw [eσ_5]; exact xP_8_1 _ c_4.1) (by rw [eσ_5]; exact xPut_I) dX7_pick_15 ?_
  refine ev_aload_n (j := 0) (x := (some a0)) dX7_pick_18 rfl rfl ?_
  refine ev_iconst (v := -1) dX7_pick_19 (by decide) ?_
  obtain ⟨c_6, h⟩ := x_chk_e h
  obtain ⟨σ_7, eσ_7, h⟩ := x_let_e h
  refine ev_put (σ2 := σ_7) (C := RX7) (T := TX7) (k := 2) inX7 tyX7 tyX7_ok nmX7 (xE_8 c_6.1) rfl (by decide) wd_109 (Or.inl rfl) rfl rfl rfl rfl (Nat.le_of_ble_eq_true rfl) (hP.2.2.2.1 ▸ c_6.2) (by rw [eσ_7]; exact xP_8_2 _ c_6.1) (by rw [eσ_7]; exact xPut_I) dX7_pick_20 ?_
  refine ev_iconst (v := 0) dX7_pick_23 (by decide) ?_
  refine ev_istore (i := 4) (lv' := [(4, .int 0), (0, va_rf (some a0)), (1, va_rf v1), (3, .int v3)]) dX7_pick_24 (by decide) rfl ?_
  exact ev_sub [1, 2, 0] rfl (ev_X7_pick_L26 hO hP P.N h)
set_option maxHeartbeats 4000000 in
set_option maxRecDepth 100000 in
theorem ev_X7_pick {l : Launch} {G : xG} (hO : x_OK l G) {P : xP} (hP : x_PG P G) {a0 : Nat} {v1 : Option Nat} {v2 : Int32} {v3 : Int32} {σ σ' : xS} {rr : Int32 ⊕ String} (h : dm_X7_pick P a0 v1 v2 v3 σ = some (rr, σ')) : EvM l G mX7_pick [va_rf (some a0), va_rf v1, .int v2, .int v3] σ (xrI rr) σ' := by
  unfold dm_X7_pick at h
  refine evM_of hO (by decide +kernel) (x_lenI (by simp [x_cat, x_catI, x_catJ, mX7_pick, xM.maxL])) ?_
  refine Eq.mp (congrArg (fun z => Ev l G mX7_pick 0 z [] σ (xrI rr) σ') (show [(0, va_rf (some a0)), (1, va_rf v1), (2, .int v2), (3, .int v3)] = lv_args 0 [va_rf (some a0), va_rf v1, .int v2, .int v3] by simp [lv_args, x_cat, x_catI, x_catJ])) ?_
  refine ev_aload_n (j := 0) (x := (some a0)) dX7_pick_0 rfl rfl ?_
  refine ev_iload_n (j := 2) (x := v2) dX7_pick_1 rfl rfl ?_
  by_cases c_1 : v2 = 0
  · rw [if_pos c_1] at h
    refine ev_if_ne (x := v2) (tgt := 9) dX7_pick_2 (by decide) (fun q9 => absurd c_1 q9) (fun _ => ?_)
    refine ev_iconst (v := 1) dX7_pick_5 (by decide) ?_
    refine ev_goto (tgt := 10) dX7_pick_6 (by decide) ?_
    exact ev_sub [0, 1, 3] rfl (ev_X7_pick_p10 hO hP h)
  · rw [if_neg c_1] at h
    refine ev_if_ne (x := v2) (tgt := 9) dX7_pick_2 (by decide) (fun _ => ?_) (fun q9 => absurd q9 c_1)
    refine ev_iconst (v := 0) dX7_pick_9 (by decide) ?_
    exact ev_sub [0, 1, 3] rfl (ev_X7_pick_p10 hO hP h)
set_option maxHeartbeats 4000000 in
set_option maxRecDepth 100000 in
theorem ev_X11_write_p26 {l : Launch} {G : xG} (hO : x_OK l G) {P : xP} (hP : x_PG P G) {a0 : Nat} {v1 : Int32} {v2 : Int32} {s0 : Int32} {σ σ' : xS} {rr : Int32 ⊕ String} (h : dm_X11_write_p26 P a0 v1 v2 s0 σ = some (rr, σ')) : Ev l G mX11_write 26 [(0, va_rf (some a0)), (1, .int v1), (2, .int v2)] [.int s0] σ (xrI rr) σ' := by
  unfold dm_X11_write_p26 at h
  rcases x_bind_e h with ⟨v_1, σ_2, h_3, h⟩ | ⟨E_11, σ_2, h_3, h⟩
  · have z9 := x_call (M := mX11_write) (M' := mX11_refuseUnless) (pc := 26) (st := [.int s0]) (rest := []) (av := [.int s0]) (x_linkS (M := mX11_write) (M' := mX11_refuseUnless) (As := [.int s0]) (index := 57) wd_3 wd_4 wd_5 xw_X11_refuseUnless rfl ⟨_, _, _, Or.inl wd_2⟩ (by decide) rfl rfl dX11_write_26) (ev_X11_refuseUnless hO hP h_3) xw_X11_refuseUnless rfl wd_5 dX11_write_26 (by decide) (by decide) (by simp [x_cat, x_catI, x_catJ])
    refine x_callR z9 ?_
    refine ev_at (st' := []) rfl rfl ?_
    refine ev_aload_n (j := 0) (x := (some a0)) dX11_write_29 rfl rfl ?_
    obtain ⟨c_4, h⟩ := x_chk_e h
    refine ev_get (C := RX11) (T := TX11) (k := 3) inX11 (xE_11 c_4) rfl (by decide) wd_142 (Or.inl rfl) rfl dX11_write_30 ?_
    refine ev_aload_n (j := 0) (x := (some a0)) dX11_write_33 rfl rfl ?_
    refine ev_get (C := RX11) (T := TX11) (k := 4) inX11 (xE_11 c_4) rfl (by decide) wd_0 (Or.inl rfl) rfl dX11_write_34 ?_
    refine ev_iload_n (j := 1) (x := v1) dX11_write_37 rfl rfl ?_
    refine ev_iload_n (j := 2) (x := v2) dX11_write_38 rfl rfl ?_
    obtain ⟨a_5, ea_5, h⟩ := x_some_e h
    refine ev_at (st' := [.int v2, .int v1, va_rf (σ_2.R 1004 a0), va_rf (some a_5)]) rfl (by rw [ea_5]) ?_
    obtain ⟨c_9, h⟩ := x_chk_e h
    rcases x_bind_e h with ⟨v_6, σ_7, h_8, h⟩ | ⟨E_10, σ_7, h_8, h⟩
    · have z9 := x_call (M := mX11_write) (M' := mX7_pick) (pc := 39) (st := [.int v2, .int v1, va_rf (σ_2.R 1004 a0), va_rf (some a_5)]) (rest := []) (av := [va_rf (some a_5), va_rf (σ_2.R 1004 a0), .int v1, .int v2]) (x_linkV (M := mX11_write) (M' := mX7_pick) (As := [va_rf (σ_2.R 1004 a0), .int v1, .int v2]) (index := 172) (C := RX7) (T := TX7) (xE_8 c_9) rfl wd_934 wd_935 wd_933 xw_X7_pick rfl (by decide) rfl rfl dX11_write_39) (ev_X7_pick hO hP h_8) xw_X7_pick rfl wd_138 dX11_write_39 (by decide) (by decide) (by simp [x_cat, x_catI, x_catJ])
      refine x_callR z9 ?_
      refine ev_at (st' := [.int v_6]) rfl rfl ?_
      cases h
      exact ev_iret rfl rfl dX11_write_42
    · have z9 := x_call (M := mX11_write) (M' := mX7_pick) (pc := 39) (st := [.int v2, .int v1, va_rf (σ_2.R 1004 a0), va_rf (some a_5)]) (rest := []) (av := [va_rf (some a_5), va_rf (σ_2.R 1004 a0), .int v1, .int v2]) (x_linkV (M := mX11_write) (M' := mX7_pick) (As := [va_rf (σ_2.R 1004 a0), .int v1, .int v2]) (index := 172) (C := RX7) (T := TX7) (xE_8 c_9) rfl wd_934 wd_935 wd_933 xw_X7_pick rfl (by decide) rfl rfl dX11_write_39) (ev_X7_pick hO hP h_8) xw_X7_pick rfl wd_138 dX11_write_39 (by decide) (by decide) (by simp [x_cat, x_catI, x_catJ])
      cases h
      exact x_callX z9 (evX_out rfl)
  · have z9 := x_call (M := mX11_write) (M' := mX11_refuseUnless) (pc := 26) (st := [.int s0]) (rest := []) (av := [.int s0]) (x_linkS (M := mX11_write) (M' := mX11_refuseUnless) (As := [.int s0]) (index := 57) wd_3 wd_4 wd_5 xw_X11_refuseUnless rfl ⟨_, _, _, Or.inl wd_2⟩ (by decide) rfl rfl dX11_write_26) (ev_X11_refuseUnless hO hP h_3) xw_X11_refuseUnless rfl wd_5 dX11_write_26 (by decide) (by decide) (by simp [x_cat, x_catI, x_catJ])
    cases h
    exact x_callX z9 (evX_out rfl)
set_option maxHeartbeats 4000000 in
set_option maxRecDepth 100000 in
theorem ev_X11_write_p14 {l : Launch} {G : xG} (hO : x_OK l G) {P : xP} (hP : x_PG P G) {a0 : Nat} {v1 : Int32} {v2 : Int32} {s0 : Int32} {σ σ' : xS} {rr : Int32 ⊕ String} (h : dm_X11_write_p14 P a0 v1 v2 s0 σ = some (rr, σ')) : Ev l G mX11_write 14 [(0, va_rf (some a0)), (1, .int v1), (2, .int v2)] [.int s0] σ (xrI rr) σ' := by
  unfold dm_X11_write_p14 at h
  rcases x_bind_e h with ⟨v_1, σ_2, h_3, h⟩ | ⟨E_5, σ_2, h_3, h⟩
  · have z9 := x_call (M := mX11_write) (M' := mX11_refuseUnless) (pc := 14) (st := [.int s0]) (rest := []) (av := [.int s0]) (x_linkS (M := mX11_write) (M' := mX11_refuseUnless) (As := [.int s0]) (index := 57) wd_3 wd_4 wd_5 xw_X11_refuseUnless rfl ⟨_, _, _, Or.inl wd_2⟩ (by decide) rfl rfl dX11_write_14) (ev_X11_refuseUnless hO hP h_3) xw_X11_refuseUnless rfl wd_5 dX11_write_14 (by decide) (by decide) (by simp [x_cat, x_catI, x_catJ])
    refine x_callR z9 ?_
    refine ev_at (st' := []) rfl rfl ?_
    refine ev_iload_n (j := 2) (x := v2) dX11_write_17 rfl rfl ?_
    by_cases c_4 : v2 < 0
    · rw [if_pos c_4] at h
      refine ev_if_lt (x := v2) (tgt := 25) dX11_write_18 (by decide) (fun _ => ?_) (fun q9 => absurd c_4 q9)
      refine ev_iconst (v := 0) dX11_write_25 (by decide) ?_
      exact ev_sub [0, 1, 2] rfl (ev_X11_write_p26 hO hP h)
    · rw [if_neg c_4] at h
      refine ev_if_lt (x := v2) (tgt := 25) dX11_write_18 (by decide) (fun q9 => absurd q9 c_4) (fun _ => ?_)
      refine ev_iconst (v := 1) dX11_write_21 (by decide) ?_
      refine ev_goto (tgt := 26) dX11_write_22 (by decide) ?_
      exact ev_sub [0, 1, 2] rfl (ev_X11_write_p26 hO hP h)
  · have z9 := x_call (M := mX11_write) (M' := mX11_refuseUnless) (pc := 14) (st := [.int s0]) (rest := []) (av := [.int s0]) (x_linkS (M := mX11_write) (M' := mX11_refuseUnless) (As := [.int s0]) (index := 57) wd_3 wd_4 wd_5 xw_X11_refuseUnless rfl ⟨_, _, _, Or.inl wd_2⟩ (by decide) rfl rfl dX11_write_14) (ev_X11_refuseUnless hO hP h_3) xw_X11_refuseUnless rfl wd_5 dX11_write_14 (by decide) (by decide) (by simp [x_cat, x_catI, x_catJ])
    cases h
    exact x_callX z9 (evX_out rfl)
set_option maxHeartbeats 4000000 in
set_option maxRecDepth 100000 in
theorem ev_X11_write_p9 {l : Launch} {G : xG} (hO : x_OK l G) {P : xP} (hP : x_PG P G) {a0 : Nat} {v1 : Int32} {v2 : Int32} {σ σ' : xS} {rr : Int32 ⊕ String} (h : dm_X11_write_p9 P a0 v1 v2 σ = some (rr, σ')) : Ev l G mX11_write 9 [(0, va_rf (some a0)), (1, .int v1), (2, .int v2)] [] σ (xrI rr) σ' := by
  unfold dm_X11_write_p9 at h
  refine ev_iconst (v := 1) dX11_write_9 (by decide) ?_
  refine ev_goto (tgt := 14) dX11_write_10 (by decide) ?_
  exact ev_sub [0, 1, 2] rfl (ev_X11_write_p14 hO hP h)
set_option maxHeartbeats 4000000 in
set_option maxRecDepth 100000 in
theorem ev_X11_write {l : Launch} {G : xG} (hO : x_OK l G) {P : xP} (hP : x_PG P G) {a0 : Nat} {v1 : Int32} {v2 : Int32} {σ σ' : xS} {rr : Int32 ⊕ String} (h : dm_X11_write P a0 v1 v2 σ = some (rr, σ')) : EvM l G mX11_write [va_rf (some a0), .int v1, .int v2] σ (xrI rr) σ' := by
  unfold dm_X11_write at h
  refine evM_of hO (by decide +kernel) (x_lenI (by simp [x_cat, x_catI, x_catJ, mX11_write, xM.maxL])) ?_
  refine Eq.mp (congrArg (fun z => Ev l G mX11_write 0 z [] σ (xrI rr) σ') (show [(0, va_rf (some a0)), (1, .int v1), (2, .int v2)] = lv_args 0 [va_rf (some a0), .int v1, .int v2] by simp [lv_args, x_cat, x_catI, x_catJ])) ?_
  refine ev_iload_n (j := 1) (x := v1) dX11_write_0 rfl rfl ?_
  by_cases c_1 : v1 = 0
  · rw [if_pos c_1] at h
    refine ev_if_eq (x := v1) (tgt := 9) dX11_write_1 (by decide) (fun _ => ?_) (fun q9 => absurd c_1 q9)
    exact ev_sub [0, 1, 2] rfl (ev_X11_write_p9 hO hP h)
  · rw [if_neg c_1] at h
    refine ev_if_eq (x := v1) (tgt := 9) dX11_write_1 (by decide) (fun q9 => absurd q9 c_1) (fun _ => ?_)
    refine ev_iload_n (j := 1) (x := v1) dX11_write_4 rfl rfl ?_
    refine ev_iconst (v := 1) dX11_write_5 (by decide) ?_
    by_cases c_2 : v1 = 1
    · rw [if_pos c_2] at h
      refine ev_icmp_ne (x := v1) (y := 1) (tgt := 13) dX11_write_6 (by decide) (fun q9 => absurd c_2 q9) (fun _ => ?_)
      exact ev_sub [0, 1, 2] rfl (ev_X11_write_p9 hO hP h)
    · rw [if_neg c_2] at h
      refine ev_icmp_ne (x := v1) (y := 1) (tgt := 13) dX11_write_6 (by decide) (fun _ => ?_) (fun q9 => absurd q9 c_2)
      refine ev_iconst (v := 0) dX11_write_13 (by decide) ?_
      exact ev_sub [0, 1, 2] rfl (ev_X11_write_p14 hO hP h)
set_option maxHeartbeats 4000000 in
set_option maxRecDepth 100000 in
theorem ev_L_write {l : Launch} {G : xG} (hO : x_OK l G) {P : xP} (hP : x_PG P G) {v0 : Option Nat} {v1 : Int32} {v2 : Int32} {v3 : Option Nat} {σ σ' : xS} {rr : Int32 ⊕ String} (h : dm_L_write P v0 v1 v2 v3 σ = some (rr, σ')) : EvM l G mL_write [va_rf v0, .int v1, .int v2, va_rf v3] σ (xrI rr) σ' := by
  unfold dm_L_write at h
  refine evM_of hO (by decide +kernel) (x_lenI (by simp [x_cat, x_catI, x_catJ, mL_write, xM.maxL])) ?_
  refine Eq.mp (congrArg (fun z => Ev l G mL_write 0 z [] σ (xrI rr) σ') (show [(0, va_rf v0), (1, .int v1), (2, .int v2), (3, va_rf v3)] = lv_args 0 [va_rf v0, .int v1, .int v2, va_rf v3] by simp [lv_args, x_cat, x_catI, x_catJ])) ?_
  refine ev_aload_n (j := 3) (x := v3) dL_write_0 rfl rfl ?_
  refine ev_iconst (v := 0) dL_write_1 (by decide) ?_
  refine ev_aload_n (j := 0) (x := v0) dL_write_2 rfl rfl ?_
  refine ev_iload_n (j := 1) (x := v1) dL_write_3 rfl rfl ?_
  refine ev_iload_n (j := 2) (x := v2) dL_write_4 rfl rfl ?_
  obtain ⟨a_1, ea_1, h⟩ := x_some_e h
  refine ev_at (st' := [.int v2, .int v1, va_rf (some a_1), .int 0, va_rf v3]) rfl (by rw [ea_1]) ?_
  obtain ⟨c_5, h⟩ := x_chk_e h
  rcases x_bind_e h with ⟨v_2, σ_3, h_4, h⟩ | ⟨E_9, σ_3, h_4, h⟩
  · have z9 := x_call (M := mL_write) (M' := mX11_write) (pc := 5) (st := [.int v2, .int v1, va_rf (some a_1), .int 0, va_rf v3]) (rest := [.int 0, va_rf v3]) (av := [va_rf (some a_1), .int v1, .int v2]) (x_linkV (M := mL_write) (M' := mX11_write) (As := [.int v1, .int v2]) (index := 36) (C := RX11) (T := TX11) (xE_11 c_5) rfl wd_938 wd_939 wd_937 xw_X11_write rfl (by decide) rfl rfl dL_write_5) (ev_X11_write hO hP h_4) xw_X11_write rfl wd_5 dL_write_5 (by decide) (by decide) (by simp [x_cat, x_catI, x_catJ])
    refine x_callR z9 ?_
    refine ev_at (st' := [.int v_2, .int 0, va_rf v3]) rfl rfl ?_
    refine ev_i2l (x := v_2) dL_write_8 ?_
    obtain ⟨a_6, ea_6, h⟩ := x_some_e h
    refine ev_at (st' := [.long (Int32.toInt64 v_2), .int 0, va_rf (some a_6)]) rfl (by rw [ea_6]) ?_
    obtain ⟨c_7, h⟩ := x_chk_e h
    obtain ⟨σ_8, eσ_8, h⟩ := x_let_e h
    refine ev_last_42 c_7.1 c_7.2.1 (hP.2.2.2.1 ▸ c_7.2.2) dL_write_9 (eσ_8 ▸ ?_)
    refine ev_goto (tgt := 17) dL_write_10 (by decide) ?_
    refine ev_iconst (v := 0) dL_write_17 (by decide) ?_
    cases h
    exact ev_iret rfl rfl dL_write_18
  · have z9 := x_call (M := mL_write) (M' := mX11_write) (pc := 5) (st := [.int v2, .int v1, va_rf (some a_1), .int 0, va_rf v3]) (rest := [.int 0, va_rf v3]) (av := [va_rf (some a_1), .int v1, .int v2]) (x_linkV (M := mL_write) (M' := mX11_write) (As := [.int v1, .int v2]) (index := 36) (C := RX11) (T := TX11) (xE_11 c_5) rfl wd_938 wd_939 wd_937 xw_X11_write rfl (by decide) rfl rfl dL_write_5) (ev_X11_write hO hP h_4) xw_X11_write rfl wd_5 dL_write_5 (by decide) (by decide) (by simp [x_cat, x_catI, x_catJ])
    obtain ⟨c_11, h9⟩ := x_chk_e h
    clear h
    subst c_11
    have h := h9
    clear h9
    refine x_callX z9 (evX_catch (name := "java/lang/IndexOutOfBoundsException") (x := (0, 10, 13, 13)) (xs := []) rfl (by decide) (by decide) wd_31 wd_32 (fun q_10 => ?_))
    refine ev_astore (i := 4) (lv' := [(4, va_rf (some q_10)), (0, va_rf v0), (1, .int v1), (2, .int v2), (3, va_rf v3)]) dL_write_13 (by decide) (by simp [x_cat, x_catI, x_catJ]) ?_
    refine ev_iconst (v := 1) dL_write_15 (by decide) ?_
    cases h
    exact ev_iret rfl rfl dL_write_16
set_option maxHeartbeats 4000000 in
set_option maxRecDepth 100000 in
theorem ev_X12_print_p20 {l : Launch} {G : xG} (hO : x_OK l G) {P : xP} (hP : x_PG P G) {a0 : Nat} {s0 : Option Nat} {s1 : Int32} {σ σ' : xS} {rr : Unit ⊕ String} (h : dm_X12_print_p20 P a0 s0 s1 σ = some (rr, σ')) : Ev l G mX12_print 20 [(0, va_rf (some a0))] [.int s1, va_rf s0] σ (xrV rr) σ' := by
  unfold dm_X12_print_p20 at h
  obtain ⟨a_1, ea_1, h⟩ := x_some_e h
  refine ev_at (st' := [.int s1, va_rf (some a_1)]) rfl (by rw [ea_1]) ?_
  obtain ⟨c_2, h⟩ := x_chk_e h
  obtain ⟨σ_3, eσ_3, h⟩ := x_let_e h
  refine ev_put (σ2 := σ_3) (C := RX12) (T := TX12) (k := 44) inX12 tyX12 tyX12_ok nmX12 (xE_12 c_2.1) rfl (by decide) wd_942 (Or.inl rfl) rfl rfl rfl rfl (Nat.le_of_ble_eq_true rfl) (hP.2.2.2.1 ▸ c_2.2) (by rw [eσ_3]; exact xP_12_44 _ c_2.1) (by rw [eσ_3]; exact xPut_I) dX12_print_20 ?_
  refine ev_aload_n (j := 0) (x := (some a0)) dX12_print_23 rfl rfl ?_
  refine ev_dup dX12_print_24 (x_cat _) ?_
  obtain ⟨c_4, h⟩ := x_chk_e h
  refine ev_get (C := RX12) (T := TX12) (k := 42) inX12 (xE_12 c_4) rfl (by decide) wd_940 (Or.inl rfl) rfl dX12_print_25 ?_
  refine ev_iconst (v := 1) dX12_print_28 (by decide) ?_
  refine ev_iadd (x := (σ_3.I 1142 a0)) (y := 1) dX12_print_29 ?_
  obtain ⟨c_5, h⟩ := x_chk_e h
  obtain ⟨σ_6, eσ_6, h⟩ := x_let_e h
  refine ev_put (σ2 := σ_6) (C := RX12) (T := TX12) (k := 42) inX12 tyX12 tyX12_ok nmX12 (xE_12 c_5.1) rfl (by decide) wd_940 (Or.inl rfl) rfl rfl rfl rfl (Nat.le_of_ble_eq_true rfl) (hP.2.2.2.1 ▸ c_5.2) (by rw [eσ_6]; exact xP_12_42 _ c_5.1) (by rw [eσ_6]; exact xPut_I) dX12_print_30 ?_
  cases h
  exact ev_vret rfl dX12_print_33
set_option maxHeartbeats 4000000 in
set_option maxRecDepth 100000 in
theorem ev_X12_print {l : Launch} {G : xG} (hO : x_OK l G) {P : xP} (hP : x_PG P G) {a0 : Nat} {v1 : Int32} {σ σ' : xS} {rr : Unit ⊕ String} (h : dm_X12_print P a0 v1 σ = some (rr, σ')) : EvM l G mX12_print [va_rf (some a0), .int v1] σ (xrV rr) σ' := by
  unfold dm_X12_print at h
  refine evM_of hO (by decide +kernel) (x_lenI (by simp [x_cat, x_catI, x_catJ, mX12_print, xM.maxL])) ?_
  refine Eq.mp (congrArg (fun z => Ev l G mX12_print 0 z [] σ (xrV rr) σ') (show [(0, va_rf (some a0)), (1, .int v1)] = lv_args 0 [va_rf (some a0), .int v1] by simp [lv_args, x_cat, x_catI, x_catJ])) ?_
  refine ev_aload_n (j := 0) (x := (some a0)) dX12_print_0 rfl rfl ?_
  refine ev_aload_n (j := 0) (x := (some a0)) dX12_print_1 rfl rfl ?_
  obtain ⟨c_1, h⟩ := x_chk_e h
  refine ev_get (C := RX12) (T := TX12) (k := 42) inX12 (xE_12 c_1) rfl (by decide) wd_940 (Or.inl rfl) rfl dX12_print_2 ?_
  refine ev_aload_n (j := 0) (x := (some a0)) dX12_print_5 rfl rfl ?_
  refine ev_get (C := RX12) (T := TX12) (k := 43) inX12 (xE_12 c_1) rfl (by decide) wd_941 (Or.inl rfl) rfl dX12_print_6 ?_
  by_cases c_2 : (σ.I 1142 a0) = (σ.I 1143 a0)
  · rw [if_pos c_2] at h
    refine ev_icmp_ne (x := (σ.I 1142 a0)) (y := (σ.I 1143 a0)) (tgt := 16) dX12_print_9 (by decide) (fun q9 => absurd c_2 q9) (fun _ => ?_)
    refine ev_iload_n (j := 1) (x := v1) dX12_print_12 rfl rfl ?_
    refine ev_goto (tgt := 20) dX12_print_13 (by decide) ?_
    exact ev_sub [0] rfl (ev_X12_print_p20 hO hP h)
  · rw [if_neg c_2] at h
    refine ev_icmp_ne (x := (σ.I 1142 a0)) (y := (σ.I 1143 a0)) (tgt := 16) dX12_print_9 (by decide) (fun _ => ?_) (fun q9 => absurd q9 c_2)
    refine ev_aload_n (j := 0) (x := (some a0)) dX12_print_16 rfl rfl ?_
    refine ev_get (C := RX12) (T := TX12) (k := 44) inX12 (xE_12 c_1) rfl (by decide) wd_942 (Or.inl rfl) rfl dX12_print_17 ?_
    exact ev_sub [0] rfl (ev_X12_print_p20 hO hP h)
set_option maxHeartbeats 4000000 in
set_option maxRecDepth 100000 in
theorem ev_X12_printFour_p26 {l : Launch} {G : xG} (hO : x_OK l G) {P : xP} (hP : x_PG P G) {a0 : Nat} {σ σ' : xS} {rr : Unit ⊕ String} (h : dm_X12_printFour_p26 P a0 σ = some (rr, σ')) : Ev l G mX12_printFour 26 [] [] σ (xrV rr) σ' := by
  unfold dm_X12_printFour_p26 at h
  cases h
  exact ev_vret rfl dX12_printFour_26
set_option maxHeartbeats 4000000 in
set_option maxRecDepth 100000 in
theorem ev_X12_printFour {l : Launch} {G : xG} (hO : x_OK l G) {P : xP} (hP : x_PG P G) {a0 : Nat} {v1 : Int32} {v2 : Int32} {v3 : Int32} {v4 : Int32} {σ σ' : xS} {rr : Unit ⊕ String} (h : dm_X12_printFour P a0 v1 v2 v3 v4 σ = some (rr, σ')) : EvM l G mX12_printFour [va_rf (some a0), .int v1, .int v2, .int v3, .int v4] σ (xrV rr) σ' := by
  unfold dm_X12_printFour at h
  refine evM_of hO (by decide +kernel) (x_lenI (by simp [x_cat, x_catI, x_catJ, mX12_printFour, xM.maxL])) ?_
  refine Eq.mp (congrArg (fun z => Ev l G mX12_printFour 0 z [] σ (xrV rr) σ') (show [(0, va_rf (some a0)), (1, .int v1), (2, .int v2), (3, .int v3), (4, .int v4)] = lv_args 0 [va_rf (some a0), .int v1, .int v2, .int v3, .int v4] by simp [lv_args, x_cat, x_catI, x_catJ])) ?_
  refine ev_aload_n (j := 0) (x := (some a0)) dX12_printFour_0 rfl rfl ?_
  refine ev_iload_n (j := 1) (x := v1) dX12_printFour_1 rfl rfl ?_
  obtain ⟨c_4, h⟩ := x_chk_e h
  rcases x_bind_e h with ⟨v_1, σ_2, h_3, h⟩ | ⟨E_21, σ_2, h_3, h⟩
  · have z9 := x_call (M := mX12_printFour) (M' := mX12_print) (pc := 2) (st := [.int v1, va_rf (some a0)]) (rest := []) (av := [va_rf (some a0), .int v1]) (x_linkV (M := mX12_printFour) (M' := mX12_print) (As := [.int v1]) (index := 344) (C := RX12) (T := TX12) (xE_12 c_4) rfl wd_944 wd_945 (wG_in (List.mem_append_left _ (List.mem_of_getElem? (i := 96) rfl)) rfl) xw_X12_print rfl (by decide) rfl rfl dX12_printFour_2) (ev_X12_print hO hP h_3) xw_X12_print rfl wd_198 dX12_printFour_2 (by decide) (by decide) (by simp [x_cat, x_catI, x_catJ])
    refine x_callR z9 ?_
    refine ev_at (st' := []) rfl rfl ?_
    refine ev_aload_n (j := 0) (x := (some a0)) dX12_printFour_5 rfl rfl ?_
    refine ev_iload_n (j := 2) (x := v2) dX12_printFour_6 rfl rfl ?_
    obtain ⟨c_8, h⟩ := x_chk_e h
    rcases x_bind_e h with ⟨v_5, σ_6, h_7, h⟩ | ⟨E_20, σ_6, h_7, h⟩
    · have z9 := x_call (M := mX12_printFour) (M' := mX12_print) (pc := 7) (st := [.int v2, va_rf (some a0)]) (rest := []) (av := [va_rf (some a0), .int v2]) (x_linkV (M := mX12_printFour) (M' := mX12_print) (As := [.int v2]) (index := 344) (C := RX12) (T := TX12) (xE_12 c_8) rfl wd_944 wd_945 (wG_in (List.mem_append_left _ (List.mem_of_getElem? (i := 96) rfl)) rfl) xw_X12_print rfl (by decide) rfl rfl dX12_printFour_7) (ev_X12_print hO hP h_7) xw_X12_print rfl wd_198 dX12_printFour_7 (by decide) (by decide) (by simp [x_cat, x_catI, x_catJ])
      refine x_callR z9 ?_
      refine ev_at (st' := []) rfl rfl ?_
      refine ev_aload_n (j := 0) (x := (some a0)) dX12_printFour_10 rfl rfl ?_
      refine ev_iload_n (j := 3) (x := v3) dX12_printFour_11 rfl rfl ?_
      obtain ⟨c_12, h⟩ := x_chk_e h
      rcases x_bind_e h with ⟨v_9, σ_10, h_11, h⟩ | ⟨E_19, σ_10, h_11, h⟩
      · have z9 := x_call (M := mX12_printFour) (M' := mX12_print) (pc := 12) (st := [.int v3, va_rf (some a0)]) (rest := []) (av := [va_rf (some a0), .int v3]) (x_linkV (M := mX12_printFour) (M' := mX12_print) (As := [.int v3]) (index := 344) (C := RX12) (T := TX12) (xE_12 c_12) rfl wd_944 wd_945 (wG_in (List.mem_append_left _ (List.mem_of_getElem? (i := 96) rfl)) rfl) xw_X12_print rfl (by decide) rfl rfl dX12_printFour_12) (ev_X12_print hO hP h_11) xw_X12_print rfl wd_198 dX12_printFour_12 (by decide) (by decide) (by simp [x_cat, x_catI, x_catJ])
        refine x_callR z9 ?_
        refine ev_at (st' := []) rfl rfl ?_
        refine ev_iload (j := 4) (x := v4) dX12_printFour_15 rfl ?_
        by_cases c_13 : v4 ≤ 0
        · rw [if_pos c_13] at h
          refine ev_if_le (x := v4) (tgt := 26) dX12_printFour_17 (by decide) (fun _ => ?_) (fun q9 => absurd c_13 q9)
          exact ev_sub [] rfl (ev_X12_printFour_p26 hO hP h)
        · rw [if_neg c_13] at h
          refine ev_if_le (x := v4) (tgt := 26) dX12_printFour_17 (by decide) (fun q9 => absurd q9 c_13) (fun _ => ?_)
          refine ev_aload_n (j := 0) (x := (some a0)) dX12_printFour_20 rfl rfl ?_
          refine ev_iload (j := 4) (x := v4) dX12_printFour_21 rfl ?_
          obtain ⟨c_17, h⟩ := x_chk_e h
          rcases x_bind_e h with ⟨v_14, σ_15, h_16, h⟩ | ⟨E_18, σ_15, h_16, h⟩
          · have z9 := x_call (M := mX12_printFour) (M' := mX12_print) (pc := 23) (st := [.int v4, va_rf (some a0)]) (rest := []) (av := [va_rf (some a0), .int v4]) (x_linkV (M := mX12_printFour) (M' := mX12_print) (As := [.int v4]) (index := 344) (C := RX12) (T := TX12) (xE_12 c_17) rfl wd_944 wd_945 (wG_in (List.mem_append_left _ (List.mem_of_getElem? (i := 96) rfl)) rfl) xw_X12_print rfl (by decide) rfl rfl dX12_printFour_23) (ev_X12_print hO hP h_16) xw_X12_print rfl wd_198 dX12_printFour_23 (by decide) (by decide) (by simp [x_cat, x_catI, x_catJ])
            refine x_callR z9 ?_
            refine ev_at (st' := []) rfl rfl ?_
            exact ev_sub [] rfl (ev_X12_printFour_p26 hO hP h)
          · have z9 := x_call (M := mX12_printFour) (M' := mX12_print) (pc := 23) (st := [.int v4, va_rf (some a0)]) (rest := []) (av := [va_rf (some a0), .int v4]) (x_linkV (M := mX12_printFour) (M' := mX12_print) (As := [.int v4]) (index := 344) (C := RX12) (T := TX12) (xE_12 c_17) rfl wd_944 wd_945 (wG_in (List.mem_append_left _ (List.mem_of_getElem? (i := 96) rfl)) rfl) xw_X12_print rfl (by decide) rfl rfl dX12_printFour_23) (ev_X12_print hO hP h_16) xw_X12_print rfl wd_198 dX12_printFour_23 (by decide) (by decide) (by simp [x_cat, x_catI, x_catJ])
            cases h
            exact x_callX z9 (evX_out rfl)
      · have z9 := x_call (M := mX12_printFour) (M' := mX12_print) (pc := 12) (st := [.int v3, va_rf (some a0)]) (rest := []) (av := [va_rf (some a0), .int v3]) (x_linkV (M := mX12_printFour) (M' := mX12_print) (As := [.int v3]) (index := 344) (C := RX12) (T := TX12) (xE_12 c_12) rfl wd_944 wd_945 (wG_in (List.mem_append_left _ (List.mem_of_getElem? (i := 96) rfl)) rfl) xw_X12_print rfl (by decide) rfl rfl dX12_printFour_12) (ev_X12_print hO hP h_11) xw_X12_print rfl wd_198 dX12_printFour_12 (by decide) (by decide) (by simp [x_cat, x_catI, x_catJ])
        cases h
        exact x_callX z9 (evX_out rfl)
    · have z9 := x_call (M := mX12_printFour) (M' := mX12_print) (pc := 7) (st := [.int v2, va_rf (some a0)]) (rest := []) (av := [va_rf (some a0), .int v2]) (x_linkV (M := mX12_printFour) (M' := mX12_print) (As := [.int v2]) (index := 344) (C := RX12) (T := TX12) (xE_12 c_8) rfl wd_944 wd_945 (wG_in (List.mem_append_left _ (List.mem_of_getElem? (i := 96) rfl)) rfl) xw_X12_print rfl (by decide) rfl rfl dX12_printFour_7) (ev_X12_print hO hP h_7) xw_X12_print rfl wd_198 dX12_printFour_7 (by decide) (by decide) (by simp [x_cat, x_catI, x_catJ])
      cases h
      exact x_callX z9 (evX_out rfl)
  · have z9 := x_call (M := mX12_printFour) (M' := mX12_print) (pc := 2) (st := [.int v1, va_rf (some a0)]) (rest := []) (av := [va_rf (some a0), .int v1]) (x_linkV (M := mX12_printFour) (M' := mX12_print) (As := [.int v1]) (index := 344) (C := RX12) (T := TX12) (xE_12 c_4) rfl wd_944 wd_945 (wG_in (List.mem_append_left _ (List.mem_of_getElem? (i := 96) rfl)) rfl) xw_X12_print rfl (by decide) rfl rfl dX12_printFour_2) (ev_X12_print hO hP h_3) xw_X12_print rfl wd_198 dX12_printFour_2 (by decide) (by decide) (by simp [x_cat, x_catI, x_catJ])
    cases h
    exact x_callX z9 (evX_out rfl)
set_option maxHeartbeats 4000000 in
set_option maxRecDepth 100000 in
theorem ev_X12_printName_L2 {l : Launch} {G : xG} (hO : x_OK l G) {P : xP} (hP : x_PG P G) {a0 : Nat} : ∀ (n : Nat) {v1 : Int32} {v2 : Int32} {σ σ' : xS} {rr : Unit ⊕ String}, dm_X12_printName_L2 P a0 n v1 v2 σ = some (rr, σ') → Ev l G mX12_printName 2 [(0, va_rf (some a0)), (1, .int v1), (2, .int v2)] [] σ (xrV rr) σ' := by
  intro n
  induction n with
  | zero => intro v1 v2 σ σ' rr h; cases h
  | succ n ih =>
    intro v1 v2 σ σ' rr h
    rw [dm_X12_printName_L2] at h
    refine ev_iload_n (j := 2) (x := v2) dX12_printName_2 rfl rfl ?_
    refine ev_aload_n (j := 0) (x := (some a0)) dX12_printName_3 rfl rfl ?_
    refine ev_aload_n (j := 0) (x := (some a0)) dX12_printName_4 rfl rfl ?_
    obtain ⟨c_1, h⟩ := x_chk_e h
    refine ev_get (C := RX12) (T := TX12) (k := 3) inX12 (xE_12 c_1) rfl (by decide) wd_783 (Or.inl rfl) rfl dX12_printName_5 ?_
    refine ev_iload_n (j := 1) (x := v1) dX12_printName_8 rfl rfl ?_
    rcases x_bind_e h with ⟨v_2, σ_3, h_4, h⟩ | ⟨E_14, σ_3, h_4, h⟩
    · have z9 := x_call (M := mX12_printName) (M' := mX12_length) (pc := 9) (st := [.int v1, .int (σ.I 1103 a0), va_rf (some a0), .int v2]) (rest := [.int v2]) (av := [va_rf (some a0), .int (σ.I 1103 a0), .int v1]) (x_linkV (M := mX12_printName) (M' := mX12_length) (As := [.int (σ.I 1103 a0), .int v1]) (index := 154) (C := RX12) (T := TX12) (xE_12 c_1) rfl wd_666 wd_667 (wG_in (List.mem_append_left _ (List.mem_of_getElem? (i := 47) rfl)) rfl) xw_X12_length rfl (by decide) rfl rfl dX12_printName_9) (ev_X12_length hO hP h_4) xw_X12_length rfl wd_198 dX12_printName_9 (by decide) (by decide) (by simp [x_cat, x_catI, x_catJ])
      refine x_callR z9 ?_
      refine ev_at (st' := [.int v_2, .int v2]) rfl rfl ?_
      by_cases c_5 : v_2 ≤ v2
      · rw [if_pos c_5] at h
        refine ev_icmp_ge (x := v2) (y := v_2) (tgt := 42) dX12_printName_12 (by decide) (fun _ => ?_) (fun q9 => absurd c_5 q9)
        cases h
        exact ev_vret rfl dX12_printName_42
      · rw [if_neg c_5] at h
        refine ev_icmp_ge (x := v2) (y := v_2) (tgt := 42) dX12_printName_12 (by decide) (fun q9 => absurd q9 c_5) (fun _ => ?_)
        refine ev_aload_n (j := 0) (x := (some a0)) dX12_printName_15 rfl rfl ?_
        refine ev_aload_n (j := 0) (x := (some a0)) dX12_printName_16 rfl rfl ?_
        obtain ⟨c_6, h⟩ := x_chk_e h
        refine ev_get (C := RX12) (T := TX12) (k := 4) inX12 (xE_12 c_6) rfl (by decide) wd_151 (Or.inl rfl) rfl dX12_printName_17 ?_
        refine ev_sipush (v := 1000) dX12_printName_20 (by decide) ?_
        refine ev_aload_n (j := 0) (x := (some a0)) dX12_printName_23 rfl rfl ?_
        refine ev_get (C := RX12) (T := TX12) (k := 3) inX12 (xE_12 c_6) rfl (by decide) wd_783 (Or.inl rfl) rfl dX12_printName_24 ?_
        refine ev_imul (x := 1000) (y := (σ_3.I 1103 a0)) dX12_printName_27 ?_
        refine ev_iload_n (j := 1) (x := v1) dX12_printName_28 rfl rfl ?_
        refine ev_iadd (x := (1000 * (σ_3.I 1103 a0))) (y := v1) dX12_printName_29 ?_
        refine ev_iload_n (j := 2) (x := v2) dX12_printName_30 rfl rfl ?_
        refine ev_iadd (x := ((1000 * (σ_3.I 1103 a0)) + v1)) (y := v2) dX12_printName_31 ?_
        obtain ⟨a_7, ea_7, h⟩ := x_some_e h
        refine ev_at (st' := [.int (((1000 * (σ_3.I 1103 a0)) + v1) + v2), va_rf (some a_7), va_rf (some a0)]) rfl (by rw [ea_7]) ?_
        obtain ⟨c_8, h⟩ := x_chk_e h
        refine ev_iald_31 c_8.1 c_8.2 dX12_printName_32 ?_
        rcases x_bind_e h with ⟨v_9, σ_10, h_11, h⟩ | ⟨E_13, σ_10, h_11, h⟩
        · have z9 := x_call (M := mX12_printName) (M' := mX12_print) (pc := 33) (st := [.int (σ_3.AI a_7 (Int32.toNatClampNeg (((1000 * (σ_3.I 1103 a0)) + v1) + v2))), va_rf (some a0)]) (rest := []) (av := [va_rf (some a0), .int (σ_3.AI a_7 (Int32.toNatClampNeg (((1000 * (σ_3.I 1103 a0)) + v1) + v2)))]) (x_linkV (M := mX12_printName) (M' := mX12_print) (As := [.int (σ_3.AI a_7 (Int32.toNatClampNeg (((1000 * (σ_3.I 1103 a0)) + v1) + v2)))]) (index := 344) (C := RX12) (T := TX12) (xE_12 c_6) rfl wd_944 wd_945 (wG_in (List.mem_append_left _ (List.mem_of_getElem? (i := 96) rfl)) rfl) xw_X12_print rfl (by decide) rfl rfl dX12_printName_33) (ev_X12_print hO hP h_11) xw_X12_print rfl wd_198 dX12_printName_33 (by decide) (by decide) (by simp [x_cat, x_catI, x_catJ])
          refine x_callR z9 ?_
          refine ev_at (st' := []) rfl rfl ?_
          obtain ⟨v_12, ev_12, h⟩ := x_let_e h
          refine ev_iinc (j := 2) (x := v2) (v := v_12) (lv' := [(2, .int v_12), (0, va_rf (some a0)), (1, .int v1)]) dX12_printName_36 rfl (by rw [ev_12]; rfl) (by decide) rfl ?_
          refine ev_goto (tgt := 2) dX12_printName_39 (by decide) ?_
          exact ev_sub [1, 2, 0] rfl (ih h)
        · have z9 := x_call (M := mX12_printName) (M' := mX12_print) (pc := 33) (st := [.int (σ_3.AI a_7 (Int32.toNatClampNeg (((1000 * (σ_3.I 1103 a0)) + v1) + v2))), va_rf (some a0)]) (rest := []) (av := [va_rf (some a0), .int (σ_3.AI a_7 (Int32.toNatClampNeg (((1000 * (σ_3.I 1103 a0)) + v1) + v2)))]) (x_linkV (M := mX12_printName) (M' := mX12_print) (As := [.int (σ_3.AI a_7 (Int32.toNatClampNeg (((1000 * (σ_3.I 1103 a0)) + v1) + v2)))]) (index := 344) (C := RX12) (T := TX12) (xE_12 c_6) rfl wd_944 wd_945 (wG_in (List.mem_append_left _ (List.mem_of_getElem? (i := 96) rfl)) rfl) xw_X12_print rfl (by decide) rfl rfl dX12_printName_33) (ev_X12_print hO hP h_11) xw_X12_print rfl wd_198 dX12_printName_33 (by decide) (by decide) (by simp [x_cat, x_catI, x_catJ])
          cases h
          exact x_callX z9 (evX_out rfl)
    · have z9 := x_call (M := mX12_printName) (M' := mX12_length) (pc := 9) (st := [.int v1, .int (σ.I 1103 a0), va_rf (some a0), .int v2]) (rest := [.int v2]) (av := [va_rf (some a0), .int (σ.I 1103 a0), .int v1]) (x_linkV (M := mX12_printName) (M' := mX12_length) (As := [.int (σ.I 1103 a0), .int v1]) (index := 154) (C := RX12) (T := TX12) (xE_12 c_1) rfl wd_666 wd_667 (wG_in (List.mem_append_left _ (List.mem_of_getElem? (i := 47) rfl)) rfl) xw_X12_length rfl (by decide) rfl rfl dX12_printName_9) (ev_X12_length hO hP h_4) xw_X12_length rfl wd_198 dX12_printName_9 (by decide) (by decide) (by simp [x_cat, x_catI, x_catJ])
      cases h
      exact x_callX z9 (evX_out rfl)
set_option maxHeartbeats 4000000 in
set_option maxRecDepth 100000 in
theorem ev_X12_printName {l : Launch} {G : xG} (hO : x_OK l G) {P : xP} (hP : x_PG P G) {a0 : Nat} {v1 : Int32} {σ σ' : xS} {rr : Unit ⊕ String} (h : dm_X12_printName P a0 v1 σ = some (rr, σ')) : EvM l G mX12_printName [va_rf (some a0), .int v1] σ (xrV rr) σ' := by
  unfold dm_X12_printName at h
  refine evM_of hO (by decide +kernel) (x_lenI (by simp [x_cat, x_catI, x_catJ, mX12_printName, xM.maxL])) ?_
  refine Eq.mp (congrArg (fun z => Ev l G mX12_printName 0 z [] σ (xrV rr) σ') (show [(0, va_rf (some a0)), (1, .int v1)] = lv_args 0 [va_rf (some a0), .int v1] by simp [lv_args, x_cat, x_catI, x_catJ])) ?_
  refine ev_iconst (v := 0) dX12_printName_0 (by decide) ?_
  refine ev_istore_n (i := 2) (lv' := [(2, .int 0), (0, va_rf (some a0)), (1, .int v1)]) dX12_printName_1 rfl (by decide) rfl ?_
  exact ev_sub [1, 2, 0] rfl (ev_X12_printName_L2 hO hP P.N h)
set_option maxHeartbeats 4000000 in
set_option maxRecDepth 100000 in
theorem ev_X12_printEnd {l : Launch} {G : xG} (hO : x_OK l G) {P : xP} (hP : x_PG P G) {a0 : Nat} {σ σ' : xS} {rr : Unit ⊕ String} (h : dm_X12_printEnd P a0 σ = some (rr, σ')) : EvM l G mX12_printEnd [va_rf (some a0)] σ (xrV rr) σ' := by
  unfold dm_X12_printEnd at h
  refine evM_of hO (by decide +kernel) (x_lenI (by simp [x_cat, x_catI, x_catJ, mX12_printEnd, xM.maxL])) ?_
  refine Eq.mp (congrArg (fun z => Ev l G mX12_printEnd 0 z [] σ (xrV rr) σ') (show [(0, va_rf (some a0))] = lv_args 0 [va_rf (some a0)] by simp [lv_args, x_cat, x_catI, x_catJ])) ?_
  refine ev_aload_n (j := 0) (x := (some a0)) dX12_printEnd_0 rfl rfl ?_
  refine ev_bipush (v := 59) dX12_printEnd_1 (by decide) ?_
  obtain ⟨c_4, h⟩ := x_chk_e h
  rcases x_bind_e h with ⟨v_1, σ_2, h_3, h⟩ | ⟨E_10, σ_2, h_3, h⟩
  · have z9 := x_call (M := mX12_printEnd) (M' := mX12_print) (pc := 3) (st := [.int 59, va_rf (some a0)]) (rest := []) (av := [va_rf (some a0), .int 59]) (x_linkV (M := mX12_printEnd) (M' := mX12_print) (As := [.int 59]) (index := 344) (C := RX12) (T := TX12) (xE_12 c_4) rfl wd_944 wd_945 (wG_in (List.mem_append_left _ (List.mem_of_getElem? (i := 96) rfl)) rfl) xw_X12_print rfl (by decide) rfl rfl dX12_printEnd_3) (ev_X12_print hO hP h_3) xw_X12_print rfl wd_198 dX12_printEnd_3 (by decide) (by decide) (by simp [x_cat, x_catI, x_catJ])
    refine x_callR z9 ?_
    refine ev_at (st' := []) rfl rfl ?_
    refine ev_aload_n (j := 0) (x := (some a0)) dX12_printEnd_6 rfl rfl ?_
    refine ev_bipush (v := 10) dX12_printEnd_7 (by decide) ?_
    obtain ⟨c_8, h⟩ := x_chk_e h
    rcases x_bind_e h with ⟨v_5, σ_6, h_7, h⟩ | ⟨E_9, σ_6, h_7, h⟩
    · have z9 := x_call (M := mX12_printEnd) (M' := mX12_print) (pc := 9) (st := [.int 10, va_rf (some a0)]) (rest := []) (av := [va_rf (some a0), .int 10]) (x_linkV (M := mX12_printEnd) (M' := mX12_print) (As := [.int 10]) (index := 344) (C := RX12) (T := TX12) (xE_12 c_8) rfl wd_944 wd_945 (wG_in (List.mem_append_left _ (List.mem_of_getElem? (i := 96) rfl)) rfl) xw_X12_print rfl (by decide) rfl rfl dX12_printEnd_9) (ev_X12_print hO hP h_7) xw_X12_print rfl wd_198 dX12_printEnd_9 (by decide) (by decide) (by simp [x_cat, x_catI, x_catJ])
      refine x_callR z9 ?_
      refine ev_at (st' := []) rfl rfl ?_
      cases h
      exact ev_vret rfl dX12_printEnd_12
    · have z9 := x_call (M := mX12_printEnd) (M' := mX12_print) (pc := 9) (st := [.int 10, va_rf (some a0)]) (rest := []) (av := [va_rf (some a0), .int 10]) (x_linkV (M := mX12_printEnd) (M' := mX12_print) (As := [.int 10]) (index := 344) (C := RX12) (T := TX12) (xE_12 c_8) rfl wd_944 wd_945 (wG_in (List.mem_append_left _ (List.mem_of_getElem? (i := 96) rfl)) rfl) xw_X12_print rfl (by decide) rfl rfl dX12_printEnd_9) (ev_X12_print hO hP h_7) xw_X12_print rfl wd_198 dX12_printEnd_9 (by decide) (by decide) (by simp [x_cat, x_catI, x_catJ])
      cases h
      exact x_callX z9 (evX_out rfl)
  · have z9 := x_call (M := mX12_printEnd) (M' := mX12_print) (pc := 3) (st := [.int 59, va_rf (some a0)]) (rest := []) (av := [va_rf (some a0), .int 59]) (x_linkV (M := mX12_printEnd) (M' := mX12_print) (As := [.int 59]) (index := 344) (C := RX12) (T := TX12) (xE_12 c_4) rfl wd_944 wd_945 (wG_in (List.mem_append_left _ (List.mem_of_getElem? (i := 96) rfl)) rfl) xw_X12_print rfl (by decide) rfl rfl dX12_printEnd_3) (ev_X12_print hO hP h_3) xw_X12_print rfl wd_198 dX12_printEnd_3 (by decide) (by decide) (by simp [x_cat, x_catI, x_catJ])
    cases h
    exact x_callX z9 (evX_out rfl)
set_option maxHeartbeats 4000000 in
set_option maxRecDepth 100000 in
theorem ev_X12_printNumber_p17 {l : Launch} {G : xG} (hO : x_OK l G) {P : xP} (hP : x_PG P G) {a0 : Nat} {v1 : Int32} {σ σ' : xS} {rr : Unit ⊕ String} (h : dm_X12_printNumber_p17 P a0 v1 σ = some (rr, σ')) : Ev l G mX12_printNumber 17 [(0, va_rf (some a0)), (1, .int v1)] [] σ (xrV rr) σ' := by
  unfold dm_X12_printNumber_p17 at h
  refine ev_aload_n (j := 0) (x := (some a0)) dX12_printNumber_17 rfl rfl ?_
  refine ev_bipush (v := 48) dX12_printNumber_18 (by decide) ?_
  refine ev_iload_n (j := 1) (x := v1) dX12_printNumber_20 rfl rfl ?_
  refine ev_bipush (v := 10) dX12_printNumber_21 (by decide) ?_
  obtain ⟨c_1, h⟩ := x_chk_e h
  refine ev_irem (x := v1) (y := 10) dX12_printNumber_23 c_1 ?_
  refine ev_iadd (x := 48) (y := (v1 - v1 / 10 * 10)) dX12_printNumber_24 ?_
  obtain ⟨c_5, h⟩ := x_chk_e h
  rcases x_bind_e h with ⟨v_2, σ_3, h_4, h⟩ | ⟨E_6, σ_3, h_4, h⟩
  · have z9 := x_call (M := mX12_printNumber) (M' := mX12_print) (pc := 25) (st := [.int (48 + (v1 - v1 / 10 * 10)), va_rf (some a0)]) (rest := []) (av := [va_rf (some a0), .int (48 + (v1 - v1 / 10 * 10))]) (x_linkV (M := mX12_printNumber) (M' := mX12_print) (As := [.int (48 + (v1 - v1 / 10 * 10))]) (index := 344) (C := RX12) (T := TX12) (xE_12 c_5) rfl wd_944 wd_945 (wG_in (List.mem_append_left _ (List.mem_of_getElem? (i := 96) rfl)) rfl) xw_X12_print rfl (by decide) rfl rfl dX12_printNumber_25) (ev_X12_print hO hP h_4) xw_X12_print rfl wd_198 dX12_printNumber_25 (by decide) (by decide) (by simp [x_cat, x_catI, x_catJ])
    refine x_callR z9 ?_
    refine ev_at (st' := []) rfl rfl ?_
    cases h
    exact ev_vret rfl dX12_printNumber_28
  · have z9 := x_call (M := mX12_printNumber) (M' := mX12_print) (pc := 25) (st := [.int (48 + (v1 - v1 / 10 * 10)), va_rf (some a0)]) (rest := []) (av := [va_rf (some a0), .int (48 + (v1 - v1 / 10 * 10))]) (x_linkV (M := mX12_printNumber) (M' := mX12_print) (As := [.int (48 + (v1 - v1 / 10 * 10))]) (index := 344) (C := RX12) (T := TX12) (xE_12 c_5) rfl wd_944 wd_945 (wG_in (List.mem_append_left _ (List.mem_of_getElem? (i := 96) rfl)) rfl) xw_X12_print rfl (by decide) rfl rfl dX12_printNumber_25) (ev_X12_print hO hP h_4) xw_X12_print rfl wd_198 dX12_printNumber_25 (by decide) (by decide) (by simp [x_cat, x_catI, x_catJ])
    cases h
    exact x_callX z9 (evX_out rfl)
set_option maxHeartbeats 4000000 in
set_option maxRecDepth 100000 in
theorem ev_X12_printNumber {l : Launch} {G : xG} (hO : x_OK l G) {P : xP} (hP : x_PG P G) {a0 : Nat} {v1 : Int32} {σ σ' : xS} {rr : Unit ⊕ String} (h : dm_X12_printNumber P a0 v1 σ = some (rr, σ')) : EvM l G mX12_printNumber [va_rf (some a0), .int v1] σ (xrV rr) σ' := by
  unfold dm_X12_printNumber at h
  refine evM_of hO (by decide +kernel) (x_lenI (by simp [x_cat, x_catI, x_catJ, mX12_printNumber, xM.maxL])) ?_
  refine Eq.mp (congrArg (fun z => Ev l G mX12_printNumber 0 z [] σ (xrV rr) σ') (show [(0, va_rf (some a0)), (1, .int v1)] = lv_args 0 [va_rf (some a0), .int v1] by simp [lv_args, x_cat, x_catI, x_catJ])) ?_
  refine ev_iload_n (j := 1) (x := v1) dX12_printNumber_0 rfl rfl ?_
  refine ev_bipush (v := 9) dX12_printNumber_1 (by decide) ?_
  by_cases c_1 : v1 ≤ 9
  · rw [if_pos c_1] at h
    refine ev_icmp_le (x := v1) (y := 9) (tgt := 17) dX12_printNumber_3 (by decide) (fun _ => ?_) (fun q9 => absurd c_1 q9)
    exact ev_sub [0, 1] rfl (ev_X12_printNumber_p17 hO hP h)
  · rw [if_neg c_1] at h
    refine ev_icmp_le (x := v1) (y := 9) (tgt := 17) dX12_printNumber_3 (by decide) (fun q9 => absurd q9 c_1) (fun _ => ?_)
    refine ev_aload_n (j := 0) (x := (some a0)) dX12_printNumber_6 rfl rfl ?_
    refine ev_bipush (v := 48) dX12_printNumber_7 (by decide) ?_
    refine ev_iload_n (j := 1) (x := v1) dX12_printNumber_9 rfl rfl ?_
    refine ev_bipush (v := 10) dX12_printNumber_10 (by decide) ?_
    obtain ⟨c_2, h⟩ := x_chk_e h
    refine ev_idiv (x := v1) (y := 10) dX12_printNumber_12 c_2 ?_
    refine ev_iadd (x := 48) (y := (v1 / 10)) dX12_printNumber_13 ?_
    obtain ⟨c_6, h⟩ := x_chk_e h
    rcases x_bind_e h with ⟨v_3, σ_4, h_5, h⟩ | ⟨E_7, σ_4, h_5, h⟩
    · have z9 := x_call (M := mX12_printNumber) (M' := mX12_print) (pc := 14) (st := [.int (48 + (v1 / 10)), va_rf (some a0)]) (rest := []) (av := [va_rf (some a0), .int (48 + (v1 / 10))]) (x_linkV (M := mX12_printNumber) (M' := mX12_print) (As := [.int (48 + (v1 / 10))]) (index := 344) (C := RX12) (T := TX12) (xE_12 c_6) rfl wd_944 wd_945 (wG_in (List.mem_append_left _ (List.mem_of_getElem? (i := 96) rfl)) rfl) xw_X12_print rfl (by decide) rfl rfl dX12_printNumber_14) (ev_X12_print hO hP h_5) xw_X12_print rfl wd_198 dX12_printNumber_14 (by decide) (by decide) (by simp [x_cat, x_catI, x_catJ])
      refine x_callR z9 ?_
      refine ev_at (st' := []) rfl rfl ?_
      exact ev_sub [0, 1] rfl (ev_X12_printNumber_p17 hO hP h)
    · have z9 := x_call (M := mX12_printNumber) (M' := mX12_print) (pc := 14) (st := [.int (48 + (v1 / 10)), va_rf (some a0)]) (rest := []) (av := [va_rf (some a0), .int (48 + (v1 / 10))]) (x_linkV (M := mX12_printNumber) (M' := mX12_print) (As := [.int (48 + (v1 / 10))]) (index := 344) (C := RX12) (T := TX12) (xE_12 c_6) rfl wd_944 wd_945 (wG_in (List.mem_append_left _ (List.mem_of_getElem? (i := 96) rfl)) rfl) xw_X12_print rfl (by decide) rfl rfl dX12_printNumber_14) (ev_X12_print hO hP h_5) xw_X12_print rfl wd_198 dX12_printNumber_14 (by decide) (by decide) (by simp [x_cat, x_catI, x_catJ])
      cases h
      exact x_callX z9 (evX_out rfl)
set_option maxHeartbeats 4000000 in
set_option maxRecDepth 100000 in
theorem ev_X12_printRef_p24 {l : Launch} {G : xG} (hO : x_OK l G) {P : xP} (hP : x_PG P G) {a0 : Nat} {v2 : Int32} {σ σ' : xS} {rr : Unit ⊕ String} (h : dm_X12_printRef_p24 P a0 v2 σ = some (rr, σ')) : Ev l G mX12_printRef 24 [(0, va_rf (some a0)), (2, .int v2)] [] σ (xrV rr) σ' := by
  unfold dm_X12_printRef_p24 at h
  refine ev_aload_n (j := 0) (x := (some a0)) dX12_printRef_24 rfl rfl ?_
  refine ev_bipush (v := 39) dX12_printRef_25 (by decide) ?_
  obtain ⟨c_4, h⟩ := x_chk_e h
  rcases x_bind_e h with ⟨v_1, σ_2, h_3, h⟩ | ⟨E_12, σ_2, h_3, h⟩
  · have z9 := x_call (M := mX12_printRef) (M' := mX12_print) (pc := 27) (st := [.int 39, va_rf (some a0)]) (rest := []) (av := [va_rf (some a0), .int 39]) (x_linkV (M := mX12_printRef) (M' := mX12_print) (As := [.int 39]) (index := 344) (C := RX12) (T := TX12) (xE_12 c_4) rfl wd_944 wd_945 (wG_in (List.mem_append_left _ (List.mem_of_getElem? (i := 96) rfl)) rfl) xw_X12_print rfl (by decide) rfl rfl dX12_printRef_27) (ev_X12_print hO hP h_3) xw_X12_print rfl wd_198 dX12_printRef_27 (by decide) (by decide) (by simp [x_cat, x_catI, x_catJ])
    refine x_callR z9 ?_
    refine ev_at (st' := []) rfl rfl ?_
    refine ev_aload_n (j := 0) (x := (some a0)) dX12_printRef_30 rfl rfl ?_
    refine ev_aload_n (j := 0) (x := (some a0)) dX12_printRef_31 rfl rfl ?_
    obtain ⟨c_5, h⟩ := x_chk_e h
    refine ev_get (C := RX12) (T := TX12) (k := 19) inX12 (xE_12 c_5) rfl (by decide) wd_167 (Or.inl rfl) rfl dX12_printRef_32 ?_
    refine ev_iload_n (j := 1) (x := v2) dX12_printRef_35 rfl rfl ?_
    obtain ⟨a_6, ea_6, h⟩ := x_some_e h
    refine ev_at (st' := [.int v2, va_rf (some a_6), va_rf (some a0)]) rfl (by rw [ea_6]) ?_
    obtain ⟨c_7, h⟩ := x_chk_e h
    refine ev_iald_31 c_7.1 c_7.2 dX12_printRef_36 ?_
    rcases x_bind_e h with ⟨v_8, σ_9, h_10, h⟩ | ⟨E_11, σ_9, h_10, h⟩
    · have z9 := x_call (M := mX12_printRef) (M' := mX12_printName) (pc := 37) (st := [.int (σ_2.AI a_6 (Int32.toNatClampNeg v2)), va_rf (some a0)]) (rest := []) (av := [va_rf (some a0), .int (σ_2.AI a_6 (Int32.toNatClampNeg v2))]) (x_linkV (M := mX12_printRef) (M' := mX12_printName) (As := [.int (σ_2.AI a_6 (Int32.toNatClampNeg v2))]) (index := 350) (C := RX12) (T := TX12) (xE_12 c_5) rfl wd_947 wd_948 (wG_in (List.mem_append_left _ (List.mem_of_getElem? (i := 97) rfl)) rfl) xw_X12_printName rfl (by decide) rfl rfl dX12_printRef_37) (ev_X12_printName hO hP h_10) xw_X12_printName rfl wd_198 dX12_printRef_37 (by decide) (by decide) (by simp [x_cat, x_catI, x_catJ])
      refine x_callR z9 ?_
      refine ev_at (st' := []) rfl rfl ?_
      cases h
      exact ev_vret rfl dX12_printRef_40
    · have z9 := x_call (M := mX12_printRef) (M' := mX12_printName) (pc := 37) (st := [.int (σ_2.AI a_6 (Int32.toNatClampNeg v2)), va_rf (some a0)]) (rest := []) (av := [va_rf (some a0), .int (σ_2.AI a_6 (Int32.toNatClampNeg v2))]) (x_linkV (M := mX12_printRef) (M' := mX12_printName) (As := [.int (σ_2.AI a_6 (Int32.toNatClampNeg v2))]) (index := 350) (C := RX12) (T := TX12) (xE_12 c_5) rfl wd_947 wd_948 (wG_in (List.mem_append_left _ (List.mem_of_getElem? (i := 97) rfl)) rfl) xw_X12_printName rfl (by decide) rfl rfl dX12_printRef_37) (ev_X12_printName hO hP h_10) xw_X12_printName rfl wd_198 dX12_printRef_37 (by decide) (by decide) (by simp [x_cat, x_catI, x_catJ])
      cases h
      exact x_callX z9 (evX_out rfl)
  · have z9 := x_call (M := mX12_printRef) (M' := mX12_print) (pc := 27) (st := [.int 39, va_rf (some a0)]) (rest := []) (av := [va_rf (some a0), .int 39]) (x_linkV (M := mX12_printRef) (M' := mX12_print) (As := [.int 39]) (index := 344) (C := RX12) (T := TX12) (xE_12 c_4) rfl wd_944 wd_945 (wG_in (List.mem_append_left _ (List.mem_of_getElem? (i := 96) rfl)) rfl) xw_X12_print rfl (by decide) rfl rfl dX12_printRef_27) (ev_X12_print hO hP h_3) xw_X12_print rfl wd_198 dX12_printRef_27 (by decide) (by decide) (by simp [x_cat, x_catI, x_catJ])
    cases h
    exact x_callX z9 (evX_out rfl)
set_option maxHeartbeats 4000000 in
set_option maxRecDepth 100000 in
theorem ev_X12_printRef_p141 {l : Launch} {G : xG} (hO : x_OK l G) {P : xP} (hP : x_PG P G) {a0 : Nat} {σ σ' : xS} {rr : Unit ⊕ String} (h : dm_X12_printRef_p141 P a0 σ = some (rr, σ')) : Ev l G mX12_printRef 141 [] [] σ (xrV rr) σ' := by
  unfold dm_X12_printRef_p141 at h
  cases h
  exact ev_vret rfl dX12_printRef_141
set_option maxHeartbeats 4000000 in
set_option maxRecDepth 100000 in
theorem ev_X12_printRef_p131 {l : Launch} {G : xG} (hO : x_OK l G) {P : xP} (hP : x_PG P G) {a0 : Nat} {v3 : Int32} {σ σ' : xS} {rr : Unit ⊕ String} (h : dm_X12_printRef_p131 P a0 v3 σ = some (rr, σ')) : Ev l G mX12_printRef 131 [(0, va_rf (some a0)), (3, .int v3)] [] σ (xrV rr) σ' := by
  unfold dm_X12_printRef_p131 at h
  refine ev_iload_n (j := 1) (x := v3) dX12_printRef_131 rfl rfl ?_
  by_cases c_1 : v3 = 0
  · rw [if_pos c_1] at h
    refine ev_if_eq (x := v3) (tgt := 141) dX12_printRef_132 (by decide) (fun _ => ?_) (fun q9 => absurd c_1 q9)
    exact ev_sub [] rfl (ev_X12_printRef_p141 hO hP h)
  · rw [if_neg c_1] at h
    refine ev_if_eq (x := v3) (tgt := 141) dX12_printRef_132 (by decide) (fun q9 => absurd q9 c_1) (fun _ => ?_)
    refine ev_aload_n (j := 0) (x := (some a0)) dX12_printRef_135 rfl rfl ?_
    refine ev_bipush (v := 93) dX12_printRef_136 (by decide) ?_
    obtain ⟨c_5, h⟩ := x_chk_e h
    rcases x_bind_e h with ⟨v_2, σ_3, h_4, h⟩ | ⟨E_6, σ_3, h_4, h⟩
    · have z9 := x_call (M := mX12_printRef) (M' := mX12_print) (pc := 138) (st := [.int 93, va_rf (some a0)]) (rest := []) (av := [va_rf (some a0), .int 93]) (x_linkV (M := mX12_printRef) (M' := mX12_print) (As := [.int 93]) (index := 344) (C := RX12) (T := TX12) (xE_12 c_5) rfl wd_944 wd_945 (wG_in (List.mem_append_left _ (List.mem_of_getElem? (i := 96) rfl)) rfl) xw_X12_print rfl (by decide) rfl rfl dX12_printRef_138) (ev_X12_print hO hP h_4) xw_X12_print rfl wd_198 dX12_printRef_138 (by decide) (by decide) (by simp [x_cat, x_catI, x_catJ])
      refine x_callR z9 ?_
      refine ev_at (st' := []) rfl rfl ?_
      exact ev_sub [] rfl (ev_X12_printRef_p141 hO hP h)
    · have z9 := x_call (M := mX12_printRef) (M' := mX12_print) (pc := 138) (st := [.int 93, va_rf (some a0)]) (rest := []) (av := [va_rf (some a0), .int 93]) (x_linkV (M := mX12_printRef) (M' := mX12_print) (As := [.int 93]) (index := 344) (C := RX12) (T := TX12) (xE_12 c_5) rfl wd_944 wd_945 (wG_in (List.mem_append_left _ (List.mem_of_getElem? (i := 96) rfl)) rfl) xw_X12_print rfl (by decide) rfl rfl dX12_printRef_138) (ev_X12_print hO hP h_4) xw_X12_print rfl wd_198 dX12_printRef_138 (by decide) (by decide) (by simp [x_cat, x_catI, x_catJ])
      cases h
      exact x_callX z9 (evX_out rfl)
set_option maxHeartbeats 4000000 in
set_option maxRecDepth 100000 in
theorem ev_X12_printRef_p118 {l : Launch} {G : xG} (hO : x_OK l G) {P : xP} (hP : x_PG P G) {a0 : Nat} {v2 : Int32} {v3 : Int32} {s0 : Option Nat} {s1 : Int32} {σ σ' : xS} {rr : Unit ⊕ String} (h : dm_X12_printRef_p118 P a0 v2 v3 s0 s1 σ = some (rr, σ')) : Ev l G mX12_printRef 118 [(0, va_rf (some a0)), (2, .int v2), (3, .int v3)] [.int s1, va_rf s0] σ (xrV rr) σ' := by
  unfold dm_X12_printRef_p118 at h
  obtain ⟨a_1, ea_1, h⟩ := x_some_e h
  refine ev_at (st' := [.int s1, va_rf (some a_1)]) rfl (by rw [ea_1]) ?_
  obtain ⟨c_5, h⟩ := x_chk_e h
  rcases x_bind_e h with ⟨v_2, σ_3, h_4, h⟩ | ⟨E_13, σ_3, h_4, h⟩
  · have z9 := x_call (M := mX12_printRef) (M' := mX12_print) (pc := 118) (st := [.int s1, va_rf (some a_1)]) (rest := []) (av := [va_rf (some a_1), .int s1]) (x_linkV (M := mX12_printRef) (M' := mX12_print) (As := [.int s1]) (index := 344) (C := RX12) (T := TX12) (xE_12 c_5) rfl wd_944 wd_945 (wG_in (List.mem_append_left _ (List.mem_of_getElem? (i := 96) rfl)) rfl) xw_X12_print rfl (by decide) rfl rfl dX12_printRef_118) (ev_X12_print hO hP h_4) xw_X12_print rfl wd_198 dX12_printRef_118 (by decide) (by decide) (by simp [x_cat, x_catI, x_catJ])
    refine x_callR z9 ?_
    refine ev_at (st' := []) rfl rfl ?_
    refine ev_aload_n (j := 0) (x := (some a0)) dX12_printRef_121 rfl rfl ?_
    refine ev_aload_n (j := 0) (x := (some a0)) dX12_printRef_122 rfl rfl ?_
    obtain ⟨c_6, h⟩ := x_chk_e h
    refine ev_get (C := RX12) (T := TX12) (k := 20) inX12 (xE_12 c_6) rfl (by decide) wd_168 (Or.inl rfl) rfl dX12_printRef_123 ?_
    refine ev_iload_n (j := 1) (x := v2) dX12_printRef_126 rfl rfl ?_
    obtain ⟨a_7, ea_7, h⟩ := x_some_e h
    refine ev_at (st' := [.int v2, va_rf (some a_7), va_rf (some a0)]) rfl (by rw [ea_7]) ?_
    obtain ⟨c_8, h⟩ := x_chk_e h
    refine ev_iald_31 c_8.1 c_8.2 dX12_printRef_127 ?_
    rcases x_bind_e h with ⟨v_9, σ_10, h_11, h⟩ | ⟨E_12, σ_10, h_11, h⟩
    · have z9 := x_call (M := mX12_printRef) (M' := mX12_printNumber) (pc := 128) (st := [.int (σ_3.AI a_7 (Int32.toNatClampNeg v2)), va_rf (some a0)]) (rest := []) (av := [va_rf (some a0), .int (σ_3.AI a_7 (Int32.toNatClampNeg v2))]) (x_linkV (M := mX12_printRef) (M' := mX12_printNumber) (As := [.int (σ_3.AI a_7 (Int32.toNatClampNeg v2))]) (index := 347) (C := RX12) (T := TX12) (xE_12 c_6) rfl wd_950 wd_951 (wG_in (List.mem_append_left _ (List.mem_of_getElem? (i := 99) rfl)) rfl) xw_X12_printNumber rfl (by decide) rfl rfl dX12_printRef_128) (ev_X12_printNumber hO hP h_11) xw_X12_printNumber rfl wd_198 dX12_printRef_128 (by decide) (by decide) (by simp [x_cat, x_catI, x_catJ])
      refine x_callR z9 ?_
      refine ev_at (st' := []) rfl rfl ?_
      exact ev_sub [0, 2] rfl (ev_X12_printRef_p131 hO hP h)
    · have z9 := x_call (M := mX12_printRef) (M' := mX12_printNumber) (pc := 128) (st := [.int (σ_3.AI a_7 (Int32.toNatClampNeg v2)), va_rf (some a0)]) (rest := []) (av := [va_rf (some a0), .int (σ_3.AI a_7 (Int32.toNatClampNeg v2))]) (x_linkV (M := mX12_printRef) (M' := mX12_printNumber) (As := [.int (σ_3.AI a_7 (Int32.toNatClampNeg v2))]) (index := 347) (C := RX12) (T := TX12) (xE_12 c_6) rfl wd_950 wd_951 (wG_in (List.mem_append_left _ (List.mem_of_getElem? (i := 99) rfl)) rfl) xw_X12_printNumber rfl (by decide) rfl rfl dX12_printRef_128) (ev_X12_printNumber hO hP h_11) xw_X12_printNumber rfl wd_198 dX12_printRef_128 (by decide) (by decide) (by simp [x_cat, x_catI, x_catJ])
      cases h
      exact x_callX z9 (evX_out rfl)
  · have z9 := x_call (M := mX12_printRef) (M' := mX12_print) (pc := 118) (st := [.int s1, va_rf (some a_1)]) (rest := []) (av := [va_rf (some a_1), .int s1]) (x_linkV (M := mX12_printRef) (M' := mX12_print) (As := [.int s1]) (index := 344) (C := RX12) (T := TX12) (xE_12 c_5) rfl wd_944 wd_945 (wG_in (List.mem_append_left _ (List.mem_of_getElem? (i := 96) rfl)) rfl) xw_X12_print rfl (by decide) rfl rfl dX12_printRef_118) (ev_X12_print hO hP h_4) xw_X12_print rfl wd_198 dX12_printRef_118 (by decide) (by decide) (by simp [x_cat, x_catI, x_catJ])
    cases h
    exact x_callX z9 (evX_out rfl)
set_option maxHeartbeats 4000000 in
set_option maxRecDepth 100000 in
theorem ev_X12_printRef_p83 {l : Launch} {G : xG} (hO : x_OK l G) {P : xP} (hP : x_PG P G) {a0 : Nat} {v2 : Int32} {v3 : Int32} {s0 : Option Nat} {s1 : Int32} {σ σ' : xS} {rr : Unit ⊕ String} (h : dm_X12_printRef_p83 P a0 v2 v3 s0 s1 σ = some (rr, σ')) : Ev l G mX12_printRef 83 [(0, va_rf (some a0)), (2, .int v2), (3, .int v3)] [.int s1, va_rf s0] σ (xrV rr) σ' := by
  unfold dm_X12_printRef_p83 at h
  obtain ⟨a_1, ea_1, h⟩ := x_some_e h
  refine ev_at (st' := [.int s1, va_rf (some a_1)]) rfl (by rw [ea_1]) ?_
  obtain ⟨c_5, h⟩ := x_chk_e h
  rcases x_bind_e h with ⟨v_2, σ_3, h_4, h⟩ | ⟨E_18, σ_3, h_4, h⟩
  · have z9 := x_call (M := mX12_printRef) (M' := mX12_print) (pc := 83) (st := [.int s1, va_rf (some a_1)]) (rest := []) (av := [va_rf (some a_1), .int s1]) (x_linkV (M := mX12_printRef) (M' := mX12_print) (As := [.int s1]) (index := 344) (C := RX12) (T := TX12) (xE_12 c_5) rfl wd_944 wd_945 (wG_in (List.mem_append_left _ (List.mem_of_getElem? (i := 96) rfl)) rfl) xw_X12_print rfl (by decide) rfl rfl dX12_printRef_83) (ev_X12_print hO hP h_4) xw_X12_print rfl wd_198 dX12_printRef_83 (by decide) (by decide) (by simp [x_cat, x_catI, x_catJ])
    refine x_callR z9 ?_
    refine ev_at (st' := []) rfl rfl ?_
    refine ev_aload_n (j := 0) (x := (some a0)) dX12_printRef_86 rfl rfl ?_
    refine ev_aload_n (j := 0) (x := (some a0)) dX12_printRef_87 rfl rfl ?_
    obtain ⟨c_6, h⟩ := x_chk_e h
    refine ev_get (C := RX12) (T := TX12) (k := 19) inX12 (xE_12 c_6) rfl (by decide) wd_167 (Or.inl rfl) rfl dX12_printRef_88 ?_
    refine ev_iload_n (j := 1) (x := v2) dX12_printRef_91 rfl rfl ?_
    obtain ⟨a_7, ea_7, h⟩ := x_some_e h
    refine ev_at (st' := [.int v2, va_rf (some a_7), va_rf (some a0)]) rfl (by rw [ea_7]) ?_
    obtain ⟨c_8, h⟩ := x_chk_e h
    refine ev_iald_31 c_8.1 c_8.2 dX12_printRef_92 ?_
    rcases x_bind_e h with ⟨v_9, σ_10, h_11, h⟩ | ⟨E_17, σ_10, h_11, h⟩
    · have z9 := x_call (M := mX12_printRef) (M' := mX12_printNumber) (pc := 93) (st := [.int (σ_3.AI a_7 (Int32.toNatClampNeg v2)), va_rf (some a0)]) (rest := []) (av := [va_rf (some a0), .int (σ_3.AI a_7 (Int32.toNatClampNeg v2))]) (x_linkV (M := mX12_printRef) (M' := mX12_printNumber) (As := [.int (σ_3.AI a_7 (Int32.toNatClampNeg v2))]) (index := 347) (C := RX12) (T := TX12) (xE_12 c_6) rfl wd_950 wd_951 (wG_in (List.mem_append_left _ (List.mem_of_getElem? (i := 99) rfl)) rfl) xw_X12_printNumber rfl (by decide) rfl rfl dX12_printRef_93) (ev_X12_printNumber hO hP h_11) xw_X12_printNumber rfl wd_198 dX12_printRef_93 (by decide) (by decide) (by simp [x_cat, x_catI, x_catJ])
      refine x_callR z9 ?_
      refine ev_at (st' := []) rfl rfl ?_
      refine ev_aload_n (j := 0) (x := (some a0)) dX12_printRef_96 rfl rfl ?_
      obtain ⟨c_12, h⟩ := x_chk_e h
      refine ev_get (C := RX12) (T := TX12) (k := 17) inX12 (xE_12 c_12) rfl (by decide) wd_165 (Or.inl rfl) rfl dX12_printRef_97 ?_
      refine ev_iload_n (j := 1) (x := v2) dX12_printRef_100 rfl rfl ?_
      obtain ⟨a_13, ea_13, h⟩ := x_some_e h
      refine ev_at (st' := [.int v2, va_rf (some a_13)]) rfl (by rw [ea_13]) ?_
      obtain ⟨c_14, h⟩ := x_chk_e h
      refine ev_iald_31 c_14.1 c_14.2 dX12_printRef_101 ?_
      refine ev_iconst (v := 2) dX12_printRef_102 (by decide) ?_
      by_cases c_15 : (σ_10.AI a_13 (Int32.toNatClampNeg v2)) = 2
      · rw [if_pos c_15] at h
        refine ev_icmp_ne (x := (σ_10.AI a_13 (Int32.toNatClampNeg v2))) (y := 2) (tgt := 131) dX12_printRef_103 (by decide) (fun q9 => absurd c_15 q9) (fun _ => ?_)
        refine ev_aload_n (j := 0) (x := (some a0)) dX12_printRef_106 rfl rfl ?_
        refine ev_iload_n (j := 2) (x := v3) dX12_printRef_107 rfl rfl ?_
        by_cases c_16 : v3 = 0
        · rw [if_pos c_16] at h
          refine ev_if_eq (x := v3) (tgt := 116) dX12_printRef_108 (by decide) (fun _ => ?_) (fun q9 => absurd c_16 q9)
          refine ev_bipush (v := 46) dX12_printRef_116 (by decide) ?_
          exact ev_sub [0, 1, 2] rfl (ev_X12_printRef_p118 hO hP h)
        · rw [if_neg c_16] at h
          refine ev_if_eq (x := v3) (tgt := 116) dX12_printRef_108 (by decide) (fun q9 => absurd q9 c_16) (fun _ => ?_)
          refine ev_bipush (v := 58) dX12_printRef_111 (by decide) ?_
          refine ev_goto (tgt := 118) dX12_printRef_113 (by decide) ?_
          exact ev_sub [0, 1, 2] rfl (ev_X12_printRef_p118 hO hP h)
      · rw [if_neg c_15] at h
        refine ev_icmp_ne (x := (σ_10.AI a_13 (Int32.toNatClampNeg v2))) (y := 2) (tgt := 131) dX12_printRef_103 (by decide) (fun _ => ?_) (fun q9 => absurd q9 c_15)
        exact ev_sub [0, 2] rfl (ev_X12_printRef_p131 hO hP h)
    · have z9 := x_call (M := mX12_printRef) (M' := mX12_printNumber) (pc := 93) (st := [.int (σ_3.AI a_7 (Int32.toNatClampNeg v2)), va_rf (some a0)]) (rest := []) (av := [va_rf (some a0), .int (σ_3.AI a_7 (Int32.toNatClampNeg v2))]) (x_linkV (M := mX12_printRef) (M' := mX12_printNumber) (As := [.int (σ_3.AI a_7 (Int32.toNatClampNeg v2))]) (index := 347) (C := RX12) (T := TX12) (xE_12 c_6) rfl wd_950 wd_951 (wG_in (List.mem_append_left _ (List.mem_of_getElem? (i := 99) rfl)) rfl) xw_X12_printNumber rfl (by decide) rfl rfl dX12_printRef_93) (ev_X12_printNumber hO hP h_11) xw_X12_printNumber rfl wd_198 dX12_printRef_93 (by decide) (by decide) (by simp [x_cat, x_catI, x_catJ])
      cases h
      exact x_callX z9 (evX_out rfl)
  · have z9 := x_call (M := mX12_printRef) (M' := mX12_print) (pc := 83) (st := [.int s1, va_rf (some a_1)]) (rest := []) (av := [va_rf (some a_1), .int s1]) (x_linkV (M := mX12_printRef) (M' := mX12_print) (As := [.int s1]) (index := 344) (C := RX12) (T := TX12) (xE_12 c_5) rfl wd_944 wd_945 (wG_in (List.mem_append_left _ (List.mem_of_getElem? (i := 96) rfl)) rfl) xw_X12_print rfl (by decide) rfl rfl dX12_printRef_83) (ev_X12_print hO hP h_4) xw_X12_print rfl wd_198 dX12_printRef_83 (by decide) (by decide) (by simp [x_cat, x_catI, x_catJ])
    cases h
    exact x_callX z9 (evX_out rfl)
set_option maxHeartbeats 4000000 in
set_option maxRecDepth 100000 in
theorem ev_X12_printRef {l : Launch} {G : xG} (hO : x_OK l G) {P : xP} (hP : x_PG P G) {a0 : Nat} {v1 : Int32} {v2 : Int32} {v3 : Int32} {σ σ' : xS} {rr : Unit ⊕ String} (h : dm_X12_printRef P a0 v1 v2 v3 σ = some (rr, σ')) : EvM l G mX12_printRef [va_rf (some a0), .int v1, .int v2, .int v3] σ (xrV rr) σ' := by
  unfold dm_X12_printRef at h
  refine evM_of hO (by decide +kernel) (x_lenI (by simp [x_cat, x_catI, x_catJ, mX12_printRef, xM.maxL])) ?_
  refine Eq.mp (congrArg (fun z => Ev l G mX12_printRef 0 z [] σ (xrV rr) σ') (show [(0, va_rf (some a0)), (1, .int v1), (2, .int v2), (3, .int v3)] = lv_args 0 [va_rf (some a0), .int v1, .int v2, .int v3] by simp [lv_args, x_cat, x_catI, x_catJ])) ?_
  refine ev_aload_n (j := 0) (x := (some a0)) dX12_printRef_0 rfl rfl ?_
  obtain ⟨c_1, h⟩ := x_chk_e h
  refine ev_get (C := RX12) (T := TX12) (k := 17) inX12 (xE_12 c_1) rfl (by decide) wd_165 (Or.inl rfl) rfl dX12_printRef_1 ?_
  refine ev_iload_n (j := 2) (x := v2) dX12_printRef_4 rfl rfl ?_
  obtain ⟨a_2, ea_2, h⟩ := x_some_e h
  refine ev_at (st' := [.int v2, va_rf (some a_2)]) rfl (by rw [ea_2]) ?_
  obtain ⟨c_3, h⟩ := x_chk_e h
  refine ev_iald_31 c_3.1 c_3.2 dX12_printRef_5 ?_
  refine ev_iconst (v := 3) dX12_printRef_6 (by decide) ?_
  by_cases c_4 : (σ.AI a_2 (Int32.toNatClampNeg v2)) = 3
  · rw [if_pos c_4] at h
    refine ev_icmp_ne (x := (σ.AI a_2 (Int32.toNatClampNeg v2))) (y := 3) (tgt := 41) dX12_printRef_7 (by decide) (fun q9 => absurd c_4 q9) (fun _ => ?_)
    refine ev_iload_n (j := 3) (x := v3) dX12_printRef_10 rfl rfl ?_
    by_cases c_18 : v3 = 0
    · rw [if_pos c_18] at h
      refine ev_if_eq (x := v3) (tgt := 24) dX12_printRef_11 (by decide) (fun _ => ?_) (fun q9 => absurd c_18 q9)
      exact ev_sub [0, 2] rfl (ev_X12_printRef_p24 hO hP h)
    · rw [if_neg c_18] at h
      refine ev_if_eq (x := v3) (tgt := 24) dX12_printRef_11 (by decide) (fun q9 => absurd q9 c_18) (fun _ => ?_)
      refine ev_aload_n (j := 0) (x := (some a0)) dX12_printRef_14 rfl rfl ?_
      refine ev_aload_n (j := 0) (x := (some a0)) dX12_printRef_15 rfl rfl ?_
      refine ev_get (C := RX12) (T := TX12) (k := 20) inX12 (xE_12 c_1) rfl (by decide) wd_168 (Or.inl rfl) rfl dX12_printRef_16 ?_
      refine ev_iload_n (j := 2) (x := v2) dX12_printRef_19 rfl rfl ?_
      obtain ⟨a_19, ea_19, h⟩ := x_some_e h
      refine ev_at (st' := [.int v2, va_rf (some a_19), va_rf (some a0)]) rfl (by rw [ea_19]) ?_
      obtain ⟨c_20, h⟩ := x_chk_e h
      refine ev_iald_31 c_20.1 c_20.2 dX12_printRef_20 ?_
      rcases x_bind_e h with ⟨v_21, σ_22, h_23, h⟩ | ⟨E_24, σ_22, h_23, h⟩
      · have z9 := x_call (M := mX12_printRef) (M' := mX12_printNumber) (pc := 21) (st := [.int (σ.AI a_19 (Int32.toNatClampNeg v2)), va_rf (some a0)]) (rest := []) (av := [va_rf (some a0), .int (σ.AI a_19 (Int32.toNatClampNeg v2))]) (x_linkV (M := mX12_printRef) (M' := mX12_printNumber) (As := [.int (σ.AI a_19 (Int32.toNatClampNeg v2))]) (index := 347) (C := RX12) (T := TX12) (xE_12 c_1) rfl wd_950 wd_951 (wG_in (List.mem_append_left _ (List.mem_of_getElem? (i := 99) rfl)) rfl) xw_X12_printNumber rfl (by decide) rfl rfl dX12_printRef_21) (ev_X12_printNumber hO hP h_23) xw_X12_printNumber rfl wd_198 dX12_printRef_21 (by decide) (by decide) (by simp [x_cat, x_catI, x_catJ])
        refine x_callR z9 ?_
        refine ev_at (st' := []) rfl rfl ?_
        exact ev_sub [0, 2] rfl (ev_X12_printRef_p24 hO hP h)
      · have z9 := x_call (M := mX12_printRef) (M' := mX12_printNumber) (pc := 21) (st := [.int (σ.AI a_19 (Int32.toNatClampNeg v2)), va_rf (some a0)]) (rest := []) (av := [va_rf (some a0), .int (σ.AI a_19 (Int32.toNatClampNeg v2))]) (x_linkV (M := mX12_printRef) (M' := mX12_printNumber) (As := [.int (σ.AI a_19 (Int32.toNatClampNeg v2))]) (index := 347) (C := RX12) (T := TX12) (xE_12 c_1) rfl wd_950 wd_951 (wG_in (List.mem_append_left _ (List.mem_of_getElem? (i := 99) rfl)) rfl) xw_X12_printNumber rfl (by decide) rfl rfl dX12_printRef_21) (ev_X12_printNumber hO hP h_23) xw_X12_printNumber rfl wd_198 dX12_printRef_21 (by decide) (by decide) (by simp [x_cat, x_catI, x_catJ])
        cases h
        exact x_callX z9 (evX_out rfl)
  · rw [if_neg c_4] at h
    refine ev_icmp_ne (x := (σ.AI a_2 (Int32.toNatClampNeg v2))) (y := 3) (tgt := 41) dX12_printRef_7 (by decide) (fun _ => ?_) (fun q9 => absurd q9 c_4)
    refine ev_aload_n (j := 0) (x := (some a0)) dX12_printRef_41 rfl rfl ?_
    refine ev_aload_n (j := 0) (x := (some a0)) dX12_printRef_42 rfl rfl ?_
    refine ev_get (C := RX12) (T := TX12) (k := 10) inX12 (xE_12 c_1) rfl (by decide) wd_157 (Or.inl rfl) rfl dX12_printRef_43 ?_
    refine ev_bipush (v := 16) dX12_printRef_46 (by decide) ?_
    refine ev_iload_n (j := 1) (x := v1) dX12_printRef_48 rfl rfl ?_
    refine ev_imul (x := 16) (y := v1) dX12_printRef_49 ?_
    refine ev_aload_n (j := 0) (x := (some a0)) dX12_printRef_50 rfl rfl ?_
    refine ev_get (C := RX12) (T := TX12) (k := 18) inX12 (xE_12 c_1) rfl (by decide) wd_166 (Or.inl rfl) rfl dX12_printRef_51 ?_
    refine ev_iload_n (j := 2) (x := v2) dX12_printRef_54 rfl rfl ?_
    obtain ⟨a_5, ea_5, h⟩ := x_some_e h
    refine ev_at (st' := [.int v2, va_rf (some a_5), .int (16 * v1), va_rf (σ.R 1110 a0), va_rf (some a0)]) rfl (by rw [ea_5]) ?_
    obtain ⟨c_6, h⟩ := x_chk_e h
    refine ev_iald_31 c_6.1 c_6.2 dX12_printRef_55 ?_
    refine ev_iadd (x := (16 * v1)) (y := (σ.AI a_5 (Int32.toNatClampNeg v2))) dX12_printRef_56 ?_
    obtain ⟨a_7, ea_7, h⟩ := x_some_e h
    refine ev_at (st' := [.int ((16 * v1) + (σ.AI a_5 (Int32.toNatClampNeg v2))), va_rf (some a_7), va_rf (some a0)]) rfl (by rw [ea_7]) ?_
    obtain ⟨c_8, h⟩ := x_chk_e h
    refine ev_iald_31 c_8.1 c_8.2 dX12_printRef_57 ?_
    rcases x_bind_e h with ⟨v_9, σ_10, h_11, h⟩ | ⟨E_17, σ_10, h_11, h⟩
    · have z9 := x_call (M := mX12_printRef) (M' := mX12_printName) (pc := 58) (st := [.int (σ.AI a_7 (Int32.toNatClampNeg ((16 * v1) + (σ.AI a_5 (Int32.toNatClampNeg v2))))), va_rf (some a0)]) (rest := []) (av := [va_rf (some a0), .int (σ.AI a_7 (Int32.toNatClampNeg ((16 * v1) + (σ.AI a_5 (Int32.toNatClampNeg v2)))))]) (x_linkV (M := mX12_printRef) (M' := mX12_printName) (As := [.int (σ.AI a_7 (Int32.toNatClampNeg ((16 * v1) + (σ.AI a_5 (Int32.toNatClampNeg v2)))))]) (index := 350) (C := RX12) (T := TX12) (xE_12 c_1) rfl wd_947 wd_948 (wG_in (List.mem_append_left _ (List.mem_of_getElem? (i := 97) rfl)) rfl) xw_X12_printName rfl (by decide) rfl rfl dX12_printRef_58) (ev_X12_printName hO hP h_11) xw_X12_printName rfl wd_198 dX12_printRef_58 (by decide) (by decide) (by simp [x_cat, x_catI, x_catJ])
      refine x_callR z9 ?_
      refine ev_at (st' := []) rfl rfl ?_
      refine ev_aload_n (j := 0) (x := (some a0)) dX12_printRef_61 rfl rfl ?_
      obtain ⟨c_12, h⟩ := x_chk_e h
      refine ev_get (C := RX12) (T := TX12) (k := 17) inX12 (xE_12 c_12) rfl (by decide) wd_165 (Or.inl rfl) rfl dX12_printRef_62 ?_
      refine ev_iload_n (j := 2) (x := v2) dX12_printRef_65 rfl rfl ?_
      obtain ⟨a_13, ea_13, h⟩ := x_some_e h
      refine ev_at (st' := [.int v2, va_rf (some a_13)]) rfl (by rw [ea_13]) ?_
      obtain ⟨c_14, h⟩ := x_chk_e h
      refine ev_iald_31 c_14.1 c_14.2 dX12_printRef_66 ?_
      by_cases c_15 : (σ_10.AI a_13 (Int32.toNatClampNeg v2)) = 0
      · rw [if_pos c_15] at h
        refine ev_if_ne (x := (σ_10.AI a_13 (Int32.toNatClampNeg v2))) (tgt := 71) dX12_printRef_67 (by decide) (fun q9 => absurd c_15 q9) (fun _ => ?_)
        cases h
        exact ev_vret rfl dX12_printRef_70
      · rw [if_neg c_15] at h
        refine ev_if_ne (x := (σ_10.AI a_13 (Int32.toNatClampNeg v2))) (tgt := 71) dX12_printRef_67 (by decide) (fun _ => ?_) (fun q9 => absurd q9 c_15)
        refine ev_aload_n (j := 0) (x := (some a0)) dX12_printRef_71 rfl rfl ?_
        refine ev_iload_n (j := 3) (x := v3) dX12_printRef_72 rfl rfl ?_
        by_cases c_16 : v3 = 0
        · rw [if_pos c_16] at h
          refine ev_if_eq (x := v3) (tgt := 81) dX12_printRef_73 (by decide) (fun _ => ?_) (fun q9 => absurd c_16 q9)
          refine ev_bipush (v := 46) dX12_printRef_81 (by decide) ?_
          exact ev_sub [0, 2, 3] rfl (ev_X12_printRef_p83 hO hP h)
        · rw [if_neg c_16] at h
          refine ev_if_eq (x := v3) (tgt := 81) dX12_printRef_73 (by decide) (fun q9 => absurd q9 c_16) (fun _ => ?_)
          refine ev_bipush (v := 91) dX12_printRef_76 (by decide) ?_
          refine ev_goto (tgt := 83) dX12_printRef_78 (by decide) ?_
          exact ev_sub [0, 2, 3] rfl (ev_X12_printRef_p83 hO hP h)
    · have z9 := x_call (M := mX12_printRef) (M' := mX12_printName) (pc := 58) (st := [.int (σ.AI a_7 (Int32.toNatClampNeg ((16 * v1) + (σ.AI a_5 (Int32.toNatClampNeg v2))))), va_rf (some a0)]) (rest := []) (av := [va_rf (some a0), .int (σ.AI a_7 (Int32.toNatClampNeg ((16 * v1) + (σ.AI a_5 (Int32.toNatClampNeg v2)))))]) (x_linkV (M := mX12_printRef) (M' := mX12_printName) (As := [.int (σ.AI a_7 (Int32.toNatClampNeg ((16 * v1) + (σ.AI a_5 (Int32.toNatClampNeg v2)))))]) (index := 350) (C := RX12) (T := TX12) (xE_12 c_1) rfl wd_947 wd_948 (wG_in (List.mem_append_left _ (List.mem_of_getElem? (i := 97) rfl)) rfl) xw_X12_printName rfl (by decide) rfl rfl dX12_printRef_58) (ev_X12_printName hO hP h_11) xw_X12_printName rfl wd_198 dX12_printRef_58 (by decide) (by decide) (by simp [x_cat, x_catI, x_catJ])
      cases h
      exact x_callX z9 (evX_out rfl)
set_option maxHeartbeats 4000000 in
set_option maxRecDepth 100000 in
theorem ev_X12_printNamed_p29 {l : Launch} {G : xG} (hO : x_OK l G) {P : xP} (hP : x_PG P G) {a0 : Nat} {σ σ' : xS} {rr : Unit ⊕ String} (h : dm_X12_printNamed_p29 P a0 σ = some (rr, σ')) : Ev l G mX12_printNamed 29 [(0, va_rf (some a0))] [] σ (xrV rr) σ' := by
  unfold dm_X12_printNamed_p29 at h
  refine ev_aload_n (j := 0) (x := (some a0)) dX12_printNamed_29 rfl rfl ?_
  refine ev_bipush (v := 41) dX12_printNamed_30 (by decide) ?_
  obtain ⟨c_4, h⟩ := x_chk_e h
  rcases x_bind_e h with ⟨v_1, σ_2, h_3, h⟩ | ⟨E_5, σ_2, h_3, h⟩
  · have z9 := x_call (M := mX12_printNamed) (M' := mX12_print) (pc := 32) (st := [.int 41, va_rf (some a0)]) (rest := []) (av := [va_rf (some a0), .int 41]) (x_linkV (M := mX12_printNamed) (M' := mX12_print) (As := [.int 41]) (index := 344) (C := RX12) (T := TX12) (xE_12 c_4) rfl wd_944 wd_945 (wG_in (List.mem_append_left _ (List.mem_of_getElem? (i := 96) rfl)) rfl) xw_X12_print rfl (by decide) rfl rfl dX12_printNamed_32) (ev_X12_print hO hP h_3) xw_X12_print rfl wd_198 dX12_printNamed_32 (by decide) (by decide) (by simp [x_cat, x_catI, x_catJ])
    refine x_callR z9 ?_
    refine ev_at (st' := []) rfl rfl ?_
    cases h
    exact ev_vret rfl dX12_printNamed_35
  · have z9 := x_call (M := mX12_printNamed) (M' := mX12_print) (pc := 32) (st := [.int 41, va_rf (some a0)]) (rest := []) (av := [va_rf (some a0), .int 41]) (x_linkV (M := mX12_printNamed) (M' := mX12_print) (As := [.int 41]) (index := 344) (C := RX12) (T := TX12) (xE_12 c_4) rfl wd_944 wd_945 (wG_in (List.mem_append_left _ (List.mem_of_getElem? (i := 96) rfl)) rfl) xw_X12_print rfl (by decide) rfl rfl dX12_printNamed_32) (ev_X12_print hO hP h_3) xw_X12_print rfl wd_198 dX12_printNamed_32 (by decide) (by decide) (by simp [x_cat, x_catI, x_catJ])
    cases h
    exact x_callX z9 (evX_out rfl)
set_option maxHeartbeats 4000000 in
set_option maxRecDepth 100000 in
theorem ev_X12_printNamed {l : Launch} {G : xG} (hO : x_OK l G) {P : xP} (hP : x_PG P G) {a0 : Nat} {v1 : Int32} {v2 : Int32} {v3 : Int32} {σ σ' : xS} {rr : Unit ⊕ String} (h : dm_X12_printNamed P a0 v1 v2 v3 σ = some (rr, σ')) : EvM l G mX12_printNamed [va_rf (some a0), .int v1, .int v2, .int v3] σ (xrV rr) σ' := by
  unfold dm_X12_printNamed at h
  refine evM_of hO (by decide +kernel) (x_lenI (by simp [x_cat, x_catI, x_catJ, mX12_printNamed, xM.maxL])) ?_
  refine Eq.mp (congrArg (fun z => Ev l G mX12_printNamed 0 z [] σ (xrV rr) σ') (show [(0, va_rf (some a0)), (1, .int v1), (2, .int v2), (3, .int v3)] = lv_args 0 [va_rf (some a0), .int v1, .int v2, .int v3] by simp [lv_args, x_cat, x_catI, x_catJ])) ?_
  refine ev_aload_n (j := 0) (x := (some a0)) dX12_printNamed_0 rfl rfl ?_
  refine ev_bipush (v := 46) dX12_printNamed_1 (by decide) ?_
  obtain ⟨c_4, h⟩ := x_chk_e h
  rcases x_bind_e h with ⟨v_1, σ_2, h_3, h⟩ | ⟨E_21, σ_2, h_3, h⟩
  · have z9 := x_call (M := mX12_printNamed) (M' := mX12_print) (pc := 3) (st := [.int 46, va_rf (some a0)]) (rest := []) (av := [va_rf (some a0), .int 46]) (x_linkV (M := mX12_printNamed) (M' := mX12_print) (As := [.int 46]) (index := 344) (C := RX12) (T := TX12) (xE_12 c_4) rfl wd_944 wd_945 (wG_in (List.mem_append_left _ (List.mem_of_getElem? (i := 96) rfl)) rfl) xw_X12_print rfl (by decide) rfl rfl dX12_printNamed_3) (ev_X12_print hO hP h_3) xw_X12_print rfl wd_198 dX12_printNamed_3 (by decide) (by decide) (by simp [x_cat, x_catI, x_catJ])
    refine x_callR z9 ?_
    refine ev_at (st' := []) rfl rfl ?_
    refine ev_aload_n (j := 0) (x := (some a0)) dX12_printNamed_6 rfl rfl ?_
    refine ev_iload_n (j := 2) (x := v2) dX12_printNamed_7 rfl rfl ?_
    obtain ⟨c_8, h⟩ := x_chk_e h
    rcases x_bind_e h with ⟨v_5, σ_6, h_7, h⟩ | ⟨E_20, σ_6, h_7, h⟩
    · have z9 := x_call (M := mX12_printNamed) (M' := mX12_printName) (pc := 8) (st := [.int v2, va_rf (some a0)]) (rest := []) (av := [va_rf (some a0), .int v2]) (x_linkV (M := mX12_printNamed) (M' := mX12_printName) (As := [.int v2]) (index := 350) (C := RX12) (T := TX12) (xE_12 c_8) rfl wd_947 wd_948 (wG_in (List.mem_append_left _ (List.mem_of_getElem? (i := 97) rfl)) rfl) xw_X12_printName rfl (by decide) rfl rfl dX12_printNamed_8) (ev_X12_printName hO hP h_7) xw_X12_printName rfl wd_198 dX12_printNamed_8 (by decide) (by decide) (by simp [x_cat, x_catI, x_catJ])
      refine x_callR z9 ?_
      refine ev_at (st' := []) rfl rfl ?_
      refine ev_aload_n (j := 0) (x := (some a0)) dX12_printNamed_11 rfl rfl ?_
      refine ev_bipush (v := 40) dX12_printNamed_12 (by decide) ?_
      obtain ⟨c_12, h⟩ := x_chk_e h
      rcases x_bind_e h with ⟨v_9, σ_10, h_11, h⟩ | ⟨E_19, σ_10, h_11, h⟩
      · have z9 := x_call (M := mX12_printNamed) (M' := mX12_print) (pc := 14) (st := [.int 40, va_rf (some a0)]) (rest := []) (av := [va_rf (some a0), .int 40]) (x_linkV (M := mX12_printNamed) (M' := mX12_print) (As := [.int 40]) (index := 344) (C := RX12) (T := TX12) (xE_12 c_12) rfl wd_944 wd_945 (wG_in (List.mem_append_left _ (List.mem_of_getElem? (i := 96) rfl)) rfl) xw_X12_print rfl (by decide) rfl rfl dX12_printNamed_14) (ev_X12_print hO hP h_11) xw_X12_print rfl wd_198 dX12_printNamed_14 (by decide) (by decide) (by simp [x_cat, x_catI, x_catJ])
        refine x_callR z9 ?_
        refine ev_at (st' := []) rfl rfl ?_
        refine ev_iload_n (j := 3) (x := v3) dX12_printNamed_17 rfl rfl ?_
        refine ev_iconst (v := -1) dX12_printNamed_18 (by decide) ?_
        by_cases c_13 : v3 = (-1)
        · rw [if_pos c_13] at h
          refine ev_icmp_eq (x := v3) (y := (-1)) (tgt := 29) dX12_printNamed_19 (by decide) (fun _ => ?_) (fun q9 => absurd c_13 q9)
          exact ev_sub [0] rfl (ev_X12_printNamed_p29 hO hP h)
        · rw [if_neg c_13] at h
          refine ev_icmp_eq (x := v3) (y := (-1)) (tgt := 29) dX12_printNamed_19 (by decide) (fun q9 => absurd q9 c_13) (fun _ => ?_)
          refine ev_aload_n (j := 0) (x := (some a0)) dX12_printNamed_22 rfl rfl ?_
          refine ev_iload_n (j := 1) (x := v1) dX12_printNamed_23 rfl rfl ?_
          refine ev_iload_n (j := 3) (x := v3) dX12_printNamed_24 rfl rfl ?_
          refine ev_iconst (v := 1) dX12_printNamed_25 (by decide) ?_
          obtain ⟨c_17, h⟩ := x_chk_e h
          rcases x_bind_e h with ⟨v_14, σ_15, h_16, h⟩ | ⟨E_18, σ_15, h_16, h⟩
          · have z9 := x_call (M := mX12_printNamed) (M' := mX12_printRef) (pc := 26) (st := [.int 1, .int v3, .int v1, va_rf (some a0)]) (rest := []) (av := [va_rf (some a0), .int v1, .int v3, .int 1]) (x_linkV (M := mX12_printNamed) (M' := mX12_printRef) (As := [.int v1, .int v3, .int 1]) (index := 353) (C := RX12) (T := TX12) (xE_12 c_17) rfl wd_953 wd_954 (wG_in (List.mem_append_left _ (List.mem_of_getElem? (i := 100) rfl)) rfl) xw_X12_printRef rfl (by decide) rfl rfl dX12_printNamed_26) (ev_X12_printRef hO hP h_16) xw_X12_printRef rfl wd_198 dX12_printNamed_26 (by decide) (by decide) (by simp [x_cat, x_catI, x_catJ])
            refine x_callR z9 ?_
            refine ev_at (st' := []) rfl rfl ?_
            exact ev_sub [0] rfl (ev_X12_printNamed_p29 hO hP h)
          · have z9 := x_call (M := mX12_printNamed) (M' := mX12_printRef) (pc := 26) (st := [.int 1, .int v3, .int v1, va_rf (some a0)]) (rest := []) (av := [va_rf (some a0), .int v1, .int v3, .int 1]) (x_linkV (M := mX12_printNamed) (M' := mX12_printRef) (As := [.int v1, .int v3, .int 1]) (index := 353) (C := RX12) (T := TX12) (xE_12 c_17) rfl wd_953 wd_954 (wG_in (List.mem_append_left _ (List.mem_of_getElem? (i := 100) rfl)) rfl) xw_X12_printRef rfl (by decide) rfl rfl dX12_printNamed_26) (ev_X12_printRef hO hP h_16) xw_X12_printRef rfl wd_198 dX12_printNamed_26 (by decide) (by decide) (by simp [x_cat, x_catI, x_catJ])
            cases h
            exact x_callX z9 (evX_out rfl)
      · have z9 := x_call (M := mX12_printNamed) (M' := mX12_print) (pc := 14) (st := [.int 40, va_rf (some a0)]) (rest := []) (av := [va_rf (some a0), .int 40]) (x_linkV (M := mX12_printNamed) (M' := mX12_print) (As := [.int 40]) (index := 344) (C := RX12) (T := TX12) (xE_12 c_12) rfl wd_944 wd_945 (wG_in (List.mem_append_left _ (List.mem_of_getElem? (i := 96) rfl)) rfl) xw_X12_print rfl (by decide) rfl rfl dX12_printNamed_14) (ev_X12_print hO hP h_11) xw_X12_print rfl wd_198 dX12_printNamed_14 (by decide) (by decide) (by simp [x_cat, x_catI, x_catJ])
        cases h
        exact x_callX z9 (evX_out rfl)
    · have z9 := x_call (M := mX12_printNamed) (M' := mX12_printName) (pc := 8) (st := [.int v2, va_rf (some a0)]) (rest := []) (av := [va_rf (some a0), .int v2]) (x_linkV (M := mX12_printNamed) (M' := mX12_printName) (As := [.int v2]) (index := 350) (C := RX12) (T := TX12) (xE_12 c_8) rfl wd_947 wd_948 (wG_in (List.mem_append_left _ (List.mem_of_getElem? (i := 97) rfl)) rfl) xw_X12_printName rfl (by decide) rfl rfl dX12_printNamed_8) (ev_X12_printName hO hP h_7) xw_X12_printName rfl wd_198 dX12_printNamed_8 (by decide) (by decide) (by simp [x_cat, x_catI, x_catJ])
      cases h
      exact x_callX z9 (evX_out rfl)
  · have z9 := x_call (M := mX12_printNamed) (M' := mX12_print) (pc := 3) (st := [.int 46, va_rf (some a0)]) (rest := []) (av := [va_rf (some a0), .int 46]) (x_linkV (M := mX12_printNamed) (M' := mX12_print) (As := [.int 46]) (index := 344) (C := RX12) (T := TX12) (xE_12 c_4) rfl wd_944 wd_945 (wG_in (List.mem_append_left _ (List.mem_of_getElem? (i := 96) rfl)) rfl) xw_X12_print rfl (by decide) rfl rfl dX12_printNamed_3) (ev_X12_print hO hP h_3) xw_X12_print rfl wd_198 dX12_printNamed_3 (by decide) (by decide) (by simp [x_cat, x_catI, x_catJ])
    cases h
    exact x_callX z9 (evX_out rfl)
set_option maxHeartbeats 4000000 in
set_option maxRecDepth 100000 in
theorem ev_X12_printLink_p21 {l : Launch} {G : xG} (hO : x_OK l G) {P : xP} (hP : x_PG P G) {a0 : Nat} {σ σ' : xS} {rr : Unit ⊕ String} (h : dm_X12_printLink_p21 P a0 σ = some (rr, σ')) : Ev l G mX12_printLink 21 [] [] σ (xrV rr) σ' := by
  unfold dm_X12_printLink_p21 at h
  cases h
  exact ev_vret rfl dX12_printLink_21
set_option maxHeartbeats 4000000 in
set_option maxRecDepth 100000 in
theorem ev_X12_printLink {l : Launch} {G : xG} (hO : x_OK l G) {P : xP} (hP : x_PG P G) {a0 : Nat} {v1 : Int32} {v2 : Int32} {v3 : Int32} {σ σ' : xS} {rr : Unit ⊕ String} (h : dm_X12_printLink P a0 v1 v2 v3 σ = some (rr, σ')) : EvM l G mX12_printLink [va_rf (some a0), .int v1, .int v2, .int v3] σ (xrV rr) σ' := by
  unfold dm_X12_printLink at h
  refine evM_of hO (by decide +kernel) (x_lenI (by simp [x_cat, x_catI, x_catJ, mX12_printLink, xM.maxL])) ?_
  refine Eq.mp (congrArg (fun z => Ev l G mX12_printLink 0 z [] σ (xrV rr) σ') (show [(0, va_rf (some a0)), (1, .int v1), (2, .int v2), (3, .int v3)] = lv_args 0 [va_rf (some a0), .int v1, .int v2, .int v3] by simp [lv_args, x_cat, x_catI, x_catJ])) ?_
  refine ev_iload_n (j := 2) (x := v2) dX12_printLink_0 rfl rfl ?_
  refine ev_iconst (v := -1) dX12_printLink_1 (by decide) ?_
  by_cases c_1 : v2 = (-1)
  · rw [if_pos c_1] at h
    refine ev_icmp_ne (x := v2) (y := (-1)) (tgt := 14) dX12_printLink_2 (by decide) (fun q9 => absurd c_1 q9) (fun _ => ?_)
    refine ev_aload_n (j := 0) (x := (some a0)) dX12_printLink_5 rfl rfl ?_
    refine ev_bipush (v := 45) dX12_printLink_6 (by decide) ?_
    obtain ⟨c_10, h⟩ := x_chk_e h
    rcases x_bind_e h with ⟨v_7, σ_8, h_9, h⟩ | ⟨E_11, σ_8, h_9, h⟩
    · have z9 := x_call (M := mX12_printLink) (M' := mX12_print) (pc := 8) (st := [.int 45, va_rf (some a0)]) (rest := []) (av := [va_rf (some a0), .int 45]) (x_linkV (M := mX12_printLink) (M' := mX12_print) (As := [.int 45]) (index := 344) (C := RX12) (T := TX12) (xE_12 c_10) rfl wd_944 wd_945 (wG_in (List.mem_append_left _ (List.mem_of_getElem? (i := 96) rfl)) rfl) xw_X12_print rfl (by decide) rfl rfl dX12_printLink_8) (ev_X12_print hO hP h_9) xw_X12_print rfl wd_198 dX12_printLink_8 (by decide) (by decide) (by simp [x_cat, x_catI, x_catJ])
      refine x_callR z9 ?_
      refine ev_at (st' := []) rfl rfl ?_
      refine ev_goto (tgt := 21) dX12_printLink_11 (by decide) ?_
      exact ev_sub [] rfl (ev_X12_printLink_p21 hO hP h)
    · have z9 := x_call (M := mX12_printLink) (M' := mX12_print) (pc := 8) (st := [.int 45, va_rf (some a0)]) (rest := []) (av := [va_rf (some a0), .int 45]) (x_linkV (M := mX12_printLink) (M' := mX12_print) (As := [.int 45]) (index := 344) (C := RX12) (T := TX12) (xE_12 c_10) rfl wd_944 wd_945 (wG_in (List.mem_append_left _ (List.mem_of_getElem? (i := 96) rfl)) rfl) xw_X12_print rfl (by decide) rfl rfl dX12_printLink_8) (ev_X12_print hO hP h_9) xw_X12_print rfl wd_198 dX12_printLink_8 (by decide) (by decide) (by simp [x_cat, x_catI, x_catJ])
      cases h
      exact x_callX z9 (evX_out rfl)
  · rw [if_neg c_1] at h
    refine ev_icmp_ne (x := v2) (y := (-1)) (tgt := 14) dX12_printLink_2 (by decide) (fun _ => ?_) (fun q9 => absurd q9 c_1)
    refine ev_aload_n (j := 0) (x := (some a0)) dX12_printLink_14 rfl rfl ?_
    refine ev_iload_n (j := 1) (x := v1) dX12_printLink_15 rfl rfl ?_
    refine ev_iload_n (j := 2) (x := v2) dX12_printLink_16 rfl rfl ?_
    refine ev_iload_n (j := 3) (x := v3) dX12_printLink_17 rfl rfl ?_
    obtain ⟨c_5, h⟩ := x_chk_e h
    rcases x_bind_e h with ⟨v_2, σ_3, h_4, h⟩ | ⟨E_6, σ_3, h_4, h⟩
    · have z9 := x_call (M := mX12_printLink) (M' := mX12_printRef) (pc := 18) (st := [.int v3, .int v2, .int v1, va_rf (some a0)]) (rest := []) (av := [va_rf (some a0), .int v1, .int v2, .int v3]) (x_linkV (M := mX12_printLink) (M' := mX12_printRef) (As := [.int v1, .int v2, .int v3]) (index := 353) (C := RX12) (T := TX12) (xE_12 c_5) rfl wd_953 wd_954 (wG_in (List.mem_append_left _ (List.mem_of_getElem? (i := 100) rfl)) rfl) xw_X12_printRef rfl (by decide) rfl rfl dX12_printLink_18) (ev_X12_printRef hO hP h_4) xw_X12_printRef rfl wd_198 dX12_printLink_18 (by decide) (by decide) (by simp [x_cat, x_catI, x_catJ])
      refine x_callR z9 ?_
      refine ev_at (st' := []) rfl rfl ?_
      exact ev_sub [] rfl (ev_X12_printLink_p21 hO hP h)
    · have z9 := x_call (M := mX12_printLink) (M' := mX12_printRef) (pc := 18) (st := [.int v3, .int v2, .int v1, va_rf (some a0)]) (rest := []) (av := [va_rf (some a0), .int v1, .int v2, .int v3]) (x_linkV (M := mX12_printLink) (M' := mX12_printRef) (As := [.int v1, .int v2, .int v3]) (index := 353) (C := RX12) (T := TX12) (xE_12 c_5) rfl wd_953 wd_954 (wG_in (List.mem_append_left _ (List.mem_of_getElem? (i := 100) rfl)) rfl) xw_X12_printRef rfl (by decide) rfl rfl dX12_printLink_18) (ev_X12_printRef hO hP h_4) xw_X12_printRef rfl wd_198 dX12_printLink_18 (by decide) (by decide) (by simp [x_cat, x_catI, x_catJ])
      cases h
      exact x_callX z9 (evX_out rfl)
set_option maxHeartbeats 4000000 in
set_option maxRecDepth 100000 in
theorem ev_X12_longInstanceOut_p153 {l : Launch} {G : xG} (hO : x_OK l G) {P : xP} (hP : x_PG P G) {a0 : Nat} {k34 : Int32 → Int32 → Int32 → xS → xO Unit} (hk34 : ∀ {v1 : Int32} {v2 : Int32} {v3 : Int32} {σ σ' : xS} {rr : Unit ⊕ String}, k34 v1 v2 v3 σ = some (rr, σ') → Ev l G mX12_longInstanceOut 34 [(0, va_rf (some a0)), (1, .int v1), (2, .int v2), (3, .int v3)] [] σ (xrV rr) σ') {v1 : Int32} {v2 : Int32} {v3 : Int32} {σ σ' : xS} {rr : Unit ⊕ String} (h : dm_X12_longInstanceOut_p153 P k34 a0 v1 v2 v3 σ = some (rr, σ')) : Ev l G mX12_longInstanceOut 153 [(0, va_rf (some a0)), (1, .int v1), (2, .int v2), (3, .int v3)] [] σ (xrV rr) σ' := by
  unfold dm_X12_longInstanceOut_p153 at h
  obtain ⟨v_1, ev_1, h⟩ := x_let_e h
  refine ev_iinc (j := 3) (x := v3) (v := v_1) (lv' := [(3, .int v_1), (0, va_rf (some a0)), (1, .int v1), (2, .int v2)]) dX12_longInstanceOut_153 rfl (by rw [ev_1]; rfl) (by decide) rfl ?_
  refine ev_goto (tgt := 34) dX12_longInstanceOut_156 (by decide) ?_
  exact ev_sub [1, 2, 3, 0] rfl (hk34 h)
set_option maxHeartbeats 4000000 in
set_option maxRecDepth 100000 in
theorem ev_X12_longInstanceOut_p53 {l : Launch} {G : xG} (hO : x_OK l G) {P : xP} (hP : x_PG P G) {a0 : Nat} {k34 : Int32 → Int32 → Int32 → xS → xO Unit} (hk34 : ∀ {v1 : Int32} {v2 : Int32} {v3 : Int32} {σ σ' : xS} {rr : Unit ⊕ String}, k34 v1 v2 v3 σ = some (rr, σ') → Ev l G mX12_longInstanceOut 34 [(0, va_rf (some a0)), (1, .int v1), (2, .int v2), (3, .int v3)] [] σ (xrV rr) σ') {v1 : Int32} {v2 : Int32} {v3 : Int32} {σ σ' : xS} {rr : Unit ⊕ String} (h : dm_X12_longInstanceOut_p53 P k34 a0 v1 v2 v3 σ = some (rr, σ')) : Ev l G mX12_longInstanceOut 53 [(0, va_rf (some a0)), (1, .int v1), (2, .int v2), (3, .int v3)] [] σ (xrV rr) σ' := by
  unfold dm_X12_longInstanceOut_p53 at h
  refine ev_aload_n (j := 0) (x := (some a0)) dX12_longInstanceOut_53 rfl rfl ?_
  obtain ⟨c_1, h⟩ := x_chk_e h
  refine ev_get (C := RX12) (T := TX12) (k := 28) inX12 (xE_12 c_1) rfl (by decide) wd_176 (Or.inl rfl) rfl dX12_longInstanceOut_54 ?_
  refine ev_iload_n (j := 2) (x := v2) dX12_longInstanceOut_57 rfl rfl ?_
  obtain ⟨a_2, ea_2, h⟩ := x_some_e h
  refine ev_at (st' := [.int v2, va_rf (some a_2)]) rfl (by rw [ea_2]) ?_
  obtain ⟨c_3, h⟩ := x_chk_e h
  refine ev_iald_31 c_3.1 c_3.2 dX12_longInstanceOut_58 ?_
  refine ev_iconst (v := -1) dX12_longInstanceOut_59 (by decide) ?_
  by_cases c_4 : (σ.AI a_2 (Int32.toNatClampNeg v2)) = (-1)
  · rw [if_pos c_4] at h
    refine ev_icmp_eq (x := (σ.AI a_2 (Int32.toNatClampNeg v2))) (y := (-1)) (tgt := 97) dX12_longInstanceOut_60 (by decide) (fun _ => ?_) (fun q9 => absurd c_4 q9)
    refine ev_aload_n (j := 0) (x := (some a0)) dX12_longInstanceOut_97 rfl rfl ?_
    refine ev_get (C := RX12) (T := TX12) (k := 27) inX12 (xE_12 c_1) rfl (by decide) wd_175 (Or.inl rfl) rfl dX12_longInstanceOut_98 ?_
    refine ev_iload_n (j := 2) (x := v2) dX12_longInstanceOut_101 rfl rfl ?_
    obtain ⟨a_5, ea_5, h⟩ := x_some_e h
    refine ev_at (st' := [.int v2, va_rf (some a_5)]) rfl (by rw [ea_5]) ?_
    obtain ⟨c_6, h⟩ := x_chk_e h
    refine ev_zald_33 c_6.1 c_6.2 dX12_longInstanceOut_102 ?_
    by_cases c_7 : (σ.AI a_5 (Int32.toNatClampNeg v2)) = 0
    · rw [if_pos c_7] at h
      refine ev_if_eq (x := (σ.AI a_5 (Int32.toNatClampNeg v2))) (tgt := 136) dX12_longInstanceOut_103 (by decide) (fun _ => ?_) (fun q9 => absurd c_7 q9)
      refine ev_aload_n (j := 0) (x := (some a0)) dX12_longInstanceOut_136 rfl rfl ?_
      refine ev_iload_n (j := 1) (x := v1) dX12_longInstanceOut_137 rfl rfl ?_
      refine ev_aload_n (j := 0) (x := (some a0)) dX12_longInstanceOut_138 rfl rfl ?_
      refine ev_get (C := RX12) (T := TX12) (k := 30) inX12 (xE_12 c_1) rfl (by decide) wd_178 (Or.inl rfl) rfl dX12_longInstanceOut_139 ?_
      refine ev_bipush (v := 16) dX12_longInstanceOut_142 (by decide) ?_
      refine ev_iload_n (j := 2) (x := v2) dX12_longInstanceOut_144 rfl rfl ?_
      refine ev_imul (x := 16) (y := v2) dX12_longInstanceOut_145 ?_
      refine ev_iload_n (j := 3) (x := v3) dX12_longInstanceOut_146 rfl rfl ?_
      refine ev_iadd (x := (16 * v2)) (y := v3) dX12_longInstanceOut_147 ?_
      obtain ⟨a_8, ea_8, h⟩ := x_some_e h
      refine ev_at (st' := [.int ((16 * v2) + v3), va_rf (some a_8), .int v1, va_rf (some a0)]) rfl (by rw [ea_8]) ?_
      obtain ⟨c_9, h⟩ := x_chk_e h
      refine ev_iald_31 c_9.1 c_9.2 dX12_longInstanceOut_148 ?_
      refine ev_iconst (v := 1) dX12_longInstanceOut_149 (by decide) ?_
      rcases x_bind_e h with ⟨v_10, σ_11, h_12, h⟩ | ⟨E_13, σ_11, h_12, h⟩
      · have z9 := x_call (M := mX12_longInstanceOut) (M' := mX12_printLink) (pc := 150) (st := [.int 1, .int (σ.AI a_8 (Int32.toNatClampNeg ((16 * v2) + v3))), .int v1, va_rf (some a0)]) (rest := []) (av := [va_rf (some a0), .int v1, .int (σ.AI a_8 (Int32.toNatClampNeg ((16 * v2) + v3))), .int 1]) (x_linkV (M := mX12_longInstanceOut) (M' := mX12_printLink) (As := [.int v1, .int (σ.AI a_8 (Int32.toNatClampNeg ((16 * v2) + v3))), .int 1]) (index := 360) (C := RX12) (T := TX12) (xE_12 c_1) rfl wd_959 wd_960 (wG_in (List.mem_append_left _ (List.mem_of_getElem? (i := 103) rfl)) rfl) xw_X12_printLink rfl (by decide) rfl rfl dX12_longInstanceOut_150) (ev_X12_printLink hO hP h_12) xw_X12_printLink rfl wd_198 dX12_longInstanceOut_150 (by decide) (by decide) (by simp [x_cat, x_catI, x_catJ])
        refine x_callR z9 ?_
        refine ev_at (st' := []) rfl rfl ?_
        exact ev_sub [0, 1, 2, 3] rfl (ev_X12_longInstanceOut_p153 hO hP hk34 h)
      · have z9 := x_call (M := mX12_longInstanceOut) (M' := mX12_printLink) (pc := 150) (st := [.int 1, .int (σ.AI a_8 (Int32.toNatClampNeg ((16 * v2) + v3))), .int v1, va_rf (some a0)]) (rest := []) (av := [va_rf (some a0), .int v1, .int (σ.AI a_8 (Int32.toNatClampNeg ((16 * v2) + v3))), .int 1]) (x_linkV (M := mX12_longInstanceOut) (M' := mX12_printLink) (As := [.int v1, .int (σ.AI a_8 (Int32.toNatClampNeg ((16 * v2) + v3))), .int 1]) (index := 360) (C := RX12) (T := TX12) (xE_12 c_1) rfl wd_959 wd_960 (wG_in (List.mem_append_left _ (List.mem_of_getElem? (i := 103) rfl)) rfl) xw_X12_printLink rfl (by decide) rfl rfl dX12_longInstanceOut_150) (ev_X12_printLink hO hP h_12) xw_X12_printLink rfl wd_198 dX12_longInstanceOut_150 (by decide) (by decide) (by simp [x_cat, x_catI, x_catJ])
        cases h
        exact x_callX z9 (evX_out rfl)
    · rw [if_neg c_7] at h
      refine ev_if_eq (x := (σ.AI a_5 (Int32.toNatClampNeg v2))) (tgt := 136) dX12_longInstanceOut_103 (by decide) (fun q9 => absurd q9 c_7) (fun _ => ?_)
      refine ev_aload_n (j := 0) (x := (some a0)) dX12_longInstanceOut_106 rfl rfl ?_
      refine ev_iload_n (j := 1) (x := v1) dX12_longInstanceOut_107 rfl rfl ?_
      refine ev_aload_n (j := 0) (x := (some a0)) dX12_longInstanceOut_108 rfl rfl ?_
      refine ev_get (C := RX12) (T := TX12) (k := 31) inX12 (xE_12 c_1) rfl (by decide) wd_179 (Or.inl rfl) rfl dX12_longInstanceOut_109 ?_
      refine ev_bipush (v := 16) dX12_longInstanceOut_112 (by decide) ?_
      refine ev_iload_n (j := 2) (x := v2) dX12_longInstanceOut_114 rfl rfl ?_
      refine ev_imul (x := 16) (y := v2) dX12_longInstanceOut_115 ?_
      refine ev_iload_n (j := 3) (x := v3) dX12_longInstanceOut_116 rfl rfl ?_
      refine ev_iadd (x := (16 * v2)) (y := v3) dX12_longInstanceOut_117 ?_
      obtain ⟨a_14, ea_14, h⟩ := x_some_e h
      refine ev_at (st' := [.int ((16 * v2) + v3), va_rf (some a_14), .int v1, va_rf (some a0)]) rfl (by rw [ea_14]) ?_
      obtain ⟨c_15, h⟩ := x_chk_e h
      refine ev_iald_31 c_15.1 c_15.2 dX12_longInstanceOut_118 ?_
      refine ev_aload_n (j := 0) (x := (some a0)) dX12_longInstanceOut_119 rfl rfl ?_
      refine ev_get (C := RX12) (T := TX12) (k := 30) inX12 (xE_12 c_1) rfl (by decide) wd_178 (Or.inl rfl) rfl dX12_longInstanceOut_120 ?_
      refine ev_bipush (v := 16) dX12_longInstanceOut_123 (by decide) ?_
      refine ev_iload_n (j := 2) (x := v2) dX12_longInstanceOut_125 rfl rfl ?_
      refine ev_imul (x := 16) (y := v2) dX12_longInstanceOut_126 ?_
      refine ev_iload_n (j := 3) (x := v3) dX12_longInstanceOut_127 rfl rfl ?_
      refine ev_iadd (x := (16 * v2)) (y := v3) dX12_longInstanceOut_128 ?_
      obtain ⟨a_16, ea_16, h⟩ := x_some_e h
      refine ev_at (st' := [.int ((16 * v2) + v3), va_rf (some a_16), .int (σ.AI a_14 (Int32.toNatClampNeg ((16 * v2) + v3))), .int v1, va_rf (some a0)]) rfl (by rw [ea_16]) ?_
      obtain ⟨c_17, h⟩ := x_chk_e h
      refine ev_iald_31 c_17.1 c_17.2 dX12_longInstanceOut_129 ?_
      rcases x_bind_e h with ⟨v_18, σ_19, h_20, h⟩ | ⟨E_21, σ_19, h_20, h⟩
      · have z9 := x_call (M := mX12_longInstanceOut) (M' := mX12_printNamed) (pc := 130) (st := [.int (σ.AI a_16 (Int32.toNatClampNeg ((16 * v2) + v3))), .int (σ.AI a_14 (Int32.toNatClampNeg ((16 * v2) + v3))), .int v1, va_rf (some a0)]) (rest := []) (av := [va_rf (some a0), .int v1, .int (σ.AI a_14 (Int32.toNatClampNeg ((16 * v2) + v3))), .int (σ.AI a_16 (Int32.toNatClampNeg ((16 * v2) + v3)))]) (x_linkV (M := mX12_longInstanceOut) (M' := mX12_printNamed) (As := [.int v1, .int (σ.AI a_14 (Int32.toNatClampNeg ((16 * v2) + v3))), .int (σ.AI a_16 (Int32.toNatClampNeg ((16 * v2) + v3)))]) (index := 356) (C := RX12) (T := TX12) (xE_12 c_1) rfl wd_962 wd_963 (wG_in (List.mem_append_left _ (List.mem_of_getElem? (i := 102) rfl)) rfl) xw_X12_printNamed rfl (by decide) rfl rfl dX12_longInstanceOut_130) (ev_X12_printNamed hO hP h_20) xw_X12_printNamed rfl wd_198 dX12_longInstanceOut_130 (by decide) (by decide) (by simp [x_cat, x_catI, x_catJ])
        refine x_callR z9 ?_
        refine ev_at (st' := []) rfl rfl ?_
        refine ev_goto (tgt := 153) dX12_longInstanceOut_133 (by decide) ?_
        exact ev_sub [0, 1, 2, 3] rfl (ev_X12_longInstanceOut_p153 hO hP hk34 h)
      · have z9 := x_call (M := mX12_longInstanceOut) (M' := mX12_printNamed) (pc := 130) (st := [.int (σ.AI a_16 (Int32.toNatClampNeg ((16 * v2) + v3))), .int (σ.AI a_14 (Int32.toNatClampNeg ((16 * v2) + v3))), .int v1, va_rf (some a0)]) (rest := []) (av := [va_rf (some a0), .int v1, .int (σ.AI a_14 (Int32.toNatClampNeg ((16 * v2) + v3))), .int (σ.AI a_16 (Int32.toNatClampNeg ((16 * v2) + v3)))]) (x_linkV (M := mX12_longInstanceOut) (M' := mX12_printNamed) (As := [.int v1, .int (σ.AI a_14 (Int32.toNatClampNeg ((16 * v2) + v3))), .int (σ.AI a_16 (Int32.toNatClampNeg ((16 * v2) + v3)))]) (index := 356) (C := RX12) (T := TX12) (xE_12 c_1) rfl wd_962 wd_963 (wG_in (List.mem_append_left _ (List.mem_of_getElem? (i := 102) rfl)) rfl) xw_X12_printNamed rfl (by decide) rfl rfl dX12_longInstanceOut_130) (ev_X12_printNamed hO hP h_20) xw_X12_printNamed rfl wd_198 dX12_longInstanceOut_130 (by decide) (by decide) (by simp [x_cat, x_catI, x_catJ])
        cases h
        exact x_callX z9 (evX_out rfl)
  · rw [if_neg c_4] at h
    refine ev_icmp_eq (x := (σ.AI a_2 (Int32.toNatClampNeg v2))) (y := (-1)) (tgt := 97) dX12_longInstanceOut_60 (by decide) (fun q9 => absurd q9 c_4) (fun _ => ?_)
    refine ev_aload_n (j := 0) (x := (some a0)) dX12_longInstanceOut_63 rfl rfl ?_
    refine ev_iload_n (j := 1) (x := v1) dX12_longInstanceOut_64 rfl rfl ?_
    refine ev_aload_n (j := 0) (x := (some a0)) dX12_longInstanceOut_65 rfl rfl ?_
    refine ev_get (C := RX12) (T := TX12) (k := 10) inX12 (xE_12 c_1) rfl (by decide) wd_157 (Or.inl rfl) rfl dX12_longInstanceOut_66 ?_
    refine ev_bipush (v := 16) dX12_longInstanceOut_69 (by decide) ?_
    refine ev_aload_n (j := 0) (x := (some a0)) dX12_longInstanceOut_71 rfl rfl ?_
    refine ev_aload_n (j := 0) (x := (some a0)) dX12_longInstanceOut_72 rfl rfl ?_
    refine ev_get (C := RX12) (T := TX12) (k := 28) inX12 (xE_12 c_1) rfl (by decide) wd_176 (Or.inl rfl) rfl dX12_longInstanceOut_73 ?_
    refine ev_iload_n (j := 2) (x := v2) dX12_longInstanceOut_76 rfl rfl ?_
    refine ev_at (st' := [.int v2, va_rf (some a_2), va_rf (some a0), .int 16, va_rf (σ.R 1110 a0), .int v1, va_rf (some a0)]) rfl (by rw [ea_2]) ?_
    refine ev_iald_31 c_3.1 c_3.2 dX12_longInstanceOut_77 ?_
    rcases x_bind_e h with ⟨v_22, σ_23, h_24, h⟩ | ⟨E_37, σ_23, h_24, h⟩
    · have z9 := x_call (M := mX12_longInstanceOut) (M' := mX12_of) (pc := 78) (st := [.int (σ.AI a_2 (Int32.toNatClampNeg v2)), va_rf (some a0), .int 16, va_rf (σ.R 1110 a0), .int v1, va_rf (some a0)]) (rest := [.int 16, va_rf (σ.R 1110 a0), .int v1, va_rf (some a0)]) (av := [va_rf (some a0), .int (σ.AI a_2 (Int32.toNatClampNeg v2))]) (x_linkV (M := mX12_longInstanceOut) (M' := mX12_of) (As := [.int (σ.AI a_2 (Int32.toNatClampNeg v2))]) (index := 311) (C := RX12) (T := TX12) (xE_12 c_1) rfl wd_811 wd_812 (wG_in (List.mem_append_left _ (List.mem_of_getElem? (i := 86) rfl)) rfl) xw_X12_of rfl (by decide) rfl rfl dX12_longInstanceOut_78) (ev_X12_of hO hP h_24) xw_X12_of rfl wd_198 dX12_longInstanceOut_78 (by decide) (by decide) (by simp [x_cat, x_catI, x_catJ])
      refine x_callR z9 ?_
      refine ev_at (st' := [.int v_22, .int 16, va_rf (σ.R 1110 a0), .int v1, va_rf (some a0)]) rfl rfl ?_
      refine ev_imul (x := 16) (y := v_22) dX12_longInstanceOut_81 ?_
      refine ev_iload_n (j := 3) (x := v3) dX12_longInstanceOut_82 rfl rfl ?_
      refine ev_iadd (x := (16 * v_22)) (y := v3) dX12_longInstanceOut_83 ?_
      obtain ⟨a_25, ea_25, h⟩ := x_some_e h
      refine ev_at (st' := [.int ((16 * v_22) + v3), va_rf (some a_25), .int v1, va_rf (some a0)]) rfl (by rw [ea_25]) ?_
      obtain ⟨c_26, h⟩ := x_chk_e h
      refine ev_iald_31 c_26.1 c_26.2 dX12_longInstanceOut_84 ?_
      refine ev_aload_n (j := 0) (x := (some a0)) dX12_longInstanceOut_85 rfl rfl ?_
      refine ev_iload_n (j := 2) (x := v2) dX12_longInstanceOut_86 rfl rfl ?_
      refine ev_iload_n (j := 3) (x := v3) dX12_longInstanceOut_87 rfl rfl ?_
      obtain ⟨c_30, h⟩ := x_chk_e h
      rcases x_bind_e h with ⟨v_27, σ_28, h_29, h⟩ | ⟨E_36, σ_28, h_29, h⟩
      · have z9 := x_call (M := mX12_longInstanceOut) (M' := mX12_linkOf) (pc := 88) (st := [.int v3, .int v2, va_rf (some a0), .int (σ_23.AI a_25 (Int32.toNatClampNeg ((16 * v_22) + v3))), .int v1, va_rf (some a0)]) (rest := [.int (σ_23.AI a_25 (Int32.toNatClampNeg ((16 * v_22) + v3))), .int v1, va_rf (some a0)]) (av := [va_rf (some a0), .int v2, .int v3]) (x_linkV (M := mX12_longInstanceOut) (M' := mX12_linkOf) (As := [.int v2, .int v3]) (index := 329) (C := RX12) (T := TX12) (xE_12 c_30) rfl wd_840 wd_841 (wG_in (List.mem_append_left _ (List.mem_of_getElem? (i := 91) rfl)) rfl) xw_X12_linkOf rfl (by decide) rfl rfl dX12_longInstanceOut_88) (ev_X12_linkOf hO hP h_29) xw_X12_linkOf rfl wd_198 dX12_longInstanceOut_88 (by decide) (by decide) (by simp [x_cat, x_catI, x_catJ])
        refine x_callR z9 ?_
        refine ev_at (st' := [.int v_27, .int (σ_23.AI a_25 (Int32.toNatClampNeg ((16 * v_22) + v3))), .int v1, va_rf (some a0)]) rfl rfl ?_
        obtain ⟨c_34, h⟩ := x_chk_e h
        rcases x_bind_e h with ⟨v_31, σ_32, h_33, h⟩ | ⟨E_35, σ_32, h_33, h⟩
        · have z9 := x_call (M := mX12_longInstanceOut) (M' := mX12_printNamed) (pc := 91) (st := [.int v_27, .int (σ_23.AI a_25 (Int32.toNatClampNeg ((16 * v_22) + v3))), .int v1, va_rf (some a0)]) (rest := []) (av := [va_rf (some a0), .int v1, .int (σ_23.AI a_25 (Int32.toNatClampNeg ((16 * v_22) + v3))), .int v_27]) (x_linkV (M := mX12_longInstanceOut) (M' := mX12_printNamed) (As := [.int v1, .int (σ_23.AI a_25 (Int32.toNatClampNeg ((16 * v_22) + v3))), .int v_27]) (index := 356) (C := RX12) (T := TX12) (xE_12 c_34) rfl wd_962 wd_963 (wG_in (List.mem_append_left _ (List.mem_of_getElem? (i := 102) rfl)) rfl) xw_X12_printNamed rfl (by decide) rfl rfl dX12_longInstanceOut_91) (ev_X12_printNamed hO hP h_33) xw_X12_printNamed rfl wd_198 dX12_longInstanceOut_91 (by decide) (by decide) (by simp [x_cat, x_catI, x_catJ])
          refine x_callR z9 ?_
          refine ev_at (st' := []) rfl rfl ?_
          refine ev_goto (tgt := 153) dX12_longInstanceOut_94 (by decide) ?_
          exact ev_sub [0, 1, 2, 3] rfl (ev_X12_longInstanceOut_p153 hO hP hk34 h)
        · have z9 := x_call (M := mX12_longInstanceOut) (M' := mX12_printNamed) (pc := 91) (st := [.int v_27, .int (σ_23.AI a_25 (Int32.toNatClampNeg ((16 * v_22) + v3))), .int v1, va_rf (some a0)]) (rest := []) (av := [va_rf (some a0), .int v1, .int (σ_23.AI a_25 (Int32.toNatClampNeg ((16 * v_22) + v3))), .int v_27]) (x_linkV (M := mX12_longInstanceOut) (M' := mX12_printNamed) (As := [.int v1, .int (σ_23.AI a_25 (Int32.toNatClampNeg ((16 * v_22) + v3))), .int v_27]) (index := 356) (C := RX12) (T := TX12) (xE_12 c_34) rfl wd_962 wd_963 (wG_in (List.mem_append_left _ (List.mem_of_getElem? (i := 102) rfl)) rfl) xw_X12_printNamed rfl (by decide) rfl rfl dX12_longInstanceOut_91) (ev_X12_printNamed hO hP h_33) xw_X12_printNamed rfl wd_198 dX12_longInstanceOut_91 (by decide) (by decide) (by simp [x_cat, x_catI, x_catJ])
          cases h
          exact x_callX z9 (evX_out rfl)
      · have z9 := x_call (M := mX12_longInstanceOut) (M' := mX12_linkOf) (pc := 88) (st := [.int v3, .int v2, va_rf (some a0), .int (σ_23.AI a_25 (Int32.toNatClampNeg ((16 * v_22) + v3))), .int v1, va_rf (some a0)]) (rest := [.int (σ_23.AI a_25 (Int32.toNatClampNeg ((16 * v_22) + v3))), .int v1, va_rf (some a0)]) (av := [va_rf (some a0), .int v2, .int v3]) (x_linkV (M := mX12_longInstanceOut) (M' := mX12_linkOf) (As := [.int v2, .int v3]) (index := 329) (C := RX12) (T := TX12) (xE_12 c_30) rfl wd_840 wd_841 (wG_in (List.mem_append_left _ (List.mem_of_getElem? (i := 91) rfl)) rfl) xw_X12_linkOf rfl (by decide) rfl rfl dX12_longInstanceOut_88) (ev_X12_linkOf hO hP h_29) xw_X12_linkOf rfl wd_198 dX12_longInstanceOut_88 (by decide) (by decide) (by simp [x_cat, x_catI, x_catJ])
        cases h
        exact x_callX z9 (evX_out rfl)
    · have z9 := x_call (M := mX12_longInstanceOut) (M' := mX12_of) (pc := 78) (st := [.int (σ.AI a_2 (Int32.toNatClampNeg v2)), va_rf (some a0), .int 16, va_rf (σ.R 1110 a0), .int v1, va_rf (some a0)]) (rest := [.int 16, va_rf (σ.R 1110 a0), .int v1, va_rf (some a0)]) (av := [va_rf (some a0), .int (σ.AI a_2 (Int32.toNatClampNeg v2))]) (x_linkV (M := mX12_longInstanceOut) (M' := mX12_of) (As := [.int (σ.AI a_2 (Int32.toNatClampNeg v2))]) (index := 311) (C := RX12) (T := TX12) (xE_12 c_1) rfl wd_811 wd_812 (wG_in (List.mem_append_left _ (List.mem_of_getElem? (i := 86) rfl)) rfl) xw_X12_of rfl (by decide) rfl rfl dX12_longInstanceOut_78) (ev_X12_of hO hP h_24) xw_X12_of rfl wd_198 dX12_longInstanceOut_78 (by decide) (by decide) (by simp [x_cat, x_catI, x_catJ])
      cases h
      exact x_callX z9 (evX_out rfl)
set_option maxHeartbeats 4000000 in
set_option maxRecDepth 100000 in
theorem ev_X12_longInstanceOut_L34 {l : Launch} {G : xG} (hO : x_OK l G) {P : xP} (hP : x_PG P G) {a0 : Nat} : ∀ (n : Nat) {v1 : Int32} {v2 : Int32} {v3 : Int32} {σ σ' : xS} {rr : Unit ⊕ String}, dm_X12_longInstanceOut_L34 P a0 n v1 v2 v3 σ = some (rr, σ') → Ev l G mX12_longInstanceOut 34 [(0, va_rf (some a0)), (1, .int v1), (2, .int v2), (3, .int v3)] [] σ (xrV rr) σ' := by
  intro n
  induction n with
  | zero => intro v1 v2 v3 σ σ' rr h; cases h
  | succ n ih =>
    intro v1 v2 v3 σ σ' rr h
    rw [dm_X12_longInstanceOut_L34] at h
    refine ev_iload_n (j := 3) (x := v3) dX12_longInstanceOut_34 rfl rfl ?_
    refine ev_aload_n (j := 0) (x := (some a0)) dX12_longInstanceOut_35 rfl rfl ?_
    refine ev_iload_n (j := 2) (x := v2) dX12_longInstanceOut_36 rfl rfl ?_
    obtain ⟨c_4, h⟩ := x_chk_e h
    rcases x_bind_e h with ⟨v_1, σ_2, h_3, h⟩ | ⟨E_22, σ_2, h_3, h⟩
    · have z9 := x_call (M := mX12_longInstanceOut) (M' := mX12_pins) (pc := 37) (st := [.int v2, va_rf (some a0), .int v3]) (rest := [.int v3]) (av := [va_rf (some a0), .int v2]) (x_linkV (M := mX12_longInstanceOut) (M' := mX12_pins) (As := [.int v2]) (index := 320) (C := RX12) (T := TX12) (xE_12 c_4) rfl wd_831 wd_832 (wG_in (List.mem_append_left _ (List.mem_of_getElem? (i := 89) rfl)) rfl) xw_X12_pins rfl (by decide) rfl rfl dX12_longInstanceOut_37) (ev_X12_pins hO hP h_3) xw_X12_pins rfl wd_198 dX12_longInstanceOut_37 (by decide) (by decide) (by simp [x_cat, x_catI, x_catJ])
      refine x_callR z9 ?_
      refine ev_at (st' := [.int v_1, .int v3]) rfl rfl ?_
      by_cases c_5 : v_1 ≤ v3
      · rw [if_pos c_5] at h
        refine ev_icmp_ge (x := v3) (y := v_1) (tgt := 159) dX12_longInstanceOut_40 (by decide) (fun _ => ?_) (fun q9 => absurd c_5 q9)
        refine ev_aload_n (j := 0) (x := (some a0)) dX12_longInstanceOut_159 rfl rfl ?_
        refine ev_bipush (v := 41) dX12_longInstanceOut_160 (by decide) ?_
        obtain ⟨c_9, h⟩ := x_chk_e h
        rcases x_bind_e h with ⟨v_6, σ_7, h_8, h⟩ | ⟨E_15, σ_7, h_8, h⟩
        · have z9 := x_call (M := mX12_longInstanceOut) (M' := mX12_print) (pc := 162) (st := [.int 41, va_rf (some a0)]) (rest := []) (av := [va_rf (some a0), .int 41]) (x_linkV (M := mX12_longInstanceOut) (M' := mX12_print) (As := [.int 41]) (index := 344) (C := RX12) (T := TX12) (xE_12 c_9) rfl wd_944 wd_945 (wG_in (List.mem_append_left _ (List.mem_of_getElem? (i := 96) rfl)) rfl) xw_X12_print rfl (by decide) rfl rfl dX12_longInstanceOut_162) (ev_X12_print hO hP h_8) xw_X12_print rfl wd_198 dX12_longInstanceOut_162 (by decide) (by decide) (by simp [x_cat, x_catI, x_catJ])
          refine x_callR z9 ?_
          refine ev_at (st' := []) rfl rfl ?_
          refine ev_aload_n (j := 0) (x := (some a0)) dX12_longInstanceOut_165 rfl rfl ?_
          obtain ⟨c_13, h⟩ := x_chk_e h
          rcases x_bind_e h with ⟨v_10, σ_11, h_12, h⟩ | ⟨E_14, σ_11, h_12, h⟩
          · have z9 := x_call (M := mX12_longInstanceOut) (M' := mX12_printEnd) (pc := 166) (st := [va_rf (some a0)]) (rest := []) (av := [va_rf (some a0)]) (x_linkV (M := mX12_longInstanceOut) (M' := mX12_printEnd) (As := []) (index := 363) (C := RX12) (T := TX12) (xE_12 c_13) rfl wd_956 wd_957 (wG_in (List.mem_append_left _ (List.mem_of_getElem? (i := 98) rfl)) rfl) xw_X12_printEnd rfl (by decide) rfl rfl dX12_longInstanceOut_166) (ev_X12_printEnd hO hP h_12) xw_X12_printEnd rfl wd_198 dX12_longInstanceOut_166 (by decide) (by decide) (by simp [x_cat, x_catI, x_catJ])
            refine x_callR z9 ?_
            refine ev_at (st' := []) rfl rfl ?_
            cases h
            exact ev_vret rfl dX12_longInstanceOut_169
          · have z9 := x_call (M := mX12_longInstanceOut) (M' := mX12_printEnd) (pc := 166) (st := [va_rf (some a0)]) (rest := []) (av := [va_rf (some a0)]) (x_linkV (M := mX12_longInstanceOut) (M' := mX12_printEnd) (As := []) (index := 363) (C := RX12) (T := TX12) (xE_12 c_13) rfl wd_956 wd_957 (wG_in (List.mem_append_left _ (List.mem_of_getElem? (i := 98) rfl)) rfl) xw_X12_printEnd rfl (by decide) rfl rfl dX12_longInstanceOut_166) (ev_X12_printEnd hO hP h_12) xw_X12_printEnd rfl wd_198 dX12_longInstanceOut_166 (by decide) (by decide) (by simp [x_cat, x_catI, x_catJ])
            cases h
            exact x_callX z9 (evX_out rfl)
        · have z9 := x_call (M := mX12_longInstanceOut) (M' := mX12_print) (pc := 162) (st := [.int 41, va_rf (some a0)]) (rest := []) (av := [va_rf (some a0), .int 41]) (x_linkV (M := mX12_longInstanceOut) (M' := mX12_print) (As := [.int 41]) (index := 344) (C := RX12) (T := TX12) (xE_12 c_9) rfl wd_944 wd_945 (wG_in (List.mem_append_left _ (List.mem_of_getElem? (i := 96) rfl)) rfl) xw_X12_print rfl (by decide) rfl rfl dX12_longInstanceOut_162) (ev_X12_print hO hP h_8) xw_X12_print rfl wd_198 dX12_longInstanceOut_162 (by decide) (by decide) (by simp [x_cat, x_catI, x_catJ])
          cases h
          exact x_callX z9 (evX_out rfl)
      · rw [if_neg c_5] at h
        refine ev_icmp_ge (x := v3) (y := v_1) (tgt := 159) dX12_longInstanceOut_40 (by decide) (fun q9 => absurd q9 c_5) (fun _ => ?_)
        refine ev_iload_n (j := 3) (x := v3) dX12_longInstanceOut_43 rfl rfl ?_
        by_cases c_16 : v3 ≤ 0
        · rw [if_pos c_16] at h
          refine ev_if_le (x := v3) (tgt := 53) dX12_longInstanceOut_44 (by decide) (fun _ => ?_) (fun q9 => absurd c_16 q9)
          exact ev_sub [0, 1, 2, 3] rfl (ev_X12_longInstanceOut_p53 hO hP ih h)
        · rw [if_neg c_16] at h
          refine ev_if_le (x := v3) (tgt := 53) dX12_longInstanceOut_44 (by decide) (fun q9 => absurd q9 c_16) (fun _ => ?_)
          refine ev_aload_n (j := 0) (x := (some a0)) dX12_longInstanceOut_47 rfl rfl ?_
          refine ev_bipush (v := 44) dX12_longInstanceOut_48 (by decide) ?_
          obtain ⟨c_20, h⟩ := x_chk_e h
          rcases x_bind_e h with ⟨v_17, σ_18, h_19, h⟩ | ⟨E_21, σ_18, h_19, h⟩
          · have z9 := x_call (M := mX12_longInstanceOut) (M' := mX12_print) (pc := 50) (st := [.int 44, va_rf (some a0)]) (rest := []) (av := [va_rf (some a0), .int 44]) (x_linkV (M := mX12_longInstanceOut) (M' := mX12_print) (As := [.int 44]) (index := 344) (C := RX12) (T := TX12) (xE_12 c_20) rfl wd_944 wd_945 (wG_in (List.mem_append_left _ (List.mem_of_getElem? (i := 96) rfl)) rfl) xw_X12_print rfl (by decide) rfl rfl dX12_longInstanceOut_50) (ev_X12_print hO hP h_19) xw_X12_print rfl wd_198 dX12_longInstanceOut_50 (by decide) (by decide) (by simp [x_cat, x_catI, x_catJ])
            refine x_callR z9 ?_
            refine ev_at (st' := []) rfl rfl ?_
            exact ev_sub [0, 1, 2, 3] rfl (ev_X12_longInstanceOut_p53 hO hP ih h)
          · have z9 := x_call (M := mX12_longInstanceOut) (M' := mX12_print) (pc := 50) (st := [.int 44, va_rf (some a0)]) (rest := []) (av := [va_rf (some a0), .int 44]) (x_linkV (M := mX12_longInstanceOut) (M' := mX12_print) (As := [.int 44]) (index := 344) (C := RX12) (T := TX12) (xE_12 c_20) rfl wd_944 wd_945 (wG_in (List.mem_append_left _ (List.mem_of_getElem? (i := 96) rfl)) rfl) xw_X12_print rfl (by decide) rfl rfl dX12_longInstanceOut_50) (ev_X12_print hO hP h_19) xw_X12_print rfl wd_198 dX12_longInstanceOut_50 (by decide) (by decide) (by simp [x_cat, x_catI, x_catJ])
            cases h
            exact x_callX z9 (evX_out rfl)
    · have z9 := x_call (M := mX12_longInstanceOut) (M' := mX12_pins) (pc := 37) (st := [.int v2, va_rf (some a0), .int v3]) (rest := [.int v3]) (av := [va_rf (some a0), .int v2]) (x_linkV (M := mX12_longInstanceOut) (M' := mX12_pins) (As := [.int v2]) (index := 320) (C := RX12) (T := TX12) (xE_12 c_4) rfl wd_831 wd_832 (wG_in (List.mem_append_left _ (List.mem_of_getElem? (i := 89) rfl)) rfl) xw_X12_pins rfl (by decide) rfl rfl dX12_longInstanceOut_37) (ev_X12_pins hO hP h_3) xw_X12_pins rfl wd_198 dX12_longInstanceOut_37 (by decide) (by decide) (by simp [x_cat, x_catI, x_catJ])
      cases h
      exact x_callX z9 (evX_out rfl)
set_option maxHeartbeats 4000000 in
set_option maxRecDepth 100000 in
theorem ev_X12_longInstanceOut {l : Launch} {G : xG} (hO : x_OK l G) {P : xP} (hP : x_PG P G) {a0 : Nat} {v1 : Int32} {v2 : Int32} {σ σ' : xS} {rr : Unit ⊕ String} (h : dm_X12_longInstanceOut P a0 v1 v2 σ = some (rr, σ')) : EvM l G mX12_longInstanceOut [va_rf (some a0), .int v1, .int v2] σ (xrV rr) σ' := by
  unfold dm_X12_longInstanceOut at h
  refine evM_of hO (by decide +kernel) (x_lenI (by simp [x_cat, x_catI, x_catJ, mX12_longInstanceOut, xM.maxL])) ?_
  refine Eq.mp (congrArg (fun z => Ev l G mX12_longInstanceOut 0 z [] σ (xrV rr) σ') (show [(0, va_rf (some a0)), (1, .int v1), (2, .int v2)] = lv_args 0 [va_rf (some a0), .int v1, .int v2] by simp [lv_args, x_cat, x_catI, x_catJ])) ?_
  refine ev_aload_n (j := 0) (x := (some a0)) dX12_longInstanceOut_0 rfl rfl ?_
  refine ev_aload_n (j := 0) (x := (some a0)) dX12_longInstanceOut_1 rfl rfl ?_
  obtain ⟨c_1, h⟩ := x_chk_e h
  refine ev_get (C := RX12) (T := TX12) (k := 25) inX12 (xE_12 c_1) rfl (by decide) wd_173 (Or.inl rfl) rfl dX12_longInstanceOut_2 ?_
  refine ev_iload_n (j := 2) (x := v2) dX12_longInstanceOut_5 rfl rfl ?_
  obtain ⟨a_2, ea_2, h⟩ := x_some_e h
  refine ev_at (st' := [.int v2, va_rf (some a_2), va_rf (some a0)]) rfl (by rw [ea_2]) ?_
  obtain ⟨c_3, h⟩ := x_chk_e h
  refine ev_iald_31 c_3.1 c_3.2 dX12_longInstanceOut_6 ?_
  rcases x_bind_e h with ⟨v_4, σ_5, h_6, h⟩ | ⟨E_24, σ_5, h_6, h⟩
  · have z9 := x_call (M := mX12_longInstanceOut) (M' := mX12_printName) (pc := 7) (st := [.int (σ.AI a_2 (Int32.toNatClampNeg v2)), va_rf (some a0)]) (rest := []) (av := [va_rf (some a0), .int (σ.AI a_2 (Int32.toNatClampNeg v2))]) (x_linkV (M := mX12_longInstanceOut) (M' := mX12_printName) (As := [.int (σ.AI a_2 (Int32.toNatClampNeg v2))]) (index := 350) (C := RX12) (T := TX12) (xE_12 c_1) rfl wd_947 wd_948 (wG_in (List.mem_append_left _ (List.mem_of_getElem? (i := 97) rfl)) rfl) xw_X12_printName rfl (by decide) rfl rfl dX12_longInstanceOut_7) (ev_X12_printName hO hP h_6) xw_X12_printName rfl wd_198 dX12_longInstanceOut_7 (by decide) (by decide) (by simp [x_cat, x_catI, x_catJ])
    refine x_callR z9 ?_
    refine ev_at (st' := []) rfl rfl ?_
    refine ev_aload_n (j := 0) (x := (some a0)) dX12_longInstanceOut_10 rfl rfl ?_
    refine ev_bipush (v := 32) dX12_longInstanceOut_11 (by decide) ?_
    obtain ⟨c_10, h⟩ := x_chk_e h
    rcases x_bind_e h with ⟨v_7, σ_8, h_9, h⟩ | ⟨E_23, σ_8, h_9, h⟩
    · have z9 := x_call (M := mX12_longInstanceOut) (M' := mX12_print) (pc := 13) (st := [.int 32, va_rf (some a0)]) (rest := []) (av := [va_rf (some a0), .int 32]) (x_linkV (M := mX12_longInstanceOut) (M' := mX12_print) (As := [.int 32]) (index := 344) (C := RX12) (T := TX12) (xE_12 c_10) rfl wd_944 wd_945 (wG_in (List.mem_append_left _ (List.mem_of_getElem? (i := 96) rfl)) rfl) xw_X12_print rfl (by decide) rfl rfl dX12_longInstanceOut_13) (ev_X12_print hO hP h_9) xw_X12_print rfl wd_198 dX12_longInstanceOut_13 (by decide) (by decide) (by simp [x_cat, x_catI, x_catJ])
      refine x_callR z9 ?_
      refine ev_at (st' := []) rfl rfl ?_
      refine ev_aload_n (j := 0) (x := (some a0)) dX12_longInstanceOut_16 rfl rfl ?_
      refine ev_aload_n (j := 0) (x := (some a0)) dX12_longInstanceOut_17 rfl rfl ?_
      obtain ⟨c_11, h⟩ := x_chk_e h
      refine ev_get (C := RX12) (T := TX12) (k := 26) inX12 (xE_12 c_11) rfl (by decide) wd_174 (Or.inl rfl) rfl dX12_longInstanceOut_18 ?_
      refine ev_iload_n (j := 2) (x := v2) dX12_longInstanceOut_21 rfl rfl ?_
      obtain ⟨a_12, ea_12, h⟩ := x_some_e h
      refine ev_at (st' := [.int v2, va_rf (some a_12), va_rf (some a0)]) rfl (by rw [ea_12]) ?_
      obtain ⟨c_13, h⟩ := x_chk_e h
      refine ev_iald_31 c_13.1 c_13.2 dX12_longInstanceOut_22 ?_
      rcases x_bind_e h with ⟨v_14, σ_15, h_16, h⟩ | ⟨E_22, σ_15, h_16, h⟩
      · have z9 := x_call (M := mX12_longInstanceOut) (M' := mX12_printName) (pc := 23) (st := [.int (σ_8.AI a_12 (Int32.toNatClampNeg v2)), va_rf (some a0)]) (rest := []) (av := [va_rf (some a0), .int (σ_8.AI a_12 (Int32.toNatClampNeg v2))]) (x_linkV (M := mX12_longInstanceOut) (M' := mX12_printName) (As := [.int (σ_8.AI a_12 (Int32.toNatClampNeg v2))]) (index := 350) (C := RX12) (T := TX12) (xE_12 c_11) rfl wd_947 wd_948 (wG_in (List.mem_append_left _ (List.mem_of_getElem? (i := 97) rfl)) rfl) xw_X12_printName rfl (by decide) rfl rfl dX12_longInstanceOut_23) (ev_X12_printName hO hP h_16) xw_X12_printName rfl wd_198 dX12_longInstanceOut_23 (by decide) (by decide) (by simp [x_cat, x_catI, x_catJ])
        refine x_callR z9 ?_
        refine ev_at (st' := []) rfl rfl ?_
        refine ev_aload_n (j := 0) (x := (some a0)) dX12_longInstanceOut_26 rfl rfl ?_
        refine ev_bipush (v := 40) dX12_longInstanceOut_27 (by decide) ?_
        obtain ⟨c_20, h⟩ := x_chk_e h
        rcases x_bind_e h with ⟨v_17, σ_18, h_19, h⟩ | ⟨E_21, σ_18, h_19, h⟩
        · have z9 := x_call (M := mX12_longInstanceOut) (M' := mX12_print) (pc := 29) (st := [.int 40, va_rf (some a0)]) (rest := []) (av := [va_rf (some a0), .int 40]) (x_linkV (M := mX12_longInstanceOut) (M' := mX12_print) (As := [.int 40]) (index := 344) (C := RX12) (T := TX12) (xE_12 c_20) rfl wd_944 wd_945 (wG_in (List.mem_append_left _ (List.mem_of_getElem? (i := 96) rfl)) rfl) xw_X12_print rfl (by decide) rfl rfl dX12_longInstanceOut_29) (ev_X12_print hO hP h_19) xw_X12_print rfl wd_198 dX12_longInstanceOut_29 (by decide) (by decide) (by simp [x_cat, x_catI, x_catJ])
          refine x_callR z9 ?_
          refine ev_at (st' := []) rfl rfl ?_
          refine ev_iconst (v := 0) dX12_longInstanceOut_32 (by decide) ?_
          refine ev_istore_n (i := 3) (lv' := [(3, .int 0), (0, va_rf (some a0)), (1, .int v1), (2, .int v2)]) dX12_longInstanceOut_33 rfl (by decide) rfl ?_
          exact ev_sub [1, 2, 3, 0] rfl (ev_X12_longInstanceOut_L34 hO hP P.N h)
        · have z9 := x_call (M := mX12_longInstanceOut) (M' := mX12_print) (pc := 29) (st := [.int 40, va_rf (some a0)]) (rest := []) (av := [va_rf (some a0), .int 40]) (x_linkV (M := mX12_longInstanceOut) (M' := mX12_print) (As := [.int 40]) (index := 344) (C := RX12) (T := TX12) (xE_12 c_20) rfl wd_944 wd_945 (wG_in (List.mem_append_left _ (List.mem_of_getElem? (i := 96) rfl)) rfl) xw_X12_print rfl (by decide) rfl rfl dX12_longInstanceOut_29) (ev_X12_print hO hP h_19) xw_X12_print rfl wd_198 dX12_longInstanceOut_29 (by decide) (by decide) (by simp [x_cat, x_catI, x_catJ])
          cases h
          exact x_callX z9 (evX_out rfl)
      · have z9 := x_call (M := mX12_longInstanceOut) (M' := mX12_printName) (pc := 23) (st := [.int (σ_8.AI a_12 (Int32.toNatClampNeg v2)), va_rf (some a0)]) (rest := []) (av := [va_rf (some a0), .int (σ_8.AI a_12 (Int32.toNatClampNeg v2))]) (x_linkV (M := mX12_longInstanceOut) (M' := mX12_printName) (As := [.int (σ_8.AI a_12 (Int32.toNatClampNeg v2))]) (index := 350) (C := RX12) (T := TX12) (xE_12 c_11) rfl wd_947 wd_948 (wG_in (List.mem_append_left _ (List.mem_of_getElem? (i := 97) rfl)) rfl) xw_X12_printName rfl (by decide) rfl rfl dX12_longInstanceOut_23) (ev_X12_printName hO hP h_16) xw_X12_printName rfl wd_198 dX12_longInstanceOut_23 (by decide) (by decide) (by simp [x_cat, x_catI, x_catJ])
        cases h
        exact x_callX z9 (evX_out rfl)
    · have z9 := x_call (M := mX12_longInstanceOut) (M' := mX12_print) (pc := 13) (st := [.int 32, va_rf (some a0)]) (rest := []) (av := [va_rf (some a0), .int 32]) (x_linkV (M := mX12_longInstanceOut) (M' := mX12_print) (As := [.int 32]) (index := 344) (C := RX12) (T := TX12) (xE_12 c_10) rfl wd_944 wd_945 (wG_in (List.mem_append_left _ (List.mem_of_getElem? (i := 96) rfl)) rfl) xw_X12_print rfl (by decide) rfl rfl dX12_longInstanceOut_13) (ev_X12_print hO hP h_9) xw_X12_print rfl wd_198 dX12_longInstanceOut_13 (by decide) (by decide) (by simp [x_cat, x_catI, x_catJ])
      cases h
      exact x_callX z9 (evX_out rfl)
  · have z9 := x_call (M := mX12_longInstanceOut) (M' := mX12_printName) (pc := 7) (st := [.int (σ.AI a_2 (Int32.toNatClampNeg v2)), va_rf (some a0)]) (rest := []) (av := [va_rf (some a0), .int (σ.AI a_2 (Int32.toNatClampNeg v2))]) (x_linkV (M := mX12_longInstanceOut) (M' := mX12_printName) (As := [.int (σ.AI a_2 (Int32.toNatClampNeg v2))]) (index := 350) (C := RX12) (T := TX12) (xE_12 c_1) rfl wd_947 wd_948 (wG_in (List.mem_append_left _ (List.mem_of_getElem? (i := 97) rfl)) rfl) xw_X12_printName rfl (by decide) rfl rfl dX12_longInstanceOut_7) (ev_X12_printName hO hP h_6) xw_X12_printName rfl wd_198 dX12_longInstanceOut_7 (by decide) (by decide) (by simp [x_cat, x_catI, x_catJ])
    cases h
    exact x_callX z9 (evX_out rfl)
set_option maxHeartbeats 4000000 in
set_option maxRecDepth 100000 in
theorem ev_X12_longOut_p61 {l : Launch} {G : xG} (hO : x_OK l G) {P : xP} (hP : x_PG P G) {a0 : Nat} {k41 : Int32 → Int32 → xS → xO Unit} (hk41 : ∀ {v1 : Int32} {v2 : Int32} {σ σ' : xS} {rr : Unit ⊕ String}, k41 v1 v2 σ = some (rr, σ') → Ev l G mX12_longOut 41 [(0, va_rf (some a0)), (1, .int v1), (2, .int v2)] [] σ (xrV rr) σ') {v1 : Int32} {v2 : Int32} {σ σ' : xS} {rr : Unit ⊕ String} (h : dm_X12_longOut_p61 P k41 a0 v1 v2 σ = some (rr, σ')) : Ev l G mX12_longOut 61 [(0, va_rf (some a0)), (1, .int v1), (2, .int v2)] [] σ (xrV rr) σ' := by
  unfold dm_X12_longOut_p61 at h
  refine ev_aload_n (j := 0) (x := (some a0)) dX12_longOut_61 rfl rfl ?_
  refine ev_aload_n (j := 0) (x := (some a0)) dX12_longOut_62 rfl rfl ?_
  obtain ⟨c_1, h⟩ := x_chk_e h
  refine ev_get (C := RX12) (T := TX12) (k := 10) inX12 (xE_12 c_1) rfl (by decide) wd_157 (Or.inl rfl) rfl dX12_longOut_63 ?_
  refine ev_bipush (v := 16) dX12_longOut_66 (by decide) ?_
  refine ev_iload_n (j := 1) (x := v1) dX12_longOut_68 rfl rfl ?_
  refine ev_imul (x := 16) (y := v1) dX12_longOut_69 ?_
  refine ev_iload_n (j := 2) (x := v2) dX12_longOut_70 rfl rfl ?_
  refine ev_iadd (x := (16 * v1)) (y := v2) dX12_longOut_71 ?_
  obtain ⟨a_2, ea_2, h⟩ := x_some_e h
  refine ev_at (st' := [.int ((16 * v1) + v2), va_rf (some a_2), va_rf (some a0)]) rfl (by rw [ea_2]) ?_
  obtain ⟨c_3, h⟩ := x_chk_e h
  refine ev_iald_31 c_3.1 c_3.2 dX12_longOut_72 ?_
  rcases x_bind_e h with ⟨v_4, σ_5, h_6, h⟩ | ⟨E_8, σ_5, h_6, h⟩
  · have z9 := x_call (M := mX12_longOut) (M' := mX12_printName) (pc := 73) (st := [.int (σ.AI a_2 (Int32.toNatClampNeg ((16 * v1) + v2))), va_rf (some a0)]) (rest := []) (av := [va_rf (some a0), .int (σ.AI a_2 (Int32.toNatClampNeg ((16 * v1) + v2)))]) (x_linkV (M := mX12_longOut) (M' := mX12_printName) (As := [.int (σ.AI a_2 (Int32.toNatClampNeg ((16 * v1) + v2)))]) (index := 350) (C := RX12) (T := TX12) (xE_12 c_1) rfl wd_947 wd_948 (wG_in (List.mem_append_left _ (List.mem_of_getElem? (i := 97) rfl)) rfl) xw_X12_printName rfl (by decide) rfl rfl dX12_longOut_73) (ev_X12_printName hO hP h_6) xw_X12_printName rfl wd_198 dX12_longOut_73 (by decide) (by decide) (by simp [x_cat, x_catI, x_catJ])
    refine x_callR z9 ?_
    refine ev_at (st' := []) rfl rfl ?_
    obtain ⟨v_7, ev_7, h⟩ := x_let_e h
    refine ev_iinc (j := 2) (x := v2) (v := v_7) (lv' := [(2, .int v_7), (0, va_rf (some a0)), (1, .int v1)]) dX12_longOut_76 rfl (by rw [ev_7]; rfl) (by decide) rfl ?_
    refine ev_goto (tgt := 41) dX12_longOut_79 (by decide) ?_
    exact ev_sub [1, 2, 0] rfl (hk41 h)
  · have z9 := x_call (M := mX12_longOut) (M' := mX12_printName) (pc := 73) (st := [.int (σ.AI a_2 (Int32.toNatClampNeg ((16 * v1) + v2))), va_rf (some a0)]) (rest := []) (av := [va_rf (some a0), .int (σ.AI a_2 (Int32.toNatClampNeg ((16 * v1) + v2)))]) (x_linkV (M := mX12_longOut) (M' := mX12_printName) (As := [.int (σ.AI a_2 (Int32.toNatClampNeg ((16 * v1) + v2)))]) (index := 350) (C := RX12) (T := TX12) (xE_12 c_1) rfl wd_947 wd_948 (wG_in (List.mem_append_left _ (List.mem_of_getElem? (i := 97) rfl)) rfl) xw_X12_printName rfl (by decide) rfl rfl dX12_longOut_73) (ev_X12_printName hO hP h_6) xw_X12_printName rfl wd_198 dX12_longOut_73 (by decide) (by decide) (by simp [x_cat, x_catI, x_catJ])
    cases h
    exact x_callX z9 (evX_out rfl)
set_option maxHeartbeats 4000000 in
set_option maxRecDepth 100000 in
theorem ev_X12_longOut_p241 {l : Launch} {G : xG} (hO : x_OK l G) {P : xP} (hP : x_PG P G) {a0 : Nat} {k94 : Int32 → Int32 → xS → xO Unit} (hk94 : ∀ {v1 : Int32} {v2 : Int32} {σ σ' : xS} {rr : Unit ⊕ String}, k94 v1 v2 σ = some (rr, σ') → Ev l G mX12_longOut 94 [(0, va_rf (some a0)), (1, .int v1), (2, .int v2)] [] σ (xrV rr) σ') {v1 : Int32} {v2 : Int32} {v3 : Int32} {σ σ' : xS} {rr : Unit ⊕ String} (h : dm_X12_longOut_p241 P k94 a0 v1 v2 v3 σ = some (rr, σ')) : Ev l G mX12_longOut 241 [(0, va_rf (some a0)), (1, .int v1), (2, .int v2), (3, .int v3)] [] σ (xrV rr) σ' := by
  unfold dm_X12_longOut_p241 at h
  refine ev_aload_n (j := 0) (x := (some a0)) dX12_longOut_241 rfl rfl ?_
  refine ev_aload_n (j := 0) (x := (some a0)) dX12_longOut_242 rfl rfl ?_
  obtain ⟨c_1, h⟩ := x_chk_e h
  refine ev_get (C := RX12) (T := TX12) (k := 10) inX12 (xE_12 c_1) rfl (by decide) wd_157 (Or.inl rfl) rfl dX12_longOut_243 ?_
  refine ev_iload_n (j := 3) (x := v3) dX12_longOut_246 rfl rfl ?_
  obtain ⟨a_2, ea_2, h⟩ := x_some_e h
  refine ev_at (st' := [.int v3, va_rf (some a_2), va_rf (some a0)]) rfl (by rw [ea_2]) ?_
  obtain ⟨c_3, h⟩ := x_chk_e h
  refine ev_iald_31 c_3.1 c_3.2 dX12_longOut_247 ?_
  rcases x_bind_e h with ⟨v_4, σ_5, h_6, h⟩ | ⟨E_13, σ_5, h_6, h⟩
  · have z9 := x_call (M := mX12_longOut) (M' := mX12_printName) (pc := 248) (st := [.int (σ.AI a_2 (Int32.toNatClampNeg v3)), va_rf (some a0)]) (rest := []) (av := [va_rf (some a0), .int (σ.AI a_2 (Int32.toNatClampNeg v3))]) (x_linkV (M := mX12_longOut) (M' := mX12_printName) (As := [.int (σ.AI a_2 (Int32.toNatClampNeg v3))]) (index := 350) (C := RX12) (T := TX12) (xE_12 c_1) rfl wd_947 wd_948 (wG_in (List.mem_append_left _ (List.mem_of_getElem? (i := 97) rfl)) rfl) xw_X12_printName rfl (by decide) rfl rfl dX12_longOut_248) (ev_X12_printName hO hP h_6) xw_X12_printName rfl wd_198 dX12_longOut_248 (by decide) (by decide) (by simp [x_cat, x_catI, x_catJ])
    refine x_callR z9 ?_
    refine ev_at (st' := []) rfl rfl ?_
    refine ev_aload_n (j := 0) (x := (some a0)) dX12_longOut_251 rfl rfl ?_
    obtain ⟨c_10, h⟩ := x_chk_e h
    rcases x_bind_e h with ⟨v_7, σ_8, h_9, h⟩ | ⟨E_12, σ_8, h_9, h⟩
    · have z9 := x_call (M := mX12_longOut) (M' := mX12_printEnd) (pc := 252) (st := [va_rf (some a0)]) (rest := []) (av := [va_rf (some a0)]) (x_linkV (M := mX12_longOut) (M' := mX12_printEnd) (As := []) (index := 363) (C := RX12) (T := TX12) (xE_12 c_10) rfl wd_956 wd_957 (wG_in (List.mem_append_left _ (List.mem_of_getElem? (i := 98) rfl)) rfl) xw_X12_printEnd rfl (by decide) rfl rfl dX12_longOut_252) (ev_X12_printEnd hO hP h_9) xw_X12_printEnd rfl wd_198 dX12_longOut_252 (by decide) (by decide) (by simp [x_cat, x_catI, x_catJ])
      refine x_callR z9 ?_
      refine ev_at (st' := []) rfl rfl ?_
      obtain ⟨v_11, ev_11, h⟩ := x_let_e h
      refine ev_iinc (j := 2) (x := v2) (v := v_11) (lv' := [(2, .int v_11), (0, va_rf (some a0)), (1, .int v1), (3, .int v3)]) dX12_longOut_255 rfl (by rw [ev_11]; rfl) (by decide) rfl ?_
      refine ev_goto (tgt := 94) dX12_longOut_258 (by decide) ?_
      exact ev_sub [1, 2, 0] rfl (hk94 h)
    · have z9 := x_call (M := mX12_longOut) (M' := mX12_printEnd) (pc := 252) (st := [va_rf (some a0)]) (rest := []) (av := [va_rf (some a0)]) (x_linkV (M := mX12_longOut) (M' := mX12_printEnd) (As := []) (index := 363) (C := RX12) (T := TX12) (xE_12 c_10) rfl wd_956 wd_957 (wG_in (List.mem_append_left _ (List.mem_of_getElem? (i := 98) rfl)) rfl) xw_X12_printEnd rfl (by decide) rfl rfl dX12_longOut_252) (ev_X12_printEnd hO hP h_9) xw_X12_printEnd rfl wd_198 dX12_longOut_252 (by decide) (by decide) (by simp [x_cat, x_catI, x_catJ])
      cases h
      exact x_callX z9 (evX_out rfl)
  · have z9 := x_call (M := mX12_longOut) (M' := mX12_printName) (pc := 248) (st := [.int (σ.AI a_2 (Int32.toNatClampNeg v3)), va_rf (some a0)]) (rest := []) (av := [va_rf (some a0), .int (σ.AI a_2 (Int32.toNatClampNeg v3))]) (x_linkV (M := mX12_longOut) (M' := mX12_printName) (As := [.int (σ.AI a_2 (Int32.toNatClampNeg v3))]) (index := 350) (C := RX12) (T := TX12) (xE_12 c_1) rfl wd_947 wd_948 (wG_in (List.mem_append_left _ (List.mem_of_getElem? (i := 97) rfl)) rfl) xw_X12_printName rfl (by decide) rfl rfl dX12_longOut_248) (ev_X12_printName hO hP h_6) xw_X12_printName rfl wd_198 dX12_longOut_248 (by decide) (by decide) (by simp [x_cat, x_catI, x_catJ])
    cases h
    exact x_callX z9 (evX_out rfl)
set_option maxHeartbeats 4000000 in
set_option maxRecDepth 100000 in
theorem ev_X12_longOut_p201 {l : Launch} {G : xG} (hO : x_OK l G) {P : xP} (hP : x_PG P G) {a0 : Nat} {k94 : Int32 → Int32 → xS → xO Unit} (hk94 : ∀ {v1 : Int32} {v2 : Int32} {σ σ' : xS} {rr : Unit ⊕ String}, k94 v1 v2 σ = some (rr, σ') → Ev l G mX12_longOut 94 [(0, va_rf (some a0)), (1, .int v1), (2, .int v2)] [] σ (xrV rr) σ') {v1 : Int32} {v2 : Int32} {v3 : Int32} {σ σ' : xS} {rr : Unit ⊕ String} (h : dm_X12_longOut_p201 P k94 a0 v1 v2 v3 σ = some (rr, σ')) : Ev l G mX12_longOut 201 [(0, va_rf (some a0)), (1, .int v1), (2, .int v2), (3, .int v3)] [] σ (xrV rr) σ' := by
  unfold dm_X12_longOut_p201 at h
  refine ev_aload_n (j := 0) (x := (some a0)) dX12_longOut_201 rfl rfl ?_
  obtain ⟨c_1, h⟩ := x_chk_e h
  refine ev_get (C := RX12) (T := TX12) (k := 12) inX12 (xE_12 c_1) rfl (by decide) wd_159 (Or.inl rfl) rfl dX12_longOut_202 ?_
  refine ev_iload_n (j := 3) (x := v3) dX12_longOut_205 rfl rfl ?_
  obtain ⟨a_2, ea_2, h⟩ := x_some_e h
  refine ev_at (st' := [.int v3, va_rf (some a_2)]) rfl (by rw [ea_2]) ?_
  obtain ⟨c_3, h⟩ := x_chk_e h
  refine ev_iald_31 c_3.1 c_3.2 dX12_longOut_206 ?_
  refine ev_iconst (v := 1) dX12_longOut_207 (by decide) ?_
  by_cases c_4 : (σ.AI a_2 (Int32.toNatClampNeg v3)) ≤ 1
  · rw [if_pos c_4] at h
    refine ev_icmp_le (x := (σ.AI a_2 (Int32.toNatClampNeg v3))) (y := 1) (tgt := 241) dX12_longOut_208 (by decide) (fun _ => ?_) (fun q9 => absurd c_4 q9)
    exact ev_sub [0, 1, 2, 3] rfl (ev_X12_longOut_p241 hO hP hk94 h)
  · rw [if_neg c_4] at h
    refine ev_icmp_le (x := (σ.AI a_2 (Int32.toNatClampNeg v3))) (y := 1) (tgt := 241) dX12_longOut_208 (by decide) (fun q9 => absurd q9 c_4) (fun _ => ?_)
    refine ev_aload_n (j := 0) (x := (some a0)) dX12_longOut_211 rfl rfl ?_
    refine ev_bipush (v := 91) dX12_longOut_212 (by decide) ?_
    rcases x_bind_e h with ⟨v_5, σ_6, h_7, h⟩ | ⟨E_20, σ_6, h_7, h⟩
    · have z9 := x_call (M := mX12_longOut) (M' := mX12_print) (pc := 214) (st := [.int 91, va_rf (some a0)]) (rest := []) (av := [va_rf (some a0), .int 91]) (x_linkV (M := mX12_longOut) (M' := mX12_print) (As := [.int 91]) (index := 344) (C := RX12) (T := TX12) (xE_12 c_1) rfl wd_944 wd_945 (wG_in (List.mem_append_left _ (List.mem_of_getElem? (i := 96) rfl)) rfl) xw_X12_print rfl (by decide) rfl rfl dX12_longOut_214) (ev_X12_print hO hP h_7) xw_X12_print rfl wd_198 dX12_longOut_214 (by decide) (by decide) (by simp [x_cat, x_catI, x_catJ])
      refine x_callR z9 ?_
      refine ev_at (st' := []) rfl rfl ?_
      refine ev_aload_n (j := 0) (x := (some a0)) dX12_longOut_217 rfl rfl ?_
      refine ev_aload_n (j := 0) (x := (some a0)) dX12_longOut_218 rfl rfl ?_
      obtain ⟨c_8, h⟩ := x_chk_e h
      refine ev_get (C := RX12) (T := TX12) (k := 12) inX12 (xE_12 c_8) rfl (by decide) wd_159 (Or.inl rfl) rfl dX12_longOut_219 ?_
      refine ev_iload_n (j := 3) (x := v3) dX12_longOut_222 rfl rfl ?_
      obtain ⟨a_9, ea_9, h⟩ := x_some_e h
      refine ev_at (st' := [.int v3, va_rf (some a_9), va_rf (some a0)]) rfl (by rw [ea_9]) ?_
      obtain ⟨c_10, h⟩ := x_chk_e h
      refine ev_iald_31 c_10.1 c_10.2 dX12_longOut_223 ?_
      refine ev_iconst (v := 1) dX12_longOut_224 (by decide) ?_
      refine ev_isub (x := (σ_6.AI a_9 (Int32.toNatClampNeg v3))) (y := 1) dX12_longOut_225 ?_
      rcases x_bind_e h with ⟨v_11, σ_12, h_13, h⟩ | ⟨E_19, σ_12, h_13, h⟩
      · have z9 := x_call (M := mX12_longOut) (M' := mX12_printNumber) (pc := 226) (st := [.int ((σ_6.AI a_9 (Int32.toNatClampNeg v3)) - 1), va_rf (some a0)]) (rest := []) (av := [va_rf (some a0), .int ((σ_6.AI a_9 (Int32.toNatClampNeg v3)) - 1)]) (x_linkV (M := mX12_longOut) (M' := mX12_printNumber) (As := [.int ((σ_6.AI a_9 (Int32.toNatClampNeg v3)) - 1)]) (index := 347) (C := RX12) (T := TX12) (xE_12 c_8) rfl wd_950 wd_951 (wG_in (List.mem_append_left _ (List.mem_of_getElem? (i := 99) rfl)) rfl) xw_X12_printNumber rfl (by decide) rfl rfl dX12_longOut_226) (ev_X12_printNumber hO hP h_13) xw_X12_printNumber rfl wd_198 dX12_longOut_226 (by decide) (by decide) (by simp [x_cat, x_catI, x_catJ])
        refine x_callR z9 ?_
        refine ev_at (st' := []) rfl rfl ?_
        refine ev_aload_n (j := 0) (x := (some a0)) dX12_longOut_229 rfl rfl ?_
        refine ev_bipush (v := 58) dX12_longOut_230 (by decide) ?_
        refine ev_bipush (v := 48) dX12_longOut_232 (by decide) ?_
        refine ev_bipush (v := 93) dX12_longOut_234 (by decide) ?_
        refine ev_bipush (v := 32) dX12_longOut_236 (by decide) ?_
        obtain ⟨c_17, h⟩ := x_chk_e h
        rcases x_bind_e h with ⟨v_14, σ_15, h_16, h⟩ | ⟨E_18, σ_15, h_16, h⟩
        · have z9 := x_call (M := mX12_longOut) (M' := mX12_printFour) (pc := 238) (st := [.int 32, .int 93, .int 48, .int 58, va_rf (some a0)]) (rest := []) (av := [va_rf (some a0), .int 58, .int 48, .int 93, .int 32]) (x_linkV (M := mX12_longOut) (M' := mX12_printFour) (As := [.int 58, .int 48, .int 93, .int 32]) (index := 366) (C := RX12) (T := TX12) (xE_12 c_17) rfl wd_965 wd_966 (wG_in (List.mem_append_left _ (List.mem_of_getElem? (i := 95) rfl)) rfl) xw_X12_printFour rfl (by decide) rfl rfl dX12_longOut_238) (ev_X12_printFour hO hP h_16) xw_X12_printFour rfl wd_198 dX12_longOut_238 (by decide) (by decide) (by simp [x_cat, x_catI, x_catJ])
          refine x_callR z9 ?_
          refine ev_at (st' := []) rfl rfl ?_
          exact ev_sub [0, 1, 2, 3] rfl (ev_X12_longOut_p241 hO hP hk94 h)
        · have z9 := x_call (M := mX12_longOut) (M' := mX12_printFour) (pc := 238) (st := [.int 32, .int 93, .int 48, .int 58, va_rf (some a0)]) (rest := []) (av := [va_rf (some a0), .int 58, .int 48, .int 93, .int 32]) (x_linkV (M := mX12_longOut) (M' := mX12_printFour) (As := [.int 58, .int 48, .int 93, .int 32]) (index := 366) (C := RX12) (T := TX12) (xE_12 c_17) rfl wd_965 wd_966 (wG_in (List.mem_append_left _ (List.mem_of_getElem? (i := 95) rfl)) rfl) xw_X12_printFour rfl (by decide) rfl rfl dX12_longOut_238) (ev_X12_printFour hO hP h_16) xw_X12_printFour rfl wd_198 dX12_longOut_238 (by decide) (by decide) (by simp [x_cat, x_catI, x_catJ])
          cases h
          exact x_callX z9 (evX_out rfl)
      · have z9 := x_call (M := mX12_longOut) (M' := mX12_printNumber) (pc := 226) (st := [.int ((σ_6.AI a_9 (Int32.toNatClampNeg v3)) - 1), va_rf (some a0)]) (rest := []) (av := [va_rf (some a0), .int ((σ_6.AI a_9 (Int32.toNatClampNeg v3)) - 1)]) (x_linkV (M := mX12_longOut) (M' := mX12_printNumber) (As := [.int ((σ_6.AI a_9 (Int32.toNatClampNeg v3)) - 1)]) (index := 347) (C := RX12) (T := TX12) (xE_12 c_8) rfl wd_950 wd_951 (wG_in (List.mem_append_left _ (List.mem_of_getElem? (i := 99) rfl)) rfl) xw_X12_printNumber rfl (by decide) rfl rfl dX12_longOut_226) (ev_X12_printNumber hO hP h_13) xw_X12_printNumber rfl wd_198 dX12_longOut_226 (by decide) (by decide) (by simp [x_cat, x_catI, x_catJ])
        cases h
        exact x_callX z9 (evX_out rfl)
    · have z9 := x_call (M := mX12_longOut) (M' := mX12_print) (pc := 214) (st := [.int 91, va_rf (some a0)]) (rest := []) (av := [va_rf (some a0), .int 91]) (x_linkV (M := mX12_longOut) (M' := mX12_print) (As := [.int 91]) (index := 344) (C := RX12) (T := TX12) (xE_12 c_1) rfl wd_944 wd_945 (wG_in (List.mem_append_left _ (List.mem_of_getElem? (i := 96) rfl)) rfl) xw_X12_print rfl (by decide) rfl rfl dX12_longOut_214) (ev_X12_print hO hP h_7) xw_X12_print rfl wd_198 dX12_longOut_214 (by decide) (by decide) (by simp [x_cat, x_catI, x_catJ])
      cases h
      exact x_callX z9 (evX_out rfl)
set_option maxHeartbeats 4000000 in
set_option maxRecDepth 100000 in
theorem ev_X12_longOut_L348 {l : Launch} {G : xG} (hO : x_OK l G) {P : xP} (hP : x_PG P G) {a0 : Nat} : ∀ (n : Nat) {v1 : Int32} {v2 : Int32} {σ σ' : xS} {rr : Unit ⊕ String}, dm_X12_longOut_L348 P a0 n v1 v2 σ = some (rr, σ') → Ev l G mX12_longOut 348 [(0, va_rf (some a0)), (1, .int v1), (2, .int v2)] [] σ (xrV rr) σ' := by
  intro n
  induction n with
  | zero => intro v1 v2 σ σ' rr h; cases h
  | succ n ih =>
    intro v1 v2 σ σ' rr h
    rw [dm_X12_longOut_L348] at h
    refine ev_iload_n (j := 2) (x := v2) dX12_longOut_348 rfl rfl ?_
    refine ev_aload_n (j := 0) (x := (some a0)) dX12_longOut_349 rfl rfl ?_
    obtain ⟨c_1, h⟩ := x_chk_e h
    refine ev_get (C := RX12) (T := TX12) (k := 24) inX12 (xE_12 c_1) rfl (by decide) wd_172 (Or.inl rfl) rfl dX12_longOut_350 ?_
    refine ev_iload_n (j := 1) (x := v1) dX12_longOut_353 rfl rfl ?_
    obtain ⟨a_2, ea_2, h⟩ := x_some_e h
    refine ev_at (st' := [.int v1, va_rf (some a_2), .int v2]) rfl (by rw [ea_2]) ?_
    obtain ⟨c_3, h⟩ := x_chk_e h
    refine ev_iald_31 c_3.1 c_3.2 dX12_longOut_354 ?_
    by_cases c_4 : (σ.AI a_2 (Int32.toNatClampNeg v1)) ≤ v2
    · rw [if_pos c_4] at h
      refine ev_icmp_ge (x := v2) (y := (σ.AI a_2 (Int32.toNatClampNeg v1))) (tgt := 375) dX12_longOut_355 (by decide) (fun _ => ?_) (fun q9 => absurd c_4 q9)
      refine ev_aload_n (j := 0) (x := (some a0)) dX12_longOut_375 rfl rfl ?_
      refine ev_bipush (v := 101) dX12_longOut_376 (by decide) ?_
      refine ev_bipush (v := 110) dX12_longOut_378 (by decide) ?_
      refine ev_bipush (v := 100) dX12_longOut_380 (by decide) ?_
      refine ev_bipush (v := 10) dX12_longOut_382 (by decide) ?_
      rcases x_bind_e h with ⟨v_5, σ_6, h_7, h⟩ | ⟨E_8, σ_6, h_7, h⟩
      · have z9 := x_call (M := mX12_longOut) (M' := mX12_printFour) (pc := 384) (st := [.int 10, .int 100, .int 110, .int 101, va_rf (some a0)]) (rest := []) (av := [va_rf (some a0), .int 101, .int 110, .int 100, .int 10]) (x_linkV (M := mX12_longOut) (M' := mX12_printFour) (As := [.int 101, .int 110, .int 100, .int 10]) (index := 366) (C := RX12) (T := TX12) (xE_12 c_1) rfl wd_965 wd_966 (wG_in (List.mem_append_left _ (List.mem_of_getElem? (i := 95) rfl)) rfl) xw_X12_printFour rfl (by decide) rfl rfl dX12_longOut_384) (ev_X12_printFour hO hP h_7) xw_X12_printFour rfl wd_198 dX12_longOut_384 (by decide) (by decide) (by simp [x_cat, x_catI, x_catJ])
        refine x_callR z9 ?_
        refine ev_at (st' := []) rfl rfl ?_
        cases h
        exact ev_vret rfl dX12_longOut_387
      · have z9 := x_call (M := mX12_longOut) (M' := mX12_printFour) (pc := 384) (st := [.int 10, .int 100, .int 110, .int 101, va_rf (some a0)]) (rest := []) (av := [va_rf (some a0), .int 101, .int 110, .int 100, .int 10]) (x_linkV (M := mX12_longOut) (M' := mX12_printFour) (As := [.int 101, .int 110, .int 100, .int 10]) (index := 366) (C := RX12) (T := TX12) (xE_12 c_1) rfl wd_965 wd_966 (wG_in (List.mem_append_left _ (List.mem_of_getElem? (i := 95) rfl)) rfl) xw_X12_printFour rfl (by decide) rfl rfl dX12_longOut_384) (ev_X12_printFour hO hP h_7) xw_X12_printFour rfl wd_198 dX12_longOut_384 (by decide) (by decide) (by simp [x_cat, x_catI, x_catJ])
        cases h
        exact x_callX z9 (evX_out rfl)
    · rw [if_neg c_4] at h
      refine ev_icmp_ge (x := v2) (y := (σ.AI a_2 (Int32.toNatClampNeg v1))) (tgt := 375) dX12_longOut_355 (by decide) (fun q9 => absurd q9 c_4) (fun _ => ?_)
      refine ev_aload_n (j := 0) (x := (some a0)) dX12_longOut_358 rfl rfl ?_
      refine ev_iload_n (j := 1) (x := v1) dX12_longOut_359 rfl rfl ?_
      refine ev_bipush (v := 12) dX12_longOut_360 (by decide) ?_
      refine ev_iload_n (j := 1) (x := v1) dX12_longOut_362 rfl rfl ?_
      refine ev_imul (x := 12) (y := v1) dX12_longOut_363 ?_
      refine ev_iload_n (j := 2) (x := v2) dX12_longOut_364 rfl rfl ?_
      refine ev_iadd (x := (12 * v1)) (y := v2) dX12_longOut_365 ?_
      rcases x_bind_e h with ⟨v_9, σ_10, h_11, h⟩ | ⟨E_13, σ_10, h_11, h⟩
      · have z9 := x_call (M := mX12_longOut) (M' := mX12_longInstanceOut) (pc := 366) (st := [.int ((12 * v1) + v2), .int v1, va_rf (some a0)]) (rest := []) (av := [va_rf (some a0), .int v1, .int ((12 * v1) + v2)]) (x_linkV (M := mX12_longOut) (M' := mX12_longInstanceOut) (As := [.int v1, .int ((12 * v1) + v2)]) (index := 370) (C := RX12) (T := TX12) (xE_12 c_1) rfl wd_968 wd_969 (wG_in (List.mem_append_left _ (List.mem_of_getElem? (i := 101) rfl)) rfl) xw_X12_longInstanceOut rfl (by decide) rfl rfl dX12_longOut_366) (ev_X12_longInstanceOut hO hP h_11) xw_X12_longInstanceOut rfl wd_198 dX12_longOut_366 (by decide) (by decide) (by simp [x_cat, x_catI, x_catJ])
        refine x_callR z9 ?_
        refine ev_at (st' := []) rfl rfl ?_
        obtain ⟨v_12, ev_12, h⟩ := x_let_e h
        refine ev_iinc (j := 2) (x := v2) (v := v_12) (lv' := [(2, .int v_12), (0, va_rf (some a0)), (1, .int v1)]) dX12_longOut_369 rfl (by rw [ev_12]; rfl) (by decide) rfl ?_
        refine ev_goto (tgt := 348) dX12_longOut_372 (by decide) ?_
        exact ev_sub [1, 2, 0] rfl (ih h)
      · have z9 := x_call (M := mX12_longOut) (M' := mX12_longInstanceOut) (pc := 366) (st := [.int ((12 * v1) + v2), .int v1, va_rf (some a0)]) (rest := []) (av := [va_rf (some a0), .int v1, .int ((12 * v1) + v2)]) (x_linkV (M := mX12_longOut) (M' := mX12_longInstanceOut) (As := [.int v1, .int ((12 * v1) + v2)]) (index := 370) (C := RX12) (T := TX12) (xE_12 c_1) rfl wd_968 wd_969 (wG_in (List.mem_append_left _ (List.mem_of_getElem? (i := 101) rfl)) rfl) xw_X12_longInstanceOut rfl (by decide) rfl rfl dX12_longOut_366) (ev_X12_longInstanceOut hO hP h_11) xw_X12_longInstanceOut rfl wd_198 dX12_longOut_366 (by decide) (by decide) (by simp [x_cat, x_catI, x_catJ])
        cases h
        exact x_callX z9 (evX_out rfl)
set_option maxHeartbeats 4000000 in
set_option maxRecDepth 100000 in
theorem ev_X12_longOut_L263 {l : Launch} {G : xG} (hO : x_OK l G) {P : xP} (hP : x_PG P G) {a0 : Nat} : ∀ (n : Nat) {v1 : Int32} {v2 : Int32} {σ σ' : xS} {rr : Unit ⊕ String}, dm_X12_longOut_L263 P a0 n v1 v2 σ = some (rr, σ') → Ev l G mX12_longOut 263 [(0, va_rf (some a0)), (1, .int v1), (2, .int v2)] [] σ (xrV rr) σ' := by
  intro n
  induction n with
  | zero => intro v1 v2 σ σ' rr h; cases h
  | succ n ih =>
    intro v1 v2 σ σ' rr h
    rw [dm_X12_longOut_L263] at h
    refine ev_iload_n (j := 2) (x := v2) dX12_longOut_263 rfl rfl ?_
    refine ev_aload_n (j := 0) (x := (some a0)) dX12_longOut_264 rfl rfl ?_
    obtain ⟨c_1, h⟩ := x_chk_e h
    refine ev_get (C := RX12) (T := TX12) (k := 21) inX12 (xE_12 c_1) rfl (by decide) wd_169 (Or.inl rfl) rfl dX12_longOut_265 ?_
    refine ev_iload_n (j := 1) (x := v1) dX12_longOut_268 rfl rfl ?_
    obtain ⟨a_2, ea_2, h⟩ := x_some_e h
    refine ev_at (st' := [.int v1, va_rf (some a_2), .int v2]) rfl (by rw [ea_2]) ?_
    obtain ⟨c_3, h⟩ := x_chk_e h
    refine ev_iald_31 c_3.1 c_3.2 dX12_longOut_269 ?_
    by_cases c_4 : (σ.AI a_2 (Int32.toNatClampNeg v1)) ≤ v2
    · rw [if_pos c_4] at h
      refine ev_icmp_ge (x := v2) (y := (σ.AI a_2 (Int32.toNatClampNeg v1))) (tgt := 346) dX12_longOut_270 (by decide) (fun _ => ?_) (fun q9 => absurd c_4 q9)
      refine ev_iconst (v := 0) dX12_longOut_346 (by decide) ?_
      refine ev_istore_n (i := 2) (lv' := [(2, .int 0), (0, va_rf (some a0)), (1, .int v1)]) dX12_longOut_347 rfl (by decide) rfl ?_
      exact ev_sub [1, 2, 0] rfl (ev_X12_longOut_L348 hO hP P.N h)
    · rw [if_neg c_4] at h
      refine ev_icmp_ge (x := v2) (y := (σ.AI a_2 (Int32.toNatClampNeg v1))) (tgt := 346) dX12_longOut_270 (by decide) (fun q9 => absurd q9 c_4) (fun _ => ?_)
      refine ev_aload_n (j := 0) (x := (some a0)) dX12_longOut_273 rfl rfl ?_
      refine ev_bipush (v := 97) dX12_longOut_274 (by decide) ?_
      refine ev_bipush (v := 115) dX12_longOut_276 (by decide) ?_
      refine ev_bipush (v := 115) dX12_longOut_278 (by decide) ?_
      refine ev_bipush (v := 105) dX12_longOut_280 (by decide) ?_
      rcases x_bind_e h with ⟨v_5, σ_6, h_7, h⟩ | ⟨E_38, σ_6, h_7, h⟩
      · have z9 := x_call (M := mX12_longOut) (M' := mX12_printFour) (pc := 282) (st := [.int 105, .int 115, .int 115, .int 97, va_rf (some a0)]) (rest := []) (av := [va_rf (some a0), .int 97, .int 115, .int 115, .int 105]) (x_linkV (M := mX12_longOut) (M' := mX12_printFour) (As := [.int 97, .int 115, .int 115, .int 105]) (index := 366) (C := RX12) (T := TX12) (xE_12 c_1) rfl wd_965 wd_966 (wG_in (List.mem_append_left _ (List.mem_of_getElem? (i := 95) rfl)) rfl) xw_X12_printFour rfl (by decide) rfl rfl dX12_longOut_282) (ev_X12_printFour hO hP h_7) xw_X12_printFour rfl wd_198 dX12_longOut_282 (by decide) (by decide) (by simp [x_cat, x_catI, x_catJ])
        refine x_callR z9 ?_
        refine ev_at (st' := []) rfl rfl ?_
        refine ev_aload_n (j := 0) (x := (some a0)) dX12_longOut_285 rfl rfl ?_
        refine ev_bipush (v := 103) dX12_longOut_286 (by decide) ?_
        refine ev_bipush (v := 110) dX12_longOut_288 (by decide) ?_
        refine ev_bipush (v := 32) dX12_longOut_290 (by decide) ?_
        refine ev_iconst (v := 0) dX12_longOut_292 (by decide) ?_
        obtain ⟨c_11, h⟩ := x_chk_e h
        rcases x_bind_e h with ⟨v_8, σ_9, h_10, h⟩ | ⟨E_37, σ_9, h_10, h⟩
        · have z9 := x_call (M := mX12_longOut) (M' := mX12_printFour) (pc := 293) (st := [.int 0, .int 32, .int 110, .int 103, va_rf (some a0)]) (rest := []) (av := [va_rf (some a0), .int 103, .int 110, .int 32, .int 0]) (x_linkV (M := mX12_longOut) (M' := mX12_printFour) (As := [.int 103, .int 110, .int 32, .int 0]) (index := 366) (C := RX12) (T := TX12) (xE_12 c_11) rfl wd_965 wd_966 (wG_in (List.mem_append_left _ (List.mem_of_getElem? (i := 95) rfl)) rfl) xw_X12_printFour rfl (by decide) rfl rfl dX12_longOut_293) (ev_X12_printFour hO hP h_10) xw_X12_printFour rfl wd_198 dX12_longOut_293 (by decide) (by decide) (by simp [x_cat, x_catI, x_catJ])
          refine x_callR z9 ?_
          refine ev_at (st' := []) rfl rfl ?_
          refine ev_aload_n (j := 0) (x := (some a0)) dX12_longOut_296 rfl rfl ?_
          refine ev_iload_n (j := 1) (x := v1) dX12_longOut_297 rfl rfl ?_
          refine ev_aload_n (j := 0) (x := (some a0)) dX12_longOut_298 rfl rfl ?_
          obtain ⟨c_12, h⟩ := x_chk_e h
          refine ev_get (C := RX12) (T := TX12) (k := 22) inX12 (xE_12 c_12) rfl (by decide) wd_170 (Or.inl rfl) rfl dX12_longOut_299 ?_
          refine ev_bipush (v := 8) dX12_longOut_302 (by decide) ?_
          refine ev_iload_n (j := 1) (x := v1) dX12_longOut_304 rfl rfl ?_
          refine ev_imul (x := 8) (y := v1) dX12_longOut_305 ?_
          refine ev_iload_n (j := 2) (x := v2) dX12_longOut_306 rfl rfl ?_
          refine ev_iadd (x := (8 * v1)) (y := v2) dX12_longOut_307 ?_
          obtain ⟨a_13, ea_13, h⟩ := x_some_e h
          refine ev_at (st' := [.int ((8 * v1) + v2), va_rf (some a_13), .int v1, va_rf (some a0)]) rfl (by rw [ea_13]) ?_
          obtain ⟨c_14, h⟩ := x_chk_e h
          refine ev_iald_31 c_14.1 c_14.2 dX12_longOut_308 ?_
          refine ev_iconst (v := 1) dX12_longOut_309 (by decide) ?_
          rcases x_bind_e h with ⟨v_15, σ_16, h_17, h⟩ | ⟨E_36, σ_16, h_17, h⟩
          · have z9 := x_call (M := mX12_longOut) (M' := mX12_printRef) (pc := 310) (st := [.int 1, .int (σ_9.AI a_13 (Int32.toNatClampNeg ((8 * v1) + v2))), .int v1, va_rf (some a0)]) (rest := []) (av := [va_rf (some a0), .int v1, .int (σ_9.AI a_13 (Int32.toNatClampNeg ((8 * v1) + v2))), .int 1]) (x_linkV (M := mX12_longOut) (M' := mX12_printRef) (As := [.int v1, .int (σ_9.AI a_13 (Int32.toNatClampNeg ((8 * v1) + v2))), .int 1]) (index := 353) (C := RX12) (T := TX12) (xE_12 c_12) rfl wd_953 wd_954 (wG_in (List.mem_append_left _ (List.mem_of_getElem? (i := 100) rfl)) rfl) xw_X12_printRef rfl (by decide) rfl rfl dX12_longOut_310) (ev_X12_printRef hO hP h_17) xw_X12_printRef rfl wd_198 dX12_longOut_310 (by decide) (by decide) (by simp [x_cat, x_catI, x_catJ])
            refine x_callR z9 ?_
            refine ev_at (st' := []) rfl rfl ?_
            refine ev_aload_n (j := 0) (x := (some a0)) dX12_longOut_313 rfl rfl ?_
            refine ev_bipush (v := 61) dX12_longOut_314 (by decide) ?_
            obtain ⟨c_21, h⟩ := x_chk_e h
            rcases x_bind_e h with ⟨v_18, σ_19, h_20, h⟩ | ⟨E_35, σ_19, h_20, h⟩
            · have z9 := x_call (M := mX12_longOut) (M' := mX12_print) (pc := 316) (st := [.int 61, va_rf (some a0)]) (rest := []) (av := [va_rf (some a0), .int 61]) (x_linkV (M := mX12_longOut) (M' := mX12_print) (As := [.int 61]) (index := 344) (C := RX12) (T := TX12) (xE_12 c_21) rfl wd_944 wd_945 (wG_in (List.mem_append_left _ (List.mem_of_getElem? (i := 96) rfl)) rfl) xw_X12_print rfl (by decide) rfl rfl dX12_longOut_316) (ev_X12_print hO hP h_20) xw_X12_print rfl wd_198 dX12_longOut_316 (by decide) (by decide) (by simp [x_cat, x_catI, x_catJ])
              refine x_callR z9 ?_
              refine ev_at (st' := []) rfl rfl ?_
              refine ev_aload_n (j := 0) (x := (some a0)) dX12_longOut_319 rfl rfl ?_
              refine ev_iload_n (j := 1) (x := v1) dX12_longOut_320 rfl rfl ?_
              refine ev_aload_n (j := 0) (x := (some a0)) dX12_longOut_321 rfl rfl ?_
              obtain ⟨c_22, h⟩ := x_chk_e h
              refine ev_get (C := RX12) (T := TX12) (k := 23) inX12 (xE_12 c_22) rfl (by decide) wd_171 (Or.inl rfl) rfl dX12_longOut_322 ?_
              refine ev_bipush (v := 8) dX12_longOut_325 (by decide) ?_
              refine ev_iload_n (j := 1) (x := v1) dX12_longOut_327 rfl rfl ?_
              refine ev_imul (x := 8) (y := v1) dX12_longOut_328 ?_
              refine ev_iload_n (j := 2) (x := v2) dX12_longOut_329 rfl rfl ?_
              refine ev_iadd (x := (8 * v1)) (y := v2) dX12_longOut_330 ?_
              obtain ⟨a_23, ea_23, h⟩ := x_some_e h
              refine ev_at (st' := [.int ((8 * v1) + v2), va_rf (some a_23), .int v1, va_rf (some a0)]) rfl (by rw [ea_23]) ?_
              obtain ⟨c_24, h⟩ := x_chk_e h
              refine ev_iald_31 c_24.1 c_24.2 dX12_longOut_331 ?_
              refine ev_iconst (v := 1) dX12_longOut_332 (by decide) ?_
              rcases x_bind_e h with ⟨v_25, σ_26, h_27, h⟩ | ⟨E_34, σ_26, h_27, h⟩
              · have z9 := x_call (M := mX12_longOut) (M' := mX12_printRef) (pc := 333) (st := [.int 1, .int (σ_19.AI a_23 (Int32.toNatClampNeg ((8 * v1) + v2))), .int v1, va_rf (some a0)]) (rest := []) (av := [va_rf (some a0), .int v1, .int (σ_19.AI a_23 (Int32.toNatClampNeg ((8 * v1) + v2))), .int 1]) (x_linkV (M := mX12_longOut) (M' := mX12_printRef) (As := [.int v1, .int (σ_19.AI a_23 (Int32.toNatClampNeg ((8 * v1) + v2))), .int 1]) (index := 353) (C := RX12) (T := TX12) (xE_12 c_22) rfl wd_953 wd_954 (wG_in (List.mem_append_left _ (List.mem_of_getElem? (i := 100) rfl)) rfl) xw_X12_printRef rfl (by decide) rfl rfl dX12_longOut_333) (ev_X12_printRef hO hP h_27) xw_X12_printRef rfl wd_198 dX12_longOut_333 (by decide) (by decide) (by simp [x_cat, x_catI, x_catJ])
                refine x_callR z9 ?_
                refine ev_at (st' := []) rfl rfl ?_
                refine ev_aload_n (j := 0) (x := (some a0)) dX12_longOut_336 rfl rfl ?_
                obtain ⟨c_31, h⟩ := x_chk_e h
                rcases x_bind_e h with ⟨v_28, σ_29, h_30, h⟩ | ⟨E_33, σ_29, h_30, h⟩
                · have z9 := x_call (M := mX12_longOut) (M' := mX12_printEnd) (pc := 337) (st := [va_rf (some a0)]) (rest := []) (av := [va_rf (some a0)]) (x_linkV (M := mX12_longOut) (M' := mX12_printEnd) (As := []) (index := 363) (C := RX12) (T := TX12) (xE_12 c_31) rfl wd_956 wd_957 (wG_in (List.mem_append_left _ (List.mem_of_getElem? (i := 98) rfl)) rfl) xw_X12_printEnd rfl (by decide) rfl rfl dX12_longOut_337) (ev_X12_printEnd hO hP h_30) xw_X12_printEnd rfl wd_198 dX12_longOut_337 (by decide) (by decide) (by simp [x_cat, x_catI, x_catJ])
                  refine x_callR z9 ?_
                  refine ev_at (st' := []) rfl rfl ?_
                  obtain ⟨v_32, ev_32, h⟩ := x_let_e h
                  refine ev_iinc (j := 2) (x := v2) (v := v_32) (lv' := [(2, .int v_32), (0, va_rf (some a0)), (1, .int v1)]) dX12_longOut_340 rfl (by rw [ev_32]; rfl) (by decide) rfl ?_
                  refine ev_goto (tgt := 263) dX12_longOut_343 (by decide) ?_
                  exact ev_sub [1, 2, 0] rfl (ih h)
                · have z9 := x_call (M := mX12_longOut) (M' := mX12_printEnd) (pc := 337) (st := [va_rf (some a0)]) (rest := []) (av := [va_rf (some a0)]) (x_linkV (M := mX12_longOut) (M' := mX12_printEnd) (As := []) (index := 363) (C := RX12) (T := TX12) (xE_12 c_31) rfl wd_956 wd_957 (wG_in (List.mem_append_left _ (List.mem_of_getElem? (i := 98) rfl)) rfl) xw_X12_printEnd rfl (by decide) rfl rfl dX12_longOut_337) (ev_X12_printEnd hO hP h_30) xw_X12_printEnd rfl wd_198 dX12_longOut_337 (by decide) (by decide) (by simp [x_cat, x_catI, x_catJ])
                  cases h
                  exact x_callX z9 (evX_out rfl)
              · have z9 := x_call (M := mX12_longOut) (M' := mX12_printRef) (pc := 333) (st := [.int 1, .int (σ_19.AI a_23 (Int32.toNatClampNeg ((8 * v1) + v2))), .int v1, va_rf (some a0)]) (rest := []) (av := [va_rf (some a0), .int v1, .int (σ_19.AI a_23 (Int32.toNatClampNeg ((8 * v1) + v2))), .int 1]) (x_linkV (M := mX12_longOut) (M' := mX12_printRef) (As := [.int v1, .int (σ_19.AI a_23 (Int32.toNatClampNeg ((8 * v1) + v2))), .int 1]) (index := 353) (C := RX12) (T := TX12) (xE_12 c_22) rfl wd_953 wd_954 (wG_in (List.mem_append_left _ (List.mem_of_getElem? (i := 100) rfl)) rfl) xw_X12_printRef rfl (by decide) rfl rfl dX12_longOut_333) (ev_X12_printRef hO hP h_27) xw_X12_printRef rfl wd_198 dX12_longOut_333 (by decide) (by decide) (by simp [x_cat, x_catI, x_catJ])
                cases h
                exact x_callX z9 (evX_out rfl)
            · have z9 := x_call (M := mX12_longOut) (M' := mX12_print) (pc := 316) (st := [.int 61, va_rf (some a0)]) (rest := []) (av := [va_rf (some a0), .int 61]) (x_linkV (M := mX12_longOut) (M' := mX12_print) (As := [.int 61]) (index := 344) (C := RX12) (T := TX12) (xE_12 c_21) rfl wd_944 wd_945 (wG_in (List.mem_append_left _ (List.mem_of_getElem? (i := 96) rfl)) rfl) xw_X12_print rfl (by decide) rfl rfl dX12_longOut_316) (ev_X12_print hO hP h_20) xw_X12_print rfl wd_198 dX12_longOut_316 (by decide) (by decide) (by simp [x_cat, x_catI, x_catJ])
              cases h
              exact x_callX z9 (evX_out rfl)
          · have z9 := x_call (M := mX12_longOut) (M' := mX12_printRef) (pc := 310) (st := [.int 1, .int (σ_9.AI a_13 (Int32.toNatClampNeg ((8 * v1) + v2))), .int v1, va_rf (some a0)]) (rest := []) (av := [va_rf (some a0), .int v1, .int (σ_9.AI a_13 (Int32.toNatClampNeg ((8 * v1) + v2))), .int 1]) (x_linkV (M := mX12_longOut) (M' := mX12_printRef) (As := [.int v1, .int (σ_9.AI a_13 (Int32.toNatClampNeg ((8 * v1) + v2))), .int 1]) (index := 353) (C := RX12) (T := TX12) (xE_12 c_12) rfl wd_953 wd_954 (wG_in (List.mem_append_left _ (List.mem_of_getElem? (i := 100) rfl)) rfl) xw_X12_printRef rfl (by decide) rfl rfl dX12_longOut_310) (ev_X12_printRef hO hP h_17) xw_X12_printRef rfl wd_198 dX12_longOut_310 (by decide) (by decide) (by simp [x_cat, x_catI, x_catJ])
            cases h
            exact x_callX z9 (evX_out rfl)
        · have z9 := x_call (M := mX12_longOut) (M' := mX12_printFour) (pc := 293) (st := [.int 0, .int 32, .int 110, .int 103, va_rf (some a0)]) (rest := []) (av := [va_rf (some a0), .int 103, .int 110, .int 32, .int 0]) (x_linkV (M := mX12_longOut) (M' := mX12_printFour) (As := [.int 103, .int 110, .int 32, .int 0]) (index := 366) (C := RX12) (T := TX12) (xE_12 c_11) rfl wd_965 wd_966 (wG_in (List.mem_append_left _ (List.mem_of_getElem? (i := 95) rfl)) rfl) xw_X12_printFour rfl (by decide) rfl rfl dX12_longOut_293) (ev_X12_printFour hO hP h_10) xw_X12_printFour rfl wd_198 dX12_longOut_293 (by decide) (by decide) (by simp [x_cat, x_catI, x_catJ])
          cases h
          exact x_callX z9 (evX_out rfl)
      · have z9 := x_call (M := mX12_longOut) (M' := mX12_printFour) (pc := 282) (st := [.int 105, .int 115, .int 115, .int 97, va_rf (some a0)]) (rest := []) (av := [va_rf (some a0), .int 97, .int 115, .int 115, .int 105]) (x_linkV (M := mX12_longOut) (M' := mX12_printFour) (As := [.int 97, .int 115, .int 115, .int 105]) (index := 366) (C := RX12) (T := TX12) (xE_12 c_1) rfl wd_965 wd_966 (wG_in (List.mem_append_left _ (List.mem_of_getElem? (i := 95) rfl)) rfl) xw_X12_printFour rfl (by decide) rfl rfl dX12_longOut_282) (ev_X12_printFour hO hP h_7) xw_X12_printFour rfl wd_198 dX12_longOut_282 (by decide) (by decide) (by simp [x_cat, x_catI, x_catJ])
        cases h
        exact x_callX z9 (evX_out rfl)
set_option maxHeartbeats 4000000 in
set_option maxRecDepth 100000 in
theorem ev_X12_longOut_L94 {l : Launch} {G : xG} (hO : x_OK l G) {P : xP} (hP : x_PG P G) {a0 : Nat} : ∀ (n : Nat) {v1 : Int32} {v2 : Int32} {σ σ' : xS} {rr : Unit ⊕ String}, dm_X12_longOut_L94 P a0 n v1 v2 σ = some (rr, σ') → Ev l G mX12_longOut 94 [(0, va_rf (some a0)), (1, .int v1), (2, .int v2)] [] σ (xrV rr) σ' := by
  intro n
  induction n with
  | zero => intro v1 v2 σ σ' rr h; cases h
  | succ n ih =>
    intro v1 v2 σ σ' rr h
    rw [dm_X12_longOut_L94] at h
    refine ev_iload_n (j := 2) (x := v2) dX12_longOut_94 rfl rfl ?_
    refine ev_aload_n (j := 0) (x := (some a0)) dX12_longOut_95 rfl rfl ?_
    obtain ⟨c_1, h⟩ := x_chk_e h
    refine ev_get (C := RX12) (T := TX12) (k := 9) inX12 (xE_12 c_1) rfl (by decide) wd_156 (Or.inl rfl) rfl dX12_longOut_96 ?_
    refine ev_iload_n (j := 1) (x := v1) dX12_longOut_99 rfl rfl ?_
    obtain ⟨a_2, ea_2, h⟩ := x_some_e h
    refine ev_at (st' := [.int v1, va_rf (some a_2), .int v2]) rfl (by rw [ea_2]) ?_
    obtain ⟨c_3, h⟩ := x_chk_e h
    refine ev_iald_31 c_3.1 c_3.2 dX12_longOut_100 ?_
    by_cases c_4 : (σ.AI a_2 (Int32.toNatClampNeg v1)) ≤ v2
    · rw [if_pos c_4] at h
      refine ev_icmp_ge (x := v2) (y := (σ.AI a_2 (Int32.toNatClampNeg v1))) (tgt := 261) dX12_longOut_101 (by decide) (fun _ => ?_) (fun q9 => absurd c_4 q9)
      refine ev_iconst (v := 0) dX12_longOut_261 (by decide) ?_
      refine ev_istore_n (i := 2) (lv' := [(2, .int 0), (0, va_rf (some a0)), (1, .int v1)]) dX12_longOut_262 rfl (by decide) rfl ?_
      exact ev_sub [1, 2, 0] rfl (ev_X12_longOut_L263 hO hP P.N h)
    · rw [if_neg c_4] at h
      refine ev_icmp_ge (x := v2) (y := (σ.AI a_2 (Int32.toNatClampNeg v1))) (tgt := 261) dX12_longOut_101 (by decide) (fun q9 => absurd q9 c_4) (fun _ => ?_)
      refine ev_bipush (v := 16) dX12_longOut_104 (by decide) ?_
      refine ev_iload_n (j := 1) (x := v1) dX12_longOut_106 rfl rfl ?_
      refine ev_imul (x := 16) (y := v1) dX12_longOut_107 ?_
      refine ev_iload_n (j := 2) (x := v2) dX12_longOut_108 rfl rfl ?_
      refine ev_iadd (x := (16 * v1)) (y := v2) dX12_longOut_109 ?_
      obtain ⟨v_5, ev_5, h⟩ := x_let_e h
      rw [← ev_5]
      refine ev_istore_n (i := 3) (lv' := [(3, .int v_5), (0, va_rf (some a0)), (1, .int v1), (2, .int v2)]) dX12_longOut_110 rfl (by decide) rfl ?_
      refine ev_aload_n (j := 1) (x := (some a0)) dX12_longOut_111 rfl rfl ?_
      refine ev_get (C := RX12) (T := TX12) (k := 11) inX12 (xE_12 c_1) rfl (by decide) wd_158 (Or.inl rfl) rfl dX12_longOut_112 ?_
      refine ev_iload_n (j := 0) (x := v_5) dX12_longOut_115 rfl rfl ?_
      obtain ⟨a_6, ea_6, h⟩ := x_some_e h
      refine ev_at (st' := [.int v_5, va_rf (some a_6)]) rfl (by rw [ea_6]) ?_
      obtain ⟨c_7, h⟩ := x_chk_e h
      refine ev_iald_31 c_7.1 c_7.2 dX12_longOut_116 ?_
      by_cases c_8 : (σ.AI a_6 (Int32.toNatClampNeg v_5)) = 0
      · rw [if_pos c_8] at h
        refine ev_if_ne (x := (σ.AI a_6 (Int32.toNatClampNeg v_5))) (tgt := 147) dX12_longOut_117 (by decide) (fun q9 => absurd c_8 q9) (fun _ => ?_)
        refine ev_aload_n (j := 1) (x := (some a0)) dX12_longOut_120 rfl rfl ?_
        refine ev_bipush (v := 105) dX12_longOut_121 (by decide) ?_
        refine ev_bipush (v := 110) dX12_longOut_123 (by decide) ?_
        refine ev_bipush (v := 112) dX12_longOut_125 (by decide) ?_
        refine ev_bipush (v := 117) dX12_longOut_127 (by decide) ?_
        rcases x_bind_e h with ⟨v_28, σ_29, h_30, h⟩ | ⟨E_41, σ_29, h_30, h⟩
        · have z9 := x_call (M := mX12_longOut) (M' := mX12_printFour) (pc := 129) (st := [.int 117, .int 112, .int 110, .int 105, va_rf (some a0)]) (rest := []) (av := [va_rf (some a0), .int 105, .int 110, .int 112, .int 117]) (x_linkV (M := mX12_longOut) (M' := mX12_printFour) (As := [.int 105, .int 110, .int 112, .int 117]) (index := 366) (C := RX12) (T := TX12) (xE_12 c_1) rfl wd_965 wd_966 (wG_in (List.mem_append_left _ (List.mem_of_getElem? (i := 95) rfl)) rfl) xw_X12_printFour rfl (by decide) rfl rfl dX12_longOut_129) (ev_X12_printFour hO hP h_30) xw_X12_printFour rfl wd_198 dX12_longOut_129 (by decide) (by decide) (by simp [x_cat, x_catI, x_catJ])
          refine x_callR z9 ?_
          refine ev_at (st' := []) rfl rfl ?_
          refine ev_aload_n (j := 1) (x := (some a0)) dX12_longOut_132 rfl rfl ?_
          refine ev_bipush (v := 116) dX12_longOut_133 (by decide) ?_
          obtain ⟨c_34, h⟩ := x_chk_e h
          rcases x_bind_e h with ⟨v_31, σ_32, h_33, h⟩ | ⟨E_40, σ_32, h_33, h⟩
          · have z9 := x_call (M := mX12_longOut) (M' := mX12_print) (pc := 135) (st := [.int 116, va_rf (some a0)]) (rest := []) (av := [va_rf (some a0), .int 116]) (x_linkV (M := mX12_longOut) (M' := mX12_print) (As := [.int 116]) (index := 344) (C := RX12) (T := TX12) (xE_12 c_34) rfl wd_944 wd_945 (wG_in (List.mem_append_left _ (List.mem_of_getElem? (i := 96) rfl)) rfl) xw_X12_print rfl (by decide) rfl rfl dX12_longOut_135) (ev_X12_print hO hP h_33) xw_X12_print rfl wd_198 dX12_longOut_135 (by decide) (by decide) (by simp [x_cat, x_catI, x_catJ])
            refine x_callR z9 ?_
            refine ev_at (st' := []) rfl rfl ?_
            refine ev_aload_n (j := 1) (x := (some a0)) dX12_longOut_138 rfl rfl ?_
            refine ev_bipush (v := 32) dX12_longOut_139 (by decide) ?_
            obtain ⟨c_38, h⟩ := x_chk_e h
            rcases x_bind_e h with ⟨v_35, σ_36, h_37, h⟩ | ⟨E_39, σ_36, h_37, h⟩
            · have z9 := x_call (M := mX12_longOut) (M' := mX12_print) (pc := 141) (st := [.int 32, va_rf (some a0)]) (rest := []) (av := [va_rf (some a0), .int 32]) (x_linkV (M := mX12_longOut) (M' := mX12_print) (As := [.int 32]) (index := 344) (C := RX12) (T := TX12) (xE_12 c_38) rfl wd_944 wd_945 (wG_in (List.mem_append_left _ (List.mem_of_getElem? (i := 96) rfl)) rfl) xw_X12_print rfl (by decide) rfl rfl dX12_longOut_141) (ev_X12_print hO hP h_37) xw_X12_print rfl wd_198 dX12_longOut_141 (by decide) (by decide) (by simp [x_cat, x_catI, x_catJ])
              refine x_callR z9 ?_
              refine ev_at (st' := []) rfl rfl ?_
              refine ev_goto (tgt := 201) dX12_longOut_144 (by decide) ?_
              exact ev_sub [1, 2, 3, 0] rfl (ev_X12_longOut_p201 hO hP ih h)
            · have z9 := x_call (M := mX12_longOut) (M' := mX12_print) (pc := 141) (st := [.int 32, va_rf (some a0)]) (rest := []) (av := [va_rf (some a0), .int 32]) (x_linkV (M := mX12_longOut) (M' := mX12_print) (As := [.int 32]) (index := 344) (C := RX12) (T := TX12) (xE_12 c_38) rfl wd_944 wd_945 (wG_in (List.mem_append_left _ (List.mem_of_getElem? (i := 96) rfl)) rfl) xw_X12_print rfl (by decide) rfl rfl dX12_longOut_141) (ev_X12_print hO hP h_37) xw_X12_print rfl wd_198 dX12_longOut_141 (by decide) (by decide) (by simp [x_cat, x_catI, x_catJ])
              cases h
              exact x_callX z9 (evX_out rfl)
          · have z9 := x_call (M := mX12_longOut) (M' := mX12_print) (pc := 135) (st := [.int 116, va_rf (some a0)]) (rest := []) (av := [va_rf (some a0), .int 116]) (x_linkV (M := mX12_longOut) (M' := mX12_print) (As := [.int 116]) (index := 344) (C := RX12) (T := TX12) (xE_12 c_34) rfl wd_944 wd_945 (wG_in (List.mem_append_left _ (List.mem_of_getElem? (i := 96) rfl)) rfl) xw_X12_print rfl (by decide) rfl rfl dX12_longOut_135) (ev_X12_print hO hP h_33) xw_X12_print rfl wd_198 dX12_longOut_135 (by decide) (by decide) (by simp [x_cat, x_catI, x_catJ])
            cases h
            exact x_callX z9 (evX_out rfl)
        · have z9 := x_call (M := mX12_longOut) (M' := mX12_printFour) (pc := 129) (st := [.int 117, .int 112, .int 110, .int 105, va_rf (some a0)]) (rest := []) (av := [va_rf (some a0), .int 105, .int 110, .int 112, .int 117]) (x_linkV (M := mX12_longOut) (M' := mX12_printFour) (As := [.int 105, .int 110, .int 112, .int 117]) (index := 366) (C := RX12) (T := TX12) (xE_12 c_1) rfl wd_965 wd_966 (wG_in (List.mem_append_left _ (List.mem_of_getElem? (i := 95) rfl)) rfl) xw_X12_printFour rfl (by decide) rfl rfl dX12_longOut_129) (ev_X12_printFour hO hP h_30) xw_X12_printFour rfl wd_198 dX12_longOut_129 (by decide) (by decide) (by simp [x_cat, x_catI, x_catJ])
          cases h
          exact x_callX z9 (evX_out rfl)
      · rw [if_neg c_8] at h
        refine ev_if_ne (x := (σ.AI a_6 (Int32.toNatClampNeg v_5))) (tgt := 147) dX12_longOut_117 (by decide) (fun _ => ?_) (fun q9 => absurd q9 c_8)
        refine ev_aload_n (j := 1) (x := (some a0)) dX12_longOut_147 rfl rfl ?_
        refine ev_get (C := RX12) (T := TX12) (k := 11) inX12 (xE_12 c_1) rfl (by decide) wd_158 (Or.inl rfl) rfl dX12_longOut_148 ?_
        refine ev_iload_n (j := 0) (x := v_5) dX12_longOut_151 rfl rfl ?_
        refine ev_at (st' := [.int v_5, va_rf (some a_6)]) rfl (by rw [ea_6]) ?_
        refine ev_iald_31 c_7.1 c_7.2 dX12_longOut_152 ?_
        refine ev_iconst (v := 1) dX12_longOut_153 (by decide) ?_
        by_cases c_9 : (σ.AI a_6 (Int32.toNatClampNeg v_5)) = 1
        · rw [if_pos c_9] at h
          refine ev_icmp_ne (x := (σ.AI a_6 (Int32.toNatClampNeg v_5))) (y := 1) (tgt := 183) dX12_longOut_154 (by decide) (fun q9 => absurd c_9 q9) (fun _ => ?_)
          refine ev_aload_n (j := 1) (x := (some a0)) dX12_longOut_157 rfl rfl ?_
          refine ev_bipush (v := 111) dX12_longOut_158 (by decide) ?_
          refine ev_bipush (v := 117) dX12_longOut_160 (by decide) ?_
          refine ev_bipush (v := 116) dX12_longOut_162 (by decide) ?_
          refine ev_bipush (v := 112) dX12_longOut_164 (by decide) ?_
          rcases x_bind_e h with ⟨v_19, σ_20, h_21, h⟩ | ⟨E_27, σ_20, h_21, h⟩
          · have z9 := x_call (M := mX12_longOut) (M' := mX12_printFour) (pc := 166) (st := [.int 112, .int 116, .int 117, .int 111, va_rf (some a0)]) (rest := []) (av := [va_rf (some a0), .int 111, .int 117, .int 116, .int 112]) (x_linkV (M := mX12_longOut) (M' := mX12_printFour) (As := [.int 111, .int 117, .int 116, .int 112]) (index := 366) (C := RX12) (T := TX12) (xE_12 c_1) rfl wd_965 wd_966 (wG_in (List.mem_append_left _ (List.mem_of_getElem? (i := 95) rfl)) rfl) xw_X12_printFour rfl (by decide) rfl rfl dX12_longOut_166) (ev_X12_printFour hO hP h_21) xw_X12_printFour rfl wd_198 dX12_longOut_166 (by decide) (by decide) (by simp [x_cat, x_catI, x_catJ])
            refine x_callR z9 ?_
            refine ev_at (st' := []) rfl rfl ?_
            refine ev_aload_n (j := 1) (x := (some a0)) dX12_longOut_169 rfl rfl ?_
            refine ev_bipush (v := 117) dX12_longOut_170 (by decide) ?_
            refine ev_bipush (v := 116) dX12_longOut_172 (by decide) ?_
            refine ev_bipush (v := 32) dX12_longOut_174 (by decide) ?_
            refine ev_iconst (v := 0) dX12_longOut_176 (by decide) ?_
            obtain ⟨c_25, h⟩ := x_chk_e h
            rcases x_bind_e h with ⟨v_22, σ_23, h_24, h⟩ | ⟨E_26, σ_23, h_24, h⟩
            · have z9 := x_call (M := mX12_longOut) (M' := mX12_printFour) (pc := 177) (st := [.int 0, .int 32, .int 116, .int 117, va_rf (some a0)]) (rest := []) (av := [va_rf (some a0), .int 117, .int 116, .int 32, .int 0]) (x_linkV (M := mX12_longOut) (M' := mX12_printFour) (As := [.int 117, .int 116, .int 32, .int 0]) (index := 366) (C := RX12) (T := TX12) (xE_12 c_25) rfl wd_965 wd_966 (wG_in (List.mem_append_left _ (List.mem_of_getElem? (i := 95) rfl)) rfl) xw_X12_printFour rfl (by decide) rfl rfl dX12_longOut_177) (ev_X12_printFour hO hP h_24) xw_X12_printFour rfl wd_198 dX12_longOut_177 (by decide) (by decide) (by simp [x_cat, x_catI, x_catJ])
              refine x_callR z9 ?_
              refine ev_at (st' := []) rfl rfl ?_
              refine ev_goto (tgt := 201) dX12_longOut_180 (by decide) ?_
              exact ev_sub [1, 2, 3, 0] rfl (ev_X12_longOut_p201 hO hP ih h)
            · have z9 := x_call (M := mX12_longOut) (M' := mX12_printFour) (pc := 177) (st := [.int 0, .int 32, .int 116, .int 117, va_rf (some a0)]) (rest := []) (av := [va_rf (some a0), .int 117, .int 116, .int 32, .int 0]) (x_linkV (M := mX12_longOut) (M' := mX12_printFour) (As := [.int 117, .int 116, .int 32, .int 0]) (index := 366) (C := RX12) (T := TX12) (xE_12 c_25) rfl wd_965 wd_966 (wG_in (List.mem_append_left _ (List.mem_of_getElem? (i := 95) rfl)) rfl) xw_X12_printFour rfl (by decide) rfl rfl dX12_longOut_177) (ev_X12_printFour hO hP h_24) xw_X12_printFour rfl wd_198 dX12_longOut_177 (by decide) (by decide) (by simp [x_cat, x_catI, x_catJ])
              cases h
              exact x_callX z9 (evX_out rfl)
          · have z9 := x_call (M := mX12_longOut) (M' := mX12_printFour) (pc := 166) (st := [.int 112, .int 116, .int 117, .int 111, va_rf (some a0)]) (rest := []) (av := [va_rf (some a0), .int 111, .int 117, .int 116, .int 112]) (x_linkV (M := mX12_longOut) (M' := mX12_printFour) (As := [.int 111, .int 117, .int 116, .int 112]) (index := 366) (C := RX12) (T := TX12) (xE_12 c_1) rfl wd_965 wd_966 (wG_in (List.mem_append_left _ (List.mem_of_getElem? (i := 95) rfl)) rfl) xw_X12_printFour rfl (by decide) rfl rfl dX12_longOut_166) (ev_X12_printFour hO hP h_21) xw_X12_printFour rfl wd_198 dX12_longOut_166 (by decide) (by decide) (by simp [x_cat, x_catI, x_catJ])
            cases h
            exact x_callX z9 (evX_out rfl)
        · rw [if_neg c_9] at h
          refine ev_icmp_ne (x := (σ.AI a_6 (Int32.toNatClampNeg v_5))) (y := 1) (tgt := 183) dX12_longOut_154 (by decide) (fun _ => ?_) (fun q9 => absurd q9 c_9)
          refine ev_aload_n (j := 1) (x := (some a0)) dX12_longOut_183 rfl rfl ?_
          refine ev_bipush (v := 119) dX12_longOut_184 (by decide) ?_
          refine ev_bipush (v := 105) dX12_longOut_186 (by decide) ?_
          refine ev_bipush (v := 114) dX12_longOut_188 (by decide) ?_
          refine ev_bipush (v := 101) dX12_longOut_190 (by decide) ?_
          rcases x_bind_e h with ⟨v_10, σ_11, h_12, h⟩ | ⟨E_18, σ_11, h_12, h⟩
          · have z9 := x_call (M := mX12_longOut) (M' := mX12_printFour) (pc := 192) (st := [.int 101, .int 114, .int 105, .int 119, va_rf (some a0)]) (rest := []) (av := [va_rf (some a0), .int 119, .int 105, .int 114, .int 101]) (x_linkV (M := mX12_longOut) (M' := mX12_printFour) (As := [.int 119, .int 105, .int 114, .int 101]) (index := 366) (C := RX12) (T := TX12) (xE_12 c_1) rfl wd_965 wd_966 (wG_in (List.mem_append_left _ (List.mem_of_getElem? (i := 95) rfl)) rfl) xw_X12_printFour rfl (by decide) rfl rfl dX12_longOut_192) (ev_X12_printFour hO hP h_12) xw_X12_printFour rfl wd_198 dX12_longOut_192 (by decide) (by decide) (by simp [x_cat, x_catI, x_catJ])
            refine x_callR z9 ?_
            refine ev_at (st' := []) rfl rfl ?_
            refine ev_aload_n (j := 1) (x := (some a0)) dX12_longOut_195 rfl rfl ?_
            refine ev_bipush (v := 32) dX12_longOut_196 (by decide) ?_
            obtain ⟨c_16, h⟩ := x_chk_e h
            rcases x_bind_e h with ⟨v_13, σ_14, h_15, h⟩ | ⟨E_17, σ_14, h_15, h⟩
            · have z9 := x_call (M := mX12_longOut) (M' := mX12_print) (pc := 198) (st := [.int 32, va_rf (some a0)]) (rest := []) (av := [va_rf (some a0), .int 32]) (x_linkV (M := mX12_longOut) (M' := mX12_print) (As := [.int 32]) (index := 344) (C := RX12) (T := TX12) (xE_12 c_16) rfl wd_944 wd_945 (wG_in (List.mem_append_left _ (List.mem_of_getElem? (i := 96) rfl)) rfl) xw_X12_print rfl (by decide) rfl rfl dX12_longOut_198) (ev_X12_print hO hP h_15) xw_X12_print rfl wd_198 dX12_longOut_198 (by decide) (by decide) (by simp [x_cat, x_catI, x_catJ])
              refine x_callR z9 ?_
              refine ev_at (st' := []) rfl rfl ?_
              exact ev_sub [1, 2, 3, 0] rfl (ev_X12_longOut_p201 hO hP ih h)
            · have z9 := x_call (M := mX12_longOut) (M' := mX12_print) (pc := 198) (st := [.int 32, va_rf (some a0)]) (rest := []) (av := [va_rf (some a0), .int 32]) (x_linkV (M := mX12_longOut) (M' := mX12_print) (As := [.int 32]) (index := 344) (C := RX12) (T := TX12) (xE_12 c_16) rfl wd_944 wd_945 (wG_in (List.mem_append_left _ (List.mem_of_getElem? (i := 96) rfl)) rfl) xw_X12_print rfl (by decide) rfl rfl dX12_longOut_198) (ev_X12_print hO hP h_15) xw_X12_print rfl wd_198 dX12_longOut_198 (by decide) (by decide) (by simp [x_cat, x_catI, x_catJ])
              cases h
              exact x_callX z9 (evX_out rfl)
          · have z9 := x_call (M := mX12_longOut) (M' := mX12_printFour) (pc := 192) (st := [.int 101, .int 114, .int 105, .int 119, va_rf (some a0)]) (rest := []) (av := [va_rf (some a0), .int 119, .int 105, .int 114, .int 101]) (x_linkV (M := mX12_longOut) (M' := mX12_printFour) (As := [.int 119, .int 105, .int 114, .int 101]) (index := 366) (C := RX12) (T := TX12) (xE_12 c_1) rfl wd_965 wd_966 (wG_in (List.mem_append_left _ (List.mem_of_getElem? (i := 95) rfl)) rfl) xw_X12_printFour rfl (by decide) rfl rfl dX12_longOut_192) (ev_X12_printFour hO hP h_12) xw_X12_printFour rfl wd_198 dX12_longOut_192 (by decide) (by decide) (by simp [x_cat, x_catI, x_catJ])
            cases h
            exact x_callX z9 (evX_out rfl)
set_option maxHeartbeats 4000000 in
set_option maxRecDepth 100000 in
theorem ev_X12_longOut_L41 {l : Launch} {G : xG} (hO : x_OK l G) {P : xP} (hP : x_PG P G) {a0 : Nat} : ∀ (n : Nat) {v1 : Int32} {v2 : Int32} {σ σ' : xS} {rr : Unit ⊕ String}, dm_X12_longOut_L41 P a0 n v1 v2 σ = some (rr, σ') → Ev l G mX12_longOut 41 [(0, va_rf (some a0)), (1, .int v1), (2, .int v2)] [] σ (xrV rr) σ' := by
  intro n
  induction n with
  | zero => intro v1 v2 σ σ' rr h; cases h
  | succ n ih =>
    intro v1 v2 σ σ' rr h
    rw [dm_X12_longOut_L41] at h
    refine ev_iload_n (j := 2) (x := v2) dX12_longOut_41 rfl rfl ?_
    refine ev_aload_n (j := 0) (x := (some a0)) dX12_longOut_42 rfl rfl ?_
    obtain ⟨c_1, h⟩ := x_chk_e h
    refine ev_get (C := RX12) (T := TX12) (k := 8) inX12 (xE_12 c_1) rfl (by decide) wd_155 (Or.inl rfl) rfl dX12_longOut_43 ?_
    refine ev_iload_n (j := 1) (x := v1) dX12_longOut_46 rfl rfl ?_
    obtain ⟨a_2, ea_2, h⟩ := x_some_e h
    refine ev_at (st' := [.int v1, va_rf (some a_2), .int v2]) rfl (by rw [ea_2]) ?_
    obtain ⟨c_3, h⟩ := x_chk_e h
    refine ev_iald_31 c_3.1 c_3.2 dX12_longOut_47 ?_
    by_cases c_4 : (σ.AI a_2 (Int32.toNatClampNeg v1)) ≤ v2
    · rw [if_pos c_4] at h
      refine ev_icmp_ge (x := v2) (y := (σ.AI a_2 (Int32.toNatClampNeg v1))) (tgt := 82) dX12_longOut_48 (by decide) (fun _ => ?_) (fun q9 => absurd c_4 q9)
      refine ev_aload_n (j := 0) (x := (some a0)) dX12_longOut_82 rfl rfl ?_
      refine ev_bipush (v := 41) dX12_longOut_83 (by decide) ?_
      rcases x_bind_e h with ⟨v_5, σ_6, h_7, h⟩ | ⟨E_13, σ_6, h_7, h⟩
      · have z9 := x_call (M := mX12_longOut) (M' := mX12_print) (pc := 85) (st := [.int 41, va_rf (some a0)]) (rest := []) (av := [va_rf (some a0), .int 41]) (x_linkV (M := mX12_longOut) (M' := mX12_print) (As := [.int 41]) (index := 344) (C := RX12) (T := TX12) (xE_12 c_1) rfl wd_944 wd_945 (wG_in (List.mem_append_left _ (List.mem_of_getElem? (i := 96) rfl)) rfl) xw_X12_print rfl (by decide) rfl rfl dX12_longOut_85) (ev_X12_print hO hP h_7) xw_X12_print rfl wd_198 dX12_longOut_85 (by decide) (by decide) (by simp [x_cat, x_catI, x_catJ])
        refine x_callR z9 ?_
        refine ev_at (st' := []) rfl rfl ?_
        refine ev_aload_n (j := 0) (x := (some a0)) dX12_longOut_88 rfl rfl ?_
        obtain ⟨c_11, h⟩ := x_chk_e h
        rcases x_bind_e h with ⟨v_8, σ_9, h_10, h⟩ | ⟨E_12, σ_9, h_10, h⟩
        · have z9 := x_call (M := mX12_longOut) (M' := mX12_printEnd) (pc := 89) (st := [va_rf (some a0)]) (rest := []) (av := [va_rf (some a0)]) (x_linkV (M := mX12_longOut) (M' := mX12_printEnd) (As := []) (index := 363) (C := RX12) (T := TX12) (xE_12 c_11) rfl wd_956 wd_957 (wG_in (List.mem_append_left _ (List.mem_of_getElem? (i := 98) rfl)) rfl) xw_X12_printEnd rfl (by decide) rfl rfl dX12_longOut_89) (ev_X12_printEnd hO hP h_10) xw_X12_printEnd rfl wd_198 dX12_longOut_89 (by decide) (by decide) (by simp [x_cat, x_catI, x_catJ])
          refine x_callR z9 ?_
          refine ev_at (st' := []) rfl rfl ?_
          refine ev_iconst (v := 0) dX12_longOut_92 (by decide) ?_
          refine ev_istore_n (i := 2) (lv' := [(2, .int 0), (0, va_rf (some a0)), (1, .int v1)]) dX12_longOut_93 rfl (by decide) rfl ?_
          exact ev_sub [1, 2, 0] rfl (ev_X12_longOut_L94 hO hP P.N h)
        · have z9 := x_call (M := mX12_longOut) (M' := mX12_printEnd) (pc := 89) (st := [va_rf (some a0)]) (rest := []) (av := [va_rf (some a0)]) (x_linkV (M := mX12_longOut) (M' := mX12_printEnd) (As := []) (index := 363) (C := RX12) (T := TX12) (xE_12 c_11) rfl wd_956 wd_957 (wG_in (List.mem_append_left _ (List.mem_of_getElem? (i := 98) rfl)) rfl) xw_X12_printEnd rfl (by decide) rfl rfl dX12_longOut_89) (ev_X12_printEnd hO hP h_10) xw_X12_printEnd rfl wd_198 dX12_longOut_89 (by decide) (by decide) (by simp [x_cat, x_catI, x_catJ])
          cases h
          exact x_callX z9 (evX_out rfl)
      · have z9 := x_call (M := mX12_longOut) (M' := mX12_print) (pc := 85) (st := [.int 41, va_rf (some a0)]) (rest := []) (av := [va_rf (some a0), .int 41]) (x_linkV (M := mX12_longOut) (M' := mX12_print) (As := [.int 41]) (index := 344) (C := RX12) (T := TX12) (xE_12 c_1) rfl wd_944 wd_945 (wG_in (List.mem_append_left _ (List.mem_of_getElem? (i := 96) rfl)) rfl) xw_X12_print rfl (by decide) rfl rfl dX12_longOut_85) (ev_X12_print hO hP h_7) xw_X12_print rfl wd_198 dX12_longOut_85 (by decide) (by decide) (by simp [x_cat, x_catI, x_catJ])
        cases h
        exact x_callX z9 (evX_out rfl)
    · rw [if_neg c_4] at h
      refine ev_icmp_ge (x := v2) (y := (σ.AI a_2 (Int32.toNatClampNeg v1))) (tgt := 82) dX12_longOut_48 (by decide) (fun q9 => absurd q9 c_4) (fun _ => ?_)
      refine ev_iload_n (j := 2) (x := v2) dX12_longOut_51 rfl rfl ?_
      by_cases c_14 : v2 ≤ 0
      · rw [if_pos c_14] at h
        refine ev_if_le (x := v2) (tgt := 61) dX12_longOut_52 (by decide) (fun _ => ?_) (fun q9 => absurd c_14 q9)
        exact ev_sub [0, 1, 2] rfl (ev_X12_longOut_p61 hO hP ih h)
      · rw [if_neg c_14] at h
        refine ev_if_le (x := v2) (tgt := 61) dX12_longOut_52 (by decide) (fun q9 => absurd q9 c_14) (fun _ => ?_)
        refine ev_aload_n (j := 0) (x := (some a0)) dX12_longOut_55 rfl rfl ?_
        refine ev_bipush (v := 44) dX12_longOut_56 (by decide) ?_
        rcases x_bind_e h with ⟨v_15, σ_16, h_17, h⟩ | ⟨E_18, σ_16, h_17, h⟩
        · have z9 := x_call (M := mX12_longOut) (M' := mX12_print) (pc := 58) (st := [.int 44, va_rf (some a0)]) (rest := []) (av := [va_rf (some a0), .int 44]) (x_linkV (M := mX12_longOut) (M' := mX12_print) (As := [.int 44]) (index := 344) (C := RX12) (T := TX12) (xE_12 c_1) rfl wd_944 wd_945 (wG_in (List.mem_append_left _ (List.mem_of_getElem? (i := 96) rfl)) rfl) xw_X12_print rfl (by decide) rfl rfl dX12_longOut_58) (ev_X12_print hO hP h_17) xw_X12_print rfl wd_198 dX12_longOut_58 (by decide) (by decide) (by simp [x_cat, x_catI, x_catJ])
          refine x_callR z9 ?_
          refine ev_at (st' := []) rfl rfl ?_
          exact ev_sub [0, 1, 2] rfl (ev_X12_longOut_p61 hO hP ih h)
        · have z9 := x_call (M := mX12_longOut) (M' := mX12_print) (pc := 58) (st := [.int 44, va_rf (some a0)]) (rest := []) (av := [va_rf (some a0), .int 44]) (x_linkV (M := mX12_longOut) (M' := mX12_print) (As := [.int 44]) (index := 344) (C := RX12) (T := TX12) (xE_12 c_1) rfl wd_944 wd_945 (wG_in (List.mem_append_left _ (List.mem_of_getElem? (i := 96) rfl)) rfl) xw_X12_print rfl (by decide) rfl rfl dX12_longOut_58) (ev_X12_print hO hP h_17) xw_X12_print rfl wd_198 dX12_longOut_58 (by decide) (by decide) (by simp [x_cat, x_catI, x_catJ])
          cases h
          exact x_callX z9 (evX_out rfl)
set_option maxHeartbeats 4000000 in
set_option maxRecDepth 100000 in
theorem ev_X12_longOut {l : Launch} {G : xG} (hO : x_OK l G) {P : xP} (hP : x_PG P G) {a0 : Nat} {v1 : Int32} {σ σ' : xS} {rr : Unit ⊕ String} (h : dm_X12_longOut P a0 v1 σ = some (rr, σ')) : EvM l G mX12_longOut [va_rf (some a0), .int v1] σ (xrV rr) σ' := by
  unfold dm_X12_longOut at h
  refine evM_of hO (by decide +kernel) (x_lenI (by simp [x_cat, x_catI, x_catJ, mX12_longOut, xM.maxL])) ?_
  refine Eq.mp (congrArg (fun z => Ev l G mX12_longOut 0 z [] σ (xrV rr) σ') (show [(0, va_rf (some a0)), (1, .int v1)] = lv_args 0 [va_rf (some a0), .int v1] by simp [lv_args, x_cat, x_catI, x_catJ])) ?_
  refine ev_aload_n (j := 0) (x := (some a0)) dX12_longOut_0 rfl rfl ?_
  refine ev_bipush (v := 109) dX12_longOut_1 (by decide) ?_
  refine ev_bipush (v := 111) dX12_longOut_3 (by decide) ?_
  refine ev_bipush (v := 100) dX12_longOut_5 (by decide) ?_
  refine ev_bipush (v := 117) dX12_longOut_7 (by decide) ?_
  obtain ⟨c_4, h⟩ := x_chk_e h
  rcases x_bind_e h with ⟨v_1, σ_2, h_3, h⟩ | ⟨E_22, σ_2, h_3, h⟩
  · have z9 := x_call (M := mX12_longOut) (M' := mX12_printFour) (pc := 9) (st := [.int 117, .int 100, .int 111, .int 109, va_rf (some a0)]) (rest := []) (av := [va_rf (some a0), .int 109, .int 111, .int 100, .int 117]) (x_linkV (M := mX12_longOut) (M' := mX12_printFour) (As := [.int 109, .int 111, .int 100, .int 117]) (index := 366) (C := RX12) (T := TX12) (xE_12 c_4) rfl wd_965 wd_966 (wG_in (List.mem_append_left _ (List.mem_of_getElem? (i := 95) rfl)) rfl) xw_X12_printFour rfl (by decide) rfl rfl dX12_longOut_9) (ev_X12_printFour hO hP h_3) xw_X12_printFour rfl wd_198 dX12_longOut_9 (by decide) (by decide) (by simp [x_cat, x_catI, x_catJ])
    refine x_callR z9 ?_
    refine ev_at (st' := []) rfl rfl ?_
    refine ev_aload_n (j := 0) (x := (some a0)) dX12_longOut_12 rfl rfl ?_
    refine ev_bipush (v := 108) dX12_longOut_13 (by decide) ?_
    refine ev_bipush (v := 101) dX12_longOut_15 (by decide) ?_
    refine ev_bipush (v := 32) dX12_longOut_17 (by decide) ?_
    refine ev_iconst (v := 0) dX12_longOut_19 (by decide) ?_
    obtain ⟨c_8, h⟩ := x_chk_e h
    rcases x_bind_e h with ⟨v_5, σ_6, h_7, h⟩ | ⟨E_21, σ_6, h_7, h⟩
    · have z9 := x_call (M := mX12_longOut) (M' := mX12_printFour) (pc := 20) (st := [.int 0, .int 32, .int 101, .int 108, va_rf (some a0)]) (rest := []) (av := [va_rf (some a0), .int 108, .int 101, .int 32, .int 0]) (x_linkV (M := mX12_longOut) (M' := mX12_printFour) (As := [.int 108, .int 101, .int 32, .int 0]) (index := 366) (C := RX12) (T := TX12) (xE_12 c_8) rfl wd_965 wd_966 (wG_in (List.mem_append_left _ (List.mem_of_getElem? (i := 95) rfl)) rfl) xw_X12_printFour rfl (by decide) rfl rfl dX12_longOut_20) (ev_X12_printFour hO hP h_7) xw_X12_printFour rfl wd_198 dX12_longOut_20 (by decide) (by decide) (by simp [x_cat, x_catI, x_catJ])
      refine x_callR z9 ?_
      refine ev_at (st' := []) rfl rfl ?_
      refine ev_aload_n (j := 0) (x := (some a0)) dX12_longOut_23 rfl rfl ?_
      refine ev_aload_n (j := 0) (x := (some a0)) dX12_longOut_24 rfl rfl ?_
      obtain ⟨c_9, h⟩ := x_chk_e h
      refine ev_get (C := RX12) (T := TX12) (k := 7) inX12 (xE_12 c_9) rfl (by decide) wd_154 (Or.inl rfl) rfl dX12_longOut_25 ?_
      refine ev_iload_n (j := 1) (x := v1) dX12_longOut_28 rfl rfl ?_
      obtain ⟨a_10, ea_10, h⟩ := x_some_e h
      refine ev_at (st' := [.int v1, va_rf (some a_10), va_rf (some a0)]) rfl (by rw [ea_10]) ?_
      obtain ⟨c_11, h⟩ := x_chk_e h
      refine ev_iald_31 c_11.1 c_11.2 dX12_longOut_29 ?_
      rcases x_bind_e h with ⟨v_12, σ_13, h_14, h⟩ | ⟨E_20, σ_13, h_14, h⟩
      · have z9 := x_call (M := mX12_longOut) (M' := mX12_printName) (pc := 30) (st := [.int (σ_6.AI a_10 (Int32.toNatClampNeg v1)), va_rf (some a0)]) (rest := []) (av := [va_rf (some a0), .int (σ_6.AI a_10 (Int32.toNatClampNeg v1))]) (x_linkV (M := mX12_longOut) (M' := mX12_printName) (As := [.int (σ_6.AI a_10 (Int32.toNatClampNeg v1))]) (index := 350) (C := RX12) (T := TX12) (xE_12 c_9) rfl wd_947 wd_948 (wG_in (List.mem_append_left _ (List.mem_of_getElem? (i := 97) rfl)) rfl) xw_X12_printName rfl (by decide) rfl rfl dX12_longOut_30) (ev_X12_printName hO hP h_14) xw_X12_printName rfl wd_198 dX12_longOut_30 (by decide) (by decide) (by simp [x_cat, x_catI, x_catJ])
        refine x_callR z9 ?_
        refine ev_at (st' := []) rfl rfl ?_
        refine ev_aload_n (j := 0) (x := (some a0)) dX12_longOut_33 rfl rfl ?_
        refine ev_bipush (v := 40) dX12_longOut_34 (by decide) ?_
        obtain ⟨c_18, h⟩ := x_chk_e h
        rcases x_bind_e h with ⟨v_15, σ_16, h_17, h⟩ | ⟨E_19, σ_16, h_17, h⟩
        · have z9 := x_call (M := mX12_longOut) (M' := mX12_print) (pc := 36) (st := [.int 40, va_rf (some a0)]) (rest := []) (av := [va_rf (some a0), .int 40]) (x_linkV (M := mX12_longOut) (M' := mX12_print) (As := [.int 40]) (index := 344) (C := RX12) (T := TX12) (xE_12 c_18) rfl wd_944 wd_945 (wG_in (List.mem_append_left _ (List.mem_of_getElem? (i := 96) rfl)) rfl) xw_X12_print rfl (by decide) rfl rfl dX12_longOut_36) (ev_X12_print hO hP h_17) xw_X12_print rfl wd_198 dX12_longOut_36 (by decide) (by decide) (by simp [x_cat, x_catI, x_catJ])
          refine x_callR z9 ?_
          refine ev_at (st' := []) rfl rfl ?_
          refine ev_iconst (v := 0) dX12_longOut_39 (by decide) ?_
          refine ev_istore_n (i := 2) (lv' := [(2, .int 0), (0, va_rf (some a0)), (1, .int v1)]) dX12_longOut_40 rfl (by decide) rfl ?_
          exact ev_sub [1, 2, 0] rfl (ev_X12_longOut_L41 hO hP P.N h)
        · have z9 := x_call (M := mX12_longOut) (M' := mX12_print) (pc := 36) (st := [.int 40, va_rf (some a0)]) (rest := []) (av := [va_rf (some a0), .int 40]) (x_linkV (M := mX12_longOut) (M' := mX12_print) (As := [.int 40]) (index := 344) (C := RX12) (T := TX12) (xE_12 c_18) rfl wd_944 wd_945 (wG_in (List.mem_append_left _ (List.mem_of_getElem? (i := 96) rfl)) rfl) xw_X12_print rfl (by decide) rfl rfl dX12_longOut_36) (ev_X12_print hO hP h_17) xw_X12_print rfl wd_198 dX12_longOut_36 (by decide) (by decide) (by simp [x_cat, x_catI, x_catJ])
          cases h
          exact x_callX z9 (evX_out rfl)
      · have z9 := x_call (M := mX12_longOut) (M' := mX12_printName) (pc := 30) (st := [.int (σ_6.AI a_10 (Int32.toNatClampNeg v1)), va_rf (some a0)]) (rest := []) (av := [va_rf (some a0), .int (σ_6.AI a_10 (Int32.toNatClampNeg v1))]) (x_linkV (M := mX12_longOut) (M' := mX12_printName) (As := [.int (σ_6.AI a_10 (Int32.toNatClampNeg v1))]) (index := 350) (C := RX12) (T := TX12) (xE_12 c_9) rfl wd_947 wd_948 (wG_in (List.mem_append_left _ (List.mem_of_getElem? (i := 97) rfl)) rfl) xw_X12_printName rfl (by decide) rfl rfl dX12_longOut_30) (ev_X12_printName hO hP h_14) xw_X12_printName rfl wd_198 dX12_longOut_30 (by decide) (by decide) (by simp [x_cat, x_catI, x_catJ])
        cases h
        exact x_callX z9 (evX_out rfl)
    · have z9 := x_call (M := mX12_longOut) (M' := mX12_printFour) (pc := 20) (st := [.int 0, .int 32, .int 101, .int 108, va_rf (some a0)]) (rest := []) (av := [va_rf (some a0), .int 108, .int 101, .int 32, .int 0]) (x_linkV (M := mX12_longOut) (M' := mX12_printFour) (As := [.int 108, .int 101, .int 32, .int 0]) (index := 366) (C := RX12) (T := TX12) (xE_12 c_8) rfl wd_965 wd_966 (wG_in (List.mem_append_left _ (List.mem_of_getElem? (i := 95) rfl)) rfl) xw_X12_printFour rfl (by decide) rfl rfl dX12_longOut_20) (ev_X12_printFour hO hP h_7) xw_X12_printFour rfl wd_198 dX12_longOut_20 (by decide) (by decide) (by simp [x_cat, x_catI, x_catJ])
      cases h
      exact x_callX z9 (evX_out rfl)
  · have z9 := x_call (M := mX12_longOut) (M' := mX12_printFour) (pc := 9) (st := [.int 117, .int 100, .int 111, .int 109, va_rf (some a0)]) (rest := []) (av := [va_rf (some a0), .int 109, .int 111, .int 100, .int 117]) (x_linkV (M := mX12_longOut) (M' := mX12_printFour) (As := [.int 109, .int 111, .int 100, .int 117]) (index := 366) (C := RX12) (T := TX12) (xE_12 c_4) rfl wd_965 wd_966 (wG_in (List.mem_append_left _ (List.mem_of_getElem? (i := 95) rfl)) rfl) xw_X12_printFour rfl (by decide) rfl rfl dX12_longOut_9) (ev_X12_printFour hO hP h_3) xw_X12_printFour rfl wd_198 dX12_longOut_9 (by decide) (by decide) (by simp [x_cat, x_catI, x_catJ])
    cases h
    exact x_callX z9 (evX_out rfl)
set_option maxHeartbeats 4000000 in
set_option maxRecDepth 100000 in
theorem ev_X12_shortOut_p77 {l : Launch} {G : xG} (hO : x_OK l G) {P : xP} (hP : x_PG P G) {a0 : Nat} {k28 : Int32 → Int32 → xS → xO Unit} (hk28 : ∀ {v1 : Int32} {v2 : Int32} {σ σ' : xS} {rr : Unit ⊕ String}, k28 v1 v2 σ = some (rr, σ') → Ev l G mX12_shortOut 28 [(0, va_rf (some a0)), (1, .int v1), (2, .int v2)] [] σ (xrV rr) σ') {v1 : Int32} {v2 : Int32} {v3 : Int32} {s0 : Option Nat} {s1 : Int32} {σ σ' : xS} {rr : Unit ⊕ String} (h : dm_X12_shortOut_p77 P k28 a0 v1 v2 v3 s0 s1 σ = some (rr, σ')) : Ev l G mX12_shortOut 77 [(0, va_rf (some a0)), (1, .int v1), (2, .int v2), (3, .int v3)] [.int s1, va_rf s0] σ (xrV rr) σ' := by
  unfold dm_X12_shortOut_p77 at h
  obtain ⟨a_1, ea_1, h⟩ := x_some_e h
  refine ev_at (st' := [.int s1, va_rf (some a_1)]) rfl (by rw [ea_1]) ?_
  obtain ⟨c_5, h⟩ := x_chk_e h
  rcases x_bind_e h with ⟨v_2, σ_3, h_4, h⟩ | ⟨E_36, σ_3, h_4, h⟩
  · have z9 := x_call (M := mX12_shortOut) (M' := mX12_print) (pc := 77) (st := [.int s1, va_rf (some a_1)]) (rest := []) (av := [va_rf (some a_1), .int s1]) (x_linkV (M := mX12_shortOut) (M' := mX12_print) (As := [.int s1]) (index := 344) (C := RX12) (T := TX12) (xE_12 c_5) rfl wd_944 wd_945 (wG_in (List.mem_append_left _ (List.mem_of_getElem? (i := 96) rfl)) rfl) xw_X12_print rfl (by decide) rfl rfl dX12_shortOut_77) (ev_X12_print hO hP h_4) xw_X12_print rfl wd_198 dX12_shortOut_77 (by decide) (by decide) (by simp [x_cat, x_catI, x_catJ])
    refine x_callR z9 ?_
    refine ev_at (st' := []) rfl rfl ?_
    refine ev_aload_n (j := 0) (x := (some a0)) dX12_shortOut_80 rfl rfl ?_
    refine ev_bipush (v := 32) dX12_shortOut_81 (by decide) ?_
    obtain ⟨c_9, h⟩ := x_chk_e h
    rcases x_bind_e h with ⟨v_6, σ_7, h_8, h⟩ | ⟨E_35, σ_7, h_8, h⟩
    · have z9 := x_call (M := mX12_shortOut) (M' := mX12_print) (pc := 83) (st := [.int 32, va_rf (some a0)]) (rest := []) (av := [va_rf (some a0), .int 32]) (x_linkV (M := mX12_shortOut) (M' := mX12_print) (As := [.int 32]) (index := 344) (C := RX12) (T := TX12) (xE_12 c_9) rfl wd_944 wd_945 (wG_in (List.mem_append_left _ (List.mem_of_getElem? (i := 96) rfl)) rfl) xw_X12_print rfl (by decide) rfl rfl dX12_shortOut_83) (ev_X12_print hO hP h_8) xw_X12_print rfl wd_198 dX12_shortOut_83 (by decide) (by decide) (by simp [x_cat, x_catI, x_catJ])
      refine x_callR z9 ?_
      refine ev_at (st' := []) rfl rfl ?_
      refine ev_aload_n (j := 0) (x := (some a0)) dX12_shortOut_86 rfl rfl ?_
      refine ev_aload_n (j := 0) (x := (some a0)) dX12_shortOut_87 rfl rfl ?_
      obtain ⟨c_10, h⟩ := x_chk_e h
      refine ev_get (C := RX12) (T := TX12) (k := 10) inX12 (xE_12 c_10) rfl (by decide) wd_157 (Or.inl rfl) rfl dX12_shortOut_88 ?_
      refine ev_iload_n (j := 3) (x := v3) dX12_shortOut_91 rfl rfl ?_
      obtain ⟨a_11, ea_11, h⟩ := x_some_e h
      refine ev_at (st' := [.int v3, va_rf (some a_11), va_rf (some a0)]) rfl (by rw [ea_11]) ?_
      obtain ⟨c_12, h⟩ := x_chk_e h
      refine ev_iald_31 c_12.1 c_12.2 dX12_shortOut_92 ?_
      rcases x_bind_e h with ⟨v_13, σ_14, h_15, h⟩ | ⟨E_34, σ_14, h_15, h⟩
      · have z9 := x_call (M := mX12_shortOut) (M' := mX12_printName) (pc := 93) (st := [.int (σ_7.AI a_11 (Int32.toNatClampNeg v3)), va_rf (some a0)]) (rest := []) (av := [va_rf (some a0), .int (σ_7.AI a_11 (Int32.toNatClampNeg v3))]) (x_linkV (M := mX12_shortOut) (M' := mX12_printName) (As := [.int (σ_7.AI a_11 (Int32.toNatClampNeg v3))]) (index := 350) (C := RX12) (T := TX12) (xE_12 c_10) rfl wd_947 wd_948 (wG_in (List.mem_append_left _ (List.mem_of_getElem? (i := 97) rfl)) rfl) xw_X12_printName rfl (by decide) rfl rfl dX12_shortOut_93) (ev_X12_printName hO hP h_15) xw_X12_printName rfl wd_198 dX12_shortOut_93 (by decide) (by decide) (by simp [x_cat, x_catI, x_catJ])
        refine x_callR z9 ?_
        refine ev_at (st' := []) rfl rfl ?_
        refine ev_aload_n (j := 0) (x := (some a0)) dX12_shortOut_96 rfl rfl ?_
        refine ev_bipush (v := 32) dX12_shortOut_97 (by decide) ?_
        obtain ⟨c_19, h⟩ := x_chk_e h
        rcases x_bind_e h with ⟨v_16, σ_17, h_18, h⟩ | ⟨E_33, σ_17, h_18, h⟩
        · have z9 := x_call (M := mX12_shortOut) (M' := mX12_print) (pc := 99) (st := [.int 32, va_rf (some a0)]) (rest := []) (av := [va_rf (some a0), .int 32]) (x_linkV (M := mX12_shortOut) (M' := mX12_print) (As := [.int 32]) (index := 344) (C := RX12) (T := TX12) (xE_12 c_19) rfl wd_944 wd_945 (wG_in (List.mem_append_left _ (List.mem_of_getElem? (i := 96) rfl)) rfl) xw_X12_print rfl (by decide) rfl rfl dX12_shortOut_99) (ev_X12_print hO hP h_18) xw_X12_print rfl wd_198 dX12_shortOut_99 (by decide) (by decide) (by simp [x_cat, x_catI, x_catJ])
          refine x_callR z9 ?_
          refine ev_at (st' := []) rfl rfl ?_
          refine ev_aload_n (j := 0) (x := (some a0)) dX12_shortOut_102 rfl rfl ?_
          refine ev_aload_n (j := 0) (x := (some a0)) dX12_shortOut_103 rfl rfl ?_
          obtain ⟨c_20, h⟩ := x_chk_e h
          refine ev_get (C := RX12) (T := TX12) (k := 12) inX12 (xE_12 c_20) rfl (by decide) wd_159 (Or.inl rfl) rfl dX12_shortOut_104 ?_
          refine ev_iload_n (j := 3) (x := v3) dX12_shortOut_107 rfl rfl ?_
          obtain ⟨a_21, ea_21, h⟩ := x_some_e h
          refine ev_at (st' := [.int v3, va_rf (some a_21), va_rf (some a0)]) rfl (by rw [ea_21]) ?_
          obtain ⟨c_22, h⟩ := x_chk_e h
          refine ev_iald_31 c_22.1 c_22.2 dX12_shortOut_108 ?_
          rcases x_bind_e h with ⟨v_23, σ_24, h_25, h⟩ | ⟨E_32, σ_24, h_25, h⟩
          · have z9 := x_call (M := mX12_shortOut) (M' := mX12_printNumber) (pc := 109) (st := [.int (σ_17.AI a_21 (Int32.toNatClampNeg v3)), va_rf (some a0)]) (rest := []) (av := [va_rf (some a0), .int (σ_17.AI a_21 (Int32.toNatClampNeg v3))]) (x_linkV (M := mX12_shortOut) (M' := mX12_printNumber) (As := [.int (σ_17.AI a_21 (Int32.toNatClampNeg v3))]) (index := 347) (C := RX12) (T := TX12) (xE_12 c_20) rfl wd_950 wd_951 (wG_in (List.mem_append_left _ (List.mem_of_getElem? (i := 99) rfl)) rfl) xw_X12_printNumber rfl (by decide) rfl rfl dX12_shortOut_109) (ev_X12_printNumber hO hP h_25) xw_X12_printNumber rfl wd_198 dX12_shortOut_109 (by decide) (by decide) (by simp [x_cat, x_catI, x_catJ])
            refine x_callR z9 ?_
            refine ev_at (st' := []) rfl rfl ?_
            refine ev_aload_n (j := 0) (x := (some a0)) dX12_shortOut_112 rfl rfl ?_
            obtain ⟨c_29, h⟩ := x_chk_e h
            rcases x_bind_e h with ⟨v_26, σ_27, h_28, h⟩ | ⟨E_31, σ_27, h_28, h⟩
            · have z9 := x_call (M := mX12_shortOut) (M' := mX12_printEnd) (pc := 113) (st := [va_rf (some a0)]) (rest := []) (av := [va_rf (some a0)]) (x_linkV (M := mX12_shortOut) (M' := mX12_printEnd) (As := []) (index := 363) (C := RX12) (T := TX12) (xE_12 c_29) rfl wd_956 wd_957 (wG_in (List.mem_append_left _ (List.mem_of_getElem? (i := 98) rfl)) rfl) xw_X12_printEnd rfl (by decide) rfl rfl dX12_shortOut_113) (ev_X12_printEnd hO hP h_28) xw_X12_printEnd rfl wd_198 dX12_shortOut_113 (by decide) (by decide) (by simp [x_cat, x_catI, x_catJ])
              refine x_callR z9 ?_
              refine ev_at (st' := []) rfl rfl ?_
              obtain ⟨v_30, ev_30, h⟩ := x_let_e h
              refine ev_iinc (j := 2) (x := v2) (v := v_30) (lv' := [(2, .int v_30), (0, va_rf (some a0)), (1, .int v1), (3, .int v3)]) dX12_shortOut_116 rfl (by rw [ev_30]; rfl) (by decide) rfl ?_
              refine ev_goto (tgt := 28) dX12_shortOut_119 (by decide) ?_
              exact ev_sub [1, 2, 0] rfl (hk28 h)
            · have z9 := x_call (M := mX12_shortOut) (M' := mX12_printEnd) (pc := 113) (st := [va_rf (some a0)]) (rest := []) (av := [va_rf (some a0)]) (x_linkV (M := mX12_shortOut) (M' := mX12_printEnd) (As := []) (index := 363) (C := RX12) (T := TX12) (xE_12 c_29) rfl wd_956 wd_957 (wG_in (List.mem_append_left _ (List.mem_of_getElem? (i := 98) rfl)) rfl) xw_X12_printEnd rfl (by decide) rfl rfl dX12_shortOut_113) (ev_X12_printEnd hO hP h_28) xw_X12_printEnd rfl wd_198 dX12_shortOut_113 (by decide) (by decide) (by simp [x_cat, x_catI, x_catJ])
              cases h
              exact x_callX z9 (evX_out rfl)
          · have z9 := x_call (M := mX12_shortOut) (M' := mX12_printNumber) (pc := 109) (st := [.int (σ_17.AI a_21 (Int32.toNatClampNeg v3)), va_rf (some a0)]) (rest := []) (av := [va_rf (some a0), .int (σ_17.AI a_21 (Int32.toNatClampNeg v3))]) (x_linkV (M := mX12_shortOut) (M' := mX12_printNumber) (As := [.int (σ_17.AI a_21 (Int32.toNatClampNeg v3))]) (index := 347) (C := RX12) (T := TX12) (xE_12 c_20) rfl wd_950 wd_951 (wG_in (List.mem_append_left _ (List.mem_of_getElem? (i := 99) rfl)) rfl) xw_X12_printNumber rfl (by decide) rfl rfl dX12_shortOut_109) (ev_X12_printNumber hO hP h_25) xw_X12_printNumber rfl wd_198 dX12_shortOut_109 (by decide) (by decide) (by simp [x_cat, x_catI, x_catJ])
            cases h
            exact x_callX z9 (evX_out rfl)
        · have z9 := x_call (M := mX12_shortOut) (M' := mX12_print) (pc := 99) (st := [.int 32, va_rf (some a0)]) (rest := []) (av := [va_rf (some a0), .int 32]) (x_linkV (M := mX12_shortOut) (M' := mX12_print) (As := [.int 32]) (index := 344) (C := RX12) (T := TX12) (xE_12 c_19) rfl wd_944 wd_945 (wG_in (List.mem_append_left _ (List.mem_of_getElem? (i := 96) rfl)) rfl) xw_X12_print rfl (by decide) rfl rfl dX12_shortOut_99) (ev_X12_print hO hP h_18) xw_X12_print rfl wd_198 dX12_shortOut_99 (by decide) (by decide) (by simp [x_cat, x_catI, x_catJ])
          cases h
          exact x_callX z9 (evX_out rfl)
      · have z9 := x_call (M := mX12_shortOut) (M' := mX12_printName) (pc := 93) (st := [.int (σ_7.AI a_11 (Int32.toNatClampNeg v3)), va_rf (some a0)]) (rest := []) (av := [va_rf (some a0), .int (σ_7.AI a_11 (Int32.toNatClampNeg v3))]) (x_linkV (M := mX12_shortOut) (M' := mX12_printName) (As := [.int (σ_7.AI a_11 (Int32.toNatClampNeg v3))]) (index := 350) (C := RX12) (T := TX12) (xE_12 c_10) rfl wd_947 wd_948 (wG_in (List.mem_append_left _ (List.mem_of_getElem? (i := 97) rfl)) rfl) xw_X12_printName rfl (by decide) rfl rfl dX12_shortOut_93) (ev_X12_printName hO hP h_15) xw_X12_printName rfl wd_198 dX12_shortOut_93 (by decide) (by decide) (by simp [x_cat, x_catI, x_catJ])
        cases h
        exact x_callX z9 (evX_out rfl)
    · have z9 := x_call (M := mX12_shortOut) (M' := mX12_print) (pc := 83) (st := [.int 32, va_rf (some a0)]) (rest := []) (av := [va_rf (some a0), .int 32]) (x_linkV (M := mX12_shortOut) (M' := mX12_print) (As := [.int 32]) (index := 344) (C := RX12) (T := TX12) (xE_12 c_9) rfl wd_944 wd_945 (wG_in (List.mem_append_left _ (List.mem_of_getElem? (i := 96) rfl)) rfl) xw_X12_print rfl (by decide) rfl rfl dX12_shortOut_83) (ev_X12_print hO hP h_8) xw_X12_print rfl wd_198 dX12_shortOut_83 (by decide) (by decide) (by simp [x_cat, x_catI, x_catJ])
      cases h
      exact x_callX z9 (evX_out rfl)
  · have z9 := x_call (M := mX12_shortOut) (M' := mX12_print) (pc := 77) (st := [.int s1, va_rf (some a_1)]) (rest := []) (av := [va_rf (some a_1), .int s1]) (x_linkV (M := mX12_shortOut) (M' := mX12_print) (As := [.int s1]) (index := 344) (C := RX12) (T := TX12) (xE_12 c_5) rfl wd_944 wd_945 (wG_in (List.mem_append_left _ (List.mem_of_getElem? (i := 96) rfl)) rfl) xw_X12_print rfl (by decide) rfl rfl dX12_shortOut_77) (ev_X12_print hO hP h_4) xw_X12_print rfl wd_198 dX12_shortOut_77 (by decide) (by decide) (by simp [x_cat, x_catI, x_catJ])
    cases h
    exact x_callX z9 (evX_out rfl)
set_option maxHeartbeats 4000000 in
set_option maxRecDepth 100000 in
theorem ev_X12_shortOut_L256 {l : Launch} {G : xG} (hO : x_OK l G) {P : xP} (hP : x_PG P G) {a0 : Nat} {k198 : Int32 → Int32 → xS → xO Unit} (hk198 : ∀ {v1 : Int32} {v2 : Int32} {σ σ' : xS} {rr : Unit ⊕ String}, k198 v1 v2 σ = some (rr, σ') → Ev l G mX12_shortOut 198 [(0, va_rf (some a0)), (1, .int v1), (2, .int v2)] [] σ (xrV rr) σ') : ∀ (n : Nat) {v1 : Int32} {v2 : Int32} {v3 : Int32} {v4 : Int32} {σ σ' : xS} {rr : Unit ⊕ String}, dm_X12_shortOut_L256 P k198 a0 n v1 v2 v3 v4 σ = some (rr, σ') → Ev l G mX12_shortOut 256 [(0, va_rf (some a0)), (1, .int v1), (2, .int v2), (3, .int v3), (4, .int v4)] [] σ (xrV rr) σ' := by
  intro n
  induction n with
  | zero => intro v1 v2 v3 v4 σ σ' rr h; cases h
  | succ n ih =>
    intro v1 v2 v3 v4 σ σ' rr h
    rw [dm_X12_shortOut_L256] at h
    refine ev_iload (j := 4) (x := v4) dX12_shortOut_256 rfl ?_
    refine ev_aload_n (j := 0) (x := (some a0)) dX12_shortOut_258 rfl rfl ?_
    refine ev_iload_n (j := 3) (x := v3) dX12_shortOut_259 rfl rfl ?_
    obtain ⟨c_4, h⟩ := x_chk_e h
    rcases x_bind_e h with ⟨v_1, σ_2, h_3, h⟩ | ⟨E_28, σ_2, h_3, h⟩
    · have z9 := x_call (M := mX12_shortOut) (M' := mX12_pins) (pc := 260) (st := [.int v3, va_rf (some a0), .int v4]) (rest := [.int v4]) (av := [va_rf (some a0), .int v3]) (x_linkV (M := mX12_shortOut) (M' := mX12_pins) (As := [.int v3]) (index := 320) (C := RX12) (T := TX12) (xE_12 c_4) rfl wd_831 wd_832 (wG_in (List.mem_append_left _ (List.mem_of_getElem? (i := 89) rfl)) rfl) xw_X12_pins rfl (by decide) rfl rfl dX12_shortOut_260) (ev_X12_pins hO hP h_3) xw_X12_pins rfl wd_198 dX12_shortOut_260 (by decide) (by decide) (by simp [x_cat, x_catI, x_catJ])
      refine x_callR z9 ?_
      refine ev_at (st' := [.int v_1, .int v4]) rfl rfl ?_
      by_cases c_5 : v_1 ≤ v4
      · rw [if_pos c_5] at h
        refine ev_icmp_ge (x := v4) (y := v_1) (tgt := 291) dX12_shortOut_263 (by decide) (fun _ => ?_) (fun q9 => absurd c_5 q9)
        refine ev_aload_n (j := 0) (x := (some a0)) dX12_shortOut_291 rfl rfl ?_
        obtain ⟨c_9, h⟩ := x_chk_e h
        rcases x_bind_e h with ⟨v_6, σ_7, h_8, h⟩ | ⟨E_11, σ_7, h_8, h⟩
        · have z9 := x_call (M := mX12_shortOut) (M' := mX12_printEnd) (pc := 292) (st := [va_rf (some a0)]) (rest := []) (av := [va_rf (some a0)]) (x_linkV (M := mX12_shortOut) (M' := mX12_printEnd) (As := []) (index := 363) (C := RX12) (T := TX12) (xE_12 c_9) rfl wd_956 wd_957 (wG_in (List.mem_append_left _ (List.mem_of_getElem? (i := 98) rfl)) rfl) xw_X12_printEnd rfl (by decide) rfl rfl dX12_shortOut_292) (ev_X12_printEnd hO hP h_8) xw_X12_printEnd rfl wd_198 dX12_shortOut_292 (by decide) (by decide) (by simp [x_cat, x_catI, x_catJ])
          refine x_callR z9 ?_
          refine ev_at (st' := []) rfl rfl ?_
          obtain ⟨v_10, ev_10, h⟩ := x_let_e h
          refine ev_iinc (j := 2) (x := v2) (v := v_10) (lv' := [(2, .int v_10), (0, va_rf (some a0)), (1, .int v1), (3, .int v3), (4, .int v4)]) dX12_shortOut_295 rfl (by rw [ev_10]; rfl) (by decide) rfl ?_
          refine ev_goto (tgt := 198) dX12_shortOut_298 (by decide) ?_
          exact ev_sub [1, 2, 0] rfl (hk198 h)
        · have z9 := x_call (M := mX12_shortOut) (M' := mX12_printEnd) (pc := 292) (st := [va_rf (some a0)]) (rest := []) (av := [va_rf (some a0)]) (x_linkV (M := mX12_shortOut) (M' := mX12_printEnd) (As := []) (index := 363) (C := RX12) (T := TX12) (xE_12 c_9) rfl wd_956 wd_957 (wG_in (List.mem_append_left _ (List.mem_of_getElem? (i := 98) rfl)) rfl) xw_X12_printEnd rfl (by decide) rfl rfl dX12_shortOut_292) (ev_X12_printEnd hO hP h_8) xw_X12_printEnd rfl wd_198 dX12_shortOut_292 (by decide) (by decide) (by simp [x_cat, x_catI, x_catJ])
          cases h
          exact x_callX z9 (evX_out rfl)
      · rw [if_neg c_5] at h
        refine ev_icmp_ge (x := v4) (y := v_1) (tgt := 291) dX12_shortOut_263 (by decide) (fun q9 => absurd q9 c_5) (fun _ => ?_)
        refine ev_aload_n (j := 0) (x := (some a0)) dX12_shortOut_266 rfl rfl ?_
        refine ev_bipush (v := 32) dX12_shortOut_267 (by decide) ?_
        obtain ⟨c_15, h⟩ := x_chk_e h
        rcases x_bind_e h with ⟨v_12, σ_13, h_14, h⟩ | ⟨E_27, σ_13, h_14, h⟩
        · have z9 := x_call (M := mX12_shortOut) (M' := mX12_print) (pc := 269) (st := [.int 32, va_rf (some a0)]) (rest := []) (av := [va_rf (some a0), .int 32]) (x_linkV (M := mX12_shortOut) (M' := mX12_print) (As := [.int 32]) (index := 344) (C := RX12) (T := TX12) (xE_12 c_15) rfl wd_944 wd_945 (wG_in (List.mem_append_left _ (List.mem_of_getElem? (i := 96) rfl)) rfl) xw_X12_print rfl (by decide) rfl rfl dX12_shortOut_269) (ev_X12_print hO hP h_14) xw_X12_print rfl wd_198 dX12_shortOut_269 (by decide) (by decide) (by simp [x_cat, x_catI, x_catJ])
          refine x_callR z9 ?_
          refine ev_at (st' := []) rfl rfl ?_
          refine ev_aload_n (j := 0) (x := (some a0)) dX12_shortOut_272 rfl rfl ?_
          refine ev_iload_n (j := 1) (x := v1) dX12_shortOut_273 rfl rfl ?_
          refine ev_aload_n (j := 0) (x := (some a0)) dX12_shortOut_274 rfl rfl ?_
          refine ev_iload_n (j := 3) (x := v3) dX12_shortOut_275 rfl rfl ?_
          refine ev_iload (j := 4) (x := v4) dX12_shortOut_276 rfl ?_
          obtain ⟨c_19, h⟩ := x_chk_e h
          rcases x_bind_e h with ⟨v_16, σ_17, h_18, h⟩ | ⟨E_26, σ_17, h_18, h⟩
          · have z9 := x_call (M := mX12_shortOut) (M' := mX12_linkOf) (pc := 278) (st := [.int v4, .int v3, va_rf (some a0), .int v1, va_rf (some a0)]) (rest := [.int v1, va_rf (some a0)]) (av := [va_rf (some a0), .int v3, .int v4]) (x_linkV (M := mX12_shortOut) (M' := mX12_linkOf) (As := [.int v3, .int v4]) (index := 329) (C := RX12) (T := TX12) (xE_12 c_19) rfl wd_840 wd_841 (wG_in (List.mem_append_left _ (List.mem_of_getElem? (i := 91) rfl)) rfl) xw_X12_linkOf rfl (by decide) rfl rfl dX12_shortOut_278) (ev_X12_linkOf hO hP h_18) xw_X12_linkOf rfl wd_198 dX12_shortOut_278 (by decide) (by decide) (by simp [x_cat, x_catI, x_catJ])
            refine x_callR z9 ?_
            refine ev_at (st' := [.int v_16, .int v1, va_rf (some a0)]) rfl rfl ?_
            refine ev_iconst (v := 0) dX12_shortOut_281 (by decide) ?_
            obtain ⟨c_23, h⟩ := x_chk_e h
            rcases x_bind_e h with ⟨v_20, σ_21, h_22, h⟩ | ⟨E_25, σ_21, h_22, h⟩
            · have z9 := x_call (M := mX12_shortOut) (M' := mX12_printLink) (pc := 282) (st := [.int 0, .int v_16, .int v1, va_rf (some a0)]) (rest := []) (av := [va_rf (some a0), .int v1, .int v_16, .int 0]) (x_linkV (M := mX12_shortOut) (M' := mX12_printLink) (As := [.int v1, .int v_16, .int 0]) (index := 360) (C := RX12) (T := TX12) (xE_12 c_23) rfl wd_959 wd_960 (wG_in (List.mem_append_left _ (List.mem_of_getElem? (i := 103) rfl)) rfl) xw_X12_printLink rfl (by decide) rfl rfl dX12_shortOut_282) (ev_X12_printLink hO hP h_22) xw_X12_printLink rfl wd_198 dX12_shortOut_282 (by decide) (by decide) (by simp [x_cat, x_catI, x_catJ])
              refine x_callR z9 ?_
              refine ev_at (st' := []) rfl rfl ?_
              obtain ⟨v_24, ev_24, h⟩ := x_let_e h
              refine ev_iinc (j := 4) (x := v4) (v := v_24) (lv' := [(4, .int v_24), (0, va_rf (some a0)), (1, .int v1), (2, .int v2), (3, .int v3)]) dX12_shortOut_285 rfl (by rw [ev_24]; rfl) (by decide) rfl ?_
              refine ev_goto (tgt := 256) dX12_shortOut_288 (by decide) ?_
              exact ev_sub [1, 2, 3, 4, 0] rfl (ih h)
            · have z9 := x_call (M := mX12_shortOut) (M' := mX12_printLink) (pc := 282) (st := [.int 0, .int v_16, .int v1, va_rf (some a0)]) (rest := []) (av := [va_rf (some a0), .int v1, .int v_16, .int 0]) (x_linkV (M := mX12_shortOut) (M' := mX12_printLink) (As := [.int v1, .int v_16, .int 0]) (index := 360) (C := RX12) (T := TX12) (xE_12 c_23) rfl wd_959 wd_960 (wG_in (List.mem_append_left _ (List.mem_of_getElem? (i := 103) rfl)) rfl) xw_X12_printLink rfl (by decide) rfl rfl dX12_shortOut_282) (ev_X12_printLink hO hP h_22) xw_X12_printLink rfl wd_198 dX12_shortOut_282 (by decide) (by decide) (by simp [x_cat, x_catI, x_catJ])
              cases h
              exact x_callX z9 (evX_out rfl)
          · have z9 := x_call (M := mX12_shortOut) (M' := mX12_linkOf) (pc := 278) (st := [.int v4, .int v3, va_rf (some a0), .int v1, va_rf (some a0)]) (rest := [.int v1, va_rf (some a0)]) (av := [va_rf (some a0), .int v3, .int v4]) (x_linkV (M := mX12_shortOut) (M' := mX12_linkOf) (As := [.int v3, .int v4]) (index := 329) (C := RX12) (T := TX12) (xE_12 c_19) rfl wd_840 wd_841 (wG_in (List.mem_append_left _ (List.mem_of_getElem? (i := 91) rfl)) rfl) xw_X12_linkOf rfl (by decide) rfl rfl dX12_shortOut_278) (ev_X12_linkOf hO hP h_18) xw_X12_linkOf rfl wd_198 dX12_shortOut_278 (by decide) (by decide) (by simp [x_cat, x_catI, x_catJ])
            cases h
            exact x_callX z9 (evX_out rfl)
        · have z9 := x_call (M := mX12_shortOut) (M' := mX12_print) (pc := 269) (st := [.int 32, va_rf (some a0)]) (rest := []) (av := [va_rf (some a0), .int 32]) (x_linkV (M := mX12_shortOut) (M' := mX12_print) (As := [.int 32]) (index := 344) (C := RX12) (T := TX12) (xE_12 c_15) rfl wd_944 wd_945 (wG_in (List.mem_append_left _ (List.mem_of_getElem? (i := 96) rfl)) rfl) xw_X12_print rfl (by decide) rfl rfl dX12_shortOut_269) (ev_X12_print hO hP h_14) xw_X12_print rfl wd_198 dX12_shortOut_269 (by decide) (by decide) (by simp [x_cat, x_catI, x_catJ])
          cases h
          exact x_callX z9 (evX_out rfl)
    · have z9 := x_call (M := mX12_shortOut) (M' := mX12_pins) (pc := 260) (st := [.int v3, va_rf (some a0), .int v4]) (rest := [.int v4]) (av := [va_rf (some a0), .int v3]) (x_linkV (M := mX12_shortOut) (M' := mX12_pins) (As := [.int v3]) (index := 320) (C := RX12) (T := TX12) (xE_12 c_4) rfl wd_831 wd_832 (wG_in (List.mem_append_left _ (List.mem_of_getElem? (i := 89) rfl)) rfl) xw_X12_pins rfl (by decide) rfl rfl dX12_shortOut_260) (ev_X12_pins hO hP h_3) xw_X12_pins rfl wd_198 dX12_shortOut_260 (by decide) (by decide) (by simp [x_cat, x_catI, x_catJ])
      cases h
      exact x_callX z9 (evX_out rfl)
set_option maxHeartbeats 4000000 in
set_option maxRecDepth 100000 in
theorem ev_X12_shortOut_L198 {l : Launch} {G : xG} (hO : x_OK l G) {P : xP} (hP : x_PG P G) {a0 : Nat} : ∀ (n : Nat) {v1 : Int32} {v2 : Int32} {σ σ' : xS} {rr : Unit ⊕ String}, dm_X12_shortOut_L198 P a0 n v1 v2 σ = some (rr, σ') → Ev l G mX12_shortOut 198 [(0, va_rf (some a0)), (1, .int v1), (2, .int v2)] [] σ (xrV rr) σ' := by
  intro n
  induction n with
  | zero => intro v1 v2 σ σ' rr h; cases h
  | succ n ih =>
    intro v1 v2 σ σ' rr h
    rw [dm_X12_shortOut_L198] at h
    refine ev_iload_n (j := 2) (x := v2) dX12_shortOut_198 rfl rfl ?_
    refine ev_aload_n (j := 0) (x := (some a0)) dX12_shortOut_199 rfl rfl ?_
    obtain ⟨c_1, h⟩ := x_chk_e h
    refine ev_get (C := RX12) (T := TX12) (k := 24) inX12 (xE_12 c_1) rfl (by decide) wd_172 (Or.inl rfl) rfl dX12_shortOut_200 ?_
    refine ev_iload_n (j := 1) (x := v1) dX12_shortOut_203 rfl rfl ?_
    obtain ⟨a_2, ea_2, h⟩ := x_some_e h
    refine ev_at (st' := [.int v1, va_rf (some a_2), .int v2]) rfl (by rw [ea_2]) ?_
    obtain ⟨c_3, h⟩ := x_chk_e h
    refine ev_iald_31 c_3.1 c_3.2 dX12_shortOut_204 ?_
    by_cases c_4 : (σ.AI a_2 (Int32.toNatClampNeg v1)) ≤ v2
    · rw [if_pos c_4] at h
      refine ev_icmp_ge (x := v2) (y := (σ.AI a_2 (Int32.toNatClampNeg v1))) (tgt := 301) dX12_shortOut_205 (by decide) (fun _ => ?_) (fun q9 => absurd c_4 q9)
      refine ev_aload_n (j := 0) (x := (some a0)) dX12_shortOut_301 rfl rfl ?_
      refine ev_bipush (v := 101) dX12_shortOut_302 (by decide) ?_
      rcases x_bind_e h with ⟨v_5, σ_6, h_7, h⟩ | ⟨E_13, σ_6, h_7, h⟩
      · have z9 := x_call (M := mX12_shortOut) (M' := mX12_print) (pc := 304) (st := [.int 101, va_rf (some a0)]) (rest := []) (av := [va_rf (some a0), .int 101]) (x_linkV (M := mX12_shortOut) (M' := mX12_print) (As := [.int 101]) (index := 344) (C := RX12) (T := TX12) (xE_12 c_1) rfl wd_944 wd_945 (wG_in (List.mem_append_left _ (List.mem_of_getElem? (i := 96) rfl)) rfl) xw_X12_print rfl (by decide) rfl rfl dX12_shortOut_304) (ev_X12_print hO hP h_7) xw_X12_print rfl wd_198 dX12_shortOut_304 (by decide) (by decide) (by simp [x_cat, x_catI, x_catJ])
        refine x_callR z9 ?_
        refine ev_at (st' := []) rfl rfl ?_
        refine ev_aload_n (j := 0) (x := (some a0)) dX12_shortOut_307 rfl rfl ?_
        obtain ⟨c_11, h⟩ := x_chk_e h
        rcases x_bind_e h with ⟨v_8, σ_9, h_10, h⟩ | ⟨E_12, σ_9, h_10, h⟩
        · have z9 := x_call (M := mX12_shortOut) (M' := mX12_printEnd) (pc := 308) (st := [va_rf (some a0)]) (rest := []) (av := [va_rf (some a0)]) (x_linkV (M := mX12_shortOut) (M' := mX12_printEnd) (As := []) (index := 363) (C := RX12) (T := TX12) (xE_12 c_11) rfl wd_956 wd_957 (wG_in (List.mem_append_left _ (List.mem_of_getElem? (i := 98) rfl)) rfl) xw_X12_printEnd rfl (by decide) rfl rfl dX12_shortOut_308) (ev_X12_printEnd hO hP h_10) xw_X12_printEnd rfl wd_198 dX12_shortOut_308 (by decide) (by decide) (by simp [x_cat, x_catI, x_catJ])
          refine x_callR z9 ?_
          refine ev_at (st' := []) rfl rfl ?_
          cases h
          exact ev_vret rfl dX12_shortOut_311
        · have z9 := x_call (M := mX12_shortOut) (M' := mX12_printEnd) (pc := 308) (st := [va_rf (some a0)]) (rest := []) (av := [va_rf (some a0)]) (x_linkV (M := mX12_shortOut) (M' := mX12_printEnd) (As := []) (index := 363) (C := RX12) (T := TX12) (xE_12 c_11) rfl wd_956 wd_957 (wG_in (List.mem_append_left _ (List.mem_of_getElem? (i := 98) rfl)) rfl) xw_X12_printEnd rfl (by decide) rfl rfl dX12_shortOut_308) (ev_X12_printEnd hO hP h_10) xw_X12_printEnd rfl wd_198 dX12_shortOut_308 (by decide) (by decide) (by simp [x_cat, x_catI, x_catJ])
          cases h
          exact x_callX z9 (evX_out rfl)
      · have z9 := x_call (M := mX12_shortOut) (M' := mX12_print) (pc := 304) (st := [.int 101, va_rf (some a0)]) (rest := []) (av := [va_rf (some a0), .int 101]) (x_linkV (M := mX12_shortOut) (M' := mX12_print) (As := [.int 101]) (index := 344) (C := RX12) (T := TX12) (xE_12 c_1) rfl wd_944 wd_945 (wG_in (List.mem_append_left _ (List.mem_of_getElem? (i := 96) rfl)) rfl) xw_X12_print rfl (by decide) rfl rfl dX12_shortOut_304) (ev_X12_print hO hP h_7) xw_X12_print rfl wd_198 dX12_shortOut_304 (by decide) (by decide) (by simp [x_cat, x_catI, x_catJ])
        cases h
        exact x_callX z9 (evX_out rfl)
    · rw [if_neg c_4] at h
      refine ev_icmp_ge (x := v2) (y := (σ.AI a_2 (Int32.toNatClampNeg v1))) (tgt := 301) dX12_shortOut_205 (by decide) (fun q9 => absurd q9 c_4) (fun _ => ?_)
      refine ev_bipush (v := 12) dX12_shortOut_208 (by decide) ?_
      refine ev_iload_n (j := 1) (x := v1) dX12_shortOut_210 rfl rfl ?_
      refine ev_imul (x := 12) (y := v1) dX12_shortOut_211 ?_
      refine ev_iload_n (j := 2) (x := v2) dX12_shortOut_212 rfl rfl ?_
      refine ev_iadd (x := (12 * v1)) (y := v2) dX12_shortOut_213 ?_
      obtain ⟨v_14, ev_14, h⟩ := x_let_e h
      rw [← ev_14]
      refine ev_istore_n (i := 3) (lv' := [(3, .int v_14), (0, va_rf (some a0)), (1, .int v1), (2, .int v2)]) dX12_shortOut_214 rfl (by decide) rfl ?_
      refine ev_aload_n (j := 1) (x := (some a0)) dX12_shortOut_215 rfl rfl ?_
      refine ev_bipush (v := 117) dX12_shortOut_216 (by decide) ?_
      rcases x_bind_e h with ⟨v_15, σ_16, h_17, h⟩ | ⟨E_42, σ_16, h_17, h⟩
      · have z9 := x_call (M := mX12_shortOut) (M' := mX12_print) (pc := 218) (st := [.int 117, va_rf (some a0)]) (rest := []) (av := [va_rf (some a0), .int 117]) (x_linkV (M := mX12_shortOut) (M' := mX12_print) (As := [.int 117]) (index := 344) (C := RX12) (T := TX12) (xE_12 c_1) rfl wd_944 wd_945 (wG_in (List.mem_append_left _ (List.mem_of_getElem? (i := 96) rfl)) rfl) xw_X12_print rfl (by decide) rfl rfl dX12_shortOut_218) (ev_X12_print hO hP h_17) xw_X12_print rfl wd_198 dX12_shortOut_218 (by decide) (by decide) (by simp [x_cat, x_catI, x_catJ])
        refine x_callR z9 ?_
        refine ev_at (st' := []) rfl rfl ?_
        refine ev_aload_n (j := 1) (x := (some a0)) dX12_shortOut_221 rfl rfl ?_
        refine ev_bipush (v := 32) dX12_shortOut_222 (by decide) ?_
        obtain ⟨c_21, h⟩ := x_chk_e h
        rcases x_bind_e h with ⟨v_18, σ_19, h_20, h⟩ | ⟨E_41, σ_19, h_20, h⟩
        · have z9 := x_call (M := mX12_shortOut) (M' := mX12_print) (pc := 224) (st := [.int 32, va_rf (some a0)]) (rest := []) (av := [va_rf (some a0), .int 32]) (x_linkV (M := mX12_shortOut) (M' := mX12_print) (As := [.int 32]) (index := 344) (C := RX12) (T := TX12) (xE_12 c_21) rfl wd_944 wd_945 (wG_in (List.mem_append_left _ (List.mem_of_getElem? (i := 96) rfl)) rfl) xw_X12_print rfl (by decide) rfl rfl dX12_shortOut_224) (ev_X12_print hO hP h_20) xw_X12_print rfl wd_198 dX12_shortOut_224 (by decide) (by decide) (by simp [x_cat, x_catI, x_catJ])
          refine x_callR z9 ?_
          refine ev_at (st' := []) rfl rfl ?_
          refine ev_aload_n (j := 1) (x := (some a0)) dX12_shortOut_227 rfl rfl ?_
          refine ev_aload_n (j := 1) (x := (some a0)) dX12_shortOut_228 rfl rfl ?_
          obtain ⟨c_22, h⟩ := x_chk_e h
          refine ev_get (C := RX12) (T := TX12) (k := 25) inX12 (xE_12 c_22) rfl (by decide) wd_173 (Or.inl rfl) rfl dX12_shortOut_229 ?_
          refine ev_iload_n (j := 0) (x := v_14) dX12_shortOut_232 rfl rfl ?_
          obtain ⟨a_23, ea_23, h⟩ := x_some_e h
          refine ev_at (st' := [.int v_14, va_rf (some a_23), va_rf (some a0)]) rfl (by rw [ea_23]) ?_
          obtain ⟨c_24, h⟩ := x_chk_e h
          refine ev_iald_31 c_24.1 c_24.2 dX12_shortOut_233 ?_
          rcases x_bind_e h with ⟨v_25, σ_26, h_27, h⟩ | ⟨E_40, σ_26, h_27, h⟩
          · have z9 := x_call (M := mX12_shortOut) (M' := mX12_printName) (pc := 234) (st := [.int (σ_19.AI a_23 (Int32.toNatClampNeg v_14)), va_rf (some a0)]) (rest := []) (av := [va_rf (some a0), .int (σ_19.AI a_23 (Int32.toNatClampNeg v_14))]) (x_linkV (M := mX12_shortOut) (M' := mX12_printName) (As := [.int (σ_19.AI a_23 (Int32.toNatClampNeg v_14))]) (index := 350) (C := RX12) (T := TX12) (xE_12 c_22) rfl wd_947 wd_948 (wG_in (List.mem_append_left _ (List.mem_of_getElem? (i := 97) rfl)) rfl) xw_X12_printName rfl (by decide) rfl rfl dX12_shortOut_234) (ev_X12_printName hO hP h_27) xw_X12_printName rfl wd_198 dX12_shortOut_234 (by decide) (by decide) (by simp [x_cat, x_catI, x_catJ])
            refine x_callR z9 ?_
            refine ev_at (st' := []) rfl rfl ?_
            refine ev_aload_n (j := 1) (x := (some a0)) dX12_shortOut_237 rfl rfl ?_
            refine ev_bipush (v := 32) dX12_shortOut_238 (by decide) ?_
            obtain ⟨c_31, h⟩ := x_chk_e h
            rcases x_bind_e h with ⟨v_28, σ_29, h_30, h⟩ | ⟨E_39, σ_29, h_30, h⟩
            · have z9 := x_call (M := mX12_shortOut) (M' := mX12_print) (pc := 240) (st := [.int 32, va_rf (some a0)]) (rest := []) (av := [va_rf (some a0), .int 32]) (x_linkV (M := mX12_shortOut) (M' := mX12_print) (As := [.int 32]) (index := 344) (C := RX12) (T := TX12) (xE_12 c_31) rfl wd_944 wd_945 (wG_in (List.mem_append_left _ (List.mem_of_getElem? (i := 96) rfl)) rfl) xw_X12_print rfl (by decide) rfl rfl dX12_shortOut_240) (ev_X12_print hO hP h_30) xw_X12_print rfl wd_198 dX12_shortOut_240 (by decide) (by decide) (by simp [x_cat, x_catI, x_catJ])
              refine x_callR z9 ?_
              refine ev_at (st' := []) rfl rfl ?_
              refine ev_aload_n (j := 1) (x := (some a0)) dX12_shortOut_243 rfl rfl ?_
              refine ev_aload_n (j := 1) (x := (some a0)) dX12_shortOut_244 rfl rfl ?_
              obtain ⟨c_32, h⟩ := x_chk_e h
              refine ev_get (C := RX12) (T := TX12) (k := 26) inX12 (xE_12 c_32) rfl (by decide) wd_174 (Or.inl rfl) rfl dX12_shortOut_245 ?_
              refine ev_iload_n (j := 0) (x := v_14) dX12_shortOut_248 rfl rfl ?_
              obtain ⟨a_33, ea_33, h⟩ := x_some_e h
              refine ev_at (st' := [.int v_14, va_rf (some a_33), va_rf (some a0)]) rfl (by rw [ea_33]) ?_
              obtain ⟨c_34, h⟩ := x_chk_e h
              refine ev_iald_31 c_34.1 c_34.2 dX12_shortOut_249 ?_
              rcases x_bind_e h with ⟨v_35, σ_36, h_37, h⟩ | ⟨E_38, σ_36, h_37, h⟩
              · have z9 := x_call (M := mX12_shortOut) (M' := mX12_printName) (pc := 250) (st := [.int (σ_29.AI a_33 (Int32.toNatClampNeg v_14)), va_rf (some a0)]) (rest := []) (av := [va_rf (some a0), .int (σ_29.AI a_33 (Int32.toNatClampNeg v_14))]) (x_linkV (M := mX12_shortOut) (M' := mX12_printName) (As := [.int (σ_29.AI a_33 (Int32.toNatClampNeg v_14))]) (index := 350) (C := RX12) (T := TX12) (xE_12 c_32) rfl wd_947 wd_948 (wG_in (List.mem_append_left _ (List.mem_of_getElem? (i := 97) rfl)) rfl) xw_X12_printName rfl (by decide) rfl rfl dX12_shortOut_250) (ev_X12_printName hO hP h_37) xw_X12_printName rfl wd_198 dX12_shortOut_250 (by decide) (by decide) (by simp [x_cat, x_catI, x_catJ])
                refine x_callR z9 ?_
                refine ev_at (st' := []) rfl rfl ?_
                refine ev_iconst (v := 0) dX12_shortOut_253 (by decide) ?_
                refine ev_istore (i := 4) (lv' := [(4, .int 0), (3, .int v_14), (0, va_rf (some a0)), (1, .int v1), (2, .int v2)]) dX12_shortOut_254 (by decide) rfl ?_
                exact ev_sub [2, 3, 4, 1, 0] rfl (ev_X12_shortOut_L256 hO hP ih P.N h)
              · have z9 := x_call (M := mX12_shortOut) (M' := mX12_printName) (pc := 250) (st := [.int (σ_29.AI a_33 (Int32.toNatClampNeg v_14)), va_rf (some a0)]) (rest := []) (av := [va_rf (some a0), .int (σ_29.AI a_33 (Int32.toNatClampNeg v_14))]) (x_linkV (M := mX12_shortOut) (M' := mX12_printName) (As := [.int (σ_29.AI a_33 (Int32.toNatClampNeg v_14))]) (index := 350) (C := RX12) (T := TX12) (xE_12 c_32) rfl wd_947 wd_948 (wG_in (List.mem_append_left _ (List.mem_of_getElem? (i := 97) rfl)) rfl) xw_X12_printName rfl (by decide) rfl rfl dX12_shortOut_250) (ev_X12_printName hO hP h_37) xw_X12_printName rfl wd_198 dX12_shortOut_250 (by decide) (by decide) (by simp [x_cat, x_catI, x_catJ])
                cases h
                exact x_callX z9 (evX_out rfl)
            · have z9 := x_call (M := mX12_shortOut) (M' := mX12_print) (pc := 240) (st := [.int 32, va_rf (some a0)]) (rest := []) (av := [va_rf (some a0), .int 32]) (x_linkV (M := mX12_shortOut) (M' := mX12_print) (As := [.int 32]) (index := 344) (C := RX12) (T := TX12) (xE_12 c_31) rfl wd_944 wd_945 (wG_in (List.mem_append_left _ (List.mem_of_getElem? (i := 96) rfl)) rfl) xw_X12_print rfl (by decide) rfl rfl dX12_shortOut_240) (ev_X12_print hO hP h_30) xw_X12_print rfl wd_198 dX12_shortOut_240 (by decide) (by decide) (by simp [x_cat, x_catI, x_catJ])
              cases h
              exact x_callX z9 (evX_out rfl)
          · have z9 := x_call (M := mX12_shortOut) (M' := mX12_printName) (pc := 234) (st := [.int (σ_19.AI a_23 (Int32.toNatClampNeg v_14)), va_rf (some a0)]) (rest := []) (av := [va_rf (some a0), .int (σ_19.AI a_23 (Int32.toNatClampNeg v_14))]) (x_linkV (M := mX12_shortOut) (M' := mX12_printName) (As := [.int (σ_19.AI a_23 (Int32.toNatClampNeg v_14))]) (index := 350) (C := RX12) (T := TX12) (xE_12 c_22) rfl wd_947 wd_948 (wG_in (List.mem_append_left _ (List.mem_of_getElem? (i := 97) rfl)) rfl) xw_X12_printName rfl (by decide) rfl rfl dX12_shortOut_234) (ev_X12_printName hO hP h_27) xw_X12_printName rfl wd_198 dX12_shortOut_234 (by decide) (by decide) (by simp [x_cat, x_catI, x_catJ])
            cases h
            exact x_callX z9 (evX_out rfl)
        · have z9 := x_call (M := mX12_shortOut) (M' := mX12_print) (pc := 224) (st := [.int 32, va_rf (some a0)]) (rest := []) (av := [va_rf (some a0), .int 32]) (x_linkV (M := mX12_shortOut) (M' := mX12_print) (As := [.int 32]) (index := 344) (C := RX12) (T := TX12) (xE_12 c_21) rfl wd_944 wd_945 (wG_in (List.mem_append_left _ (List.mem_of_getElem? (i := 96) rfl)) rfl) xw_X12_print rfl (by decide) rfl rfl dX12_shortOut_224) (ev_X12_print hO hP h_20) xw_X12_print rfl wd_198 dX12_shortOut_224 (by decide) (by decide) (by simp [x_cat, x_catI, x_catJ])
          cases h
          exact x_callX z9 (evX_out rfl)
      · have z9 := x_call (M := mX12_shortOut) (M' := mX12_print) (pc := 218) (st := [.int 117, va_rf (some a0)]) (rest := []) (av := [va_rf (some a0), .int 117]) (x_linkV (M := mX12_shortOut) (M' := mX12_print) (As := [.int 117]) (index := 344) (C := RX12) (T := TX12) (xE_12 c_1) rfl wd_944 wd_945 (wG_in (List.mem_append_left _ (List.mem_of_getElem? (i := 96) rfl)) rfl) xw_X12_print rfl (by decide) rfl rfl dX12_shortOut_218) (ev_X12_print hO hP h_17) xw_X12_print rfl wd_198 dX12_shortOut_218 (by decide) (by decide) (by simp [x_cat, x_catI, x_catJ])
        cases h
        exact x_callX z9 (evX_out rfl)
set_option maxHeartbeats 4000000 in
set_option maxRecDepth 100000 in
theorem ev_X12_shortOut_L124 {l : Launch} {G : xG} (hO : x_OK l G) {P : xP} (hP : x_PG P G) {a0 : Nat} : ∀ (n : Nat) {v1 : Int32} {v2 : Int32} {σ σ' : xS} {rr : Unit ⊕ String}, dm_X12_shortOut_L124 P a0 n v1 v2 σ = some (rr, σ') → Ev l G mX12_shortOut 124 [(0, va_rf (some a0)), (1, .int v1), (2, .int v2)] [] σ (xrV rr) σ' := by
  intro n
  induction n with
  | zero => intro v1 v2 σ σ' rr h; cases h
  | succ n ih =>
    intro v1 v2 σ σ' rr h
    rw [dm_X12_shortOut_L124] at h
    refine ev_iload_n (j := 2) (x := v2) dX12_shortOut_124 rfl rfl ?_
    refine ev_aload_n (j := 0) (x := (some a0)) dX12_shortOut_125 rfl rfl ?_
    obtain ⟨c_1, h⟩ := x_chk_e h
    refine ev_get (C := RX12) (T := TX12) (k := 21) inX12 (xE_12 c_1) rfl (by decide) wd_169 (Or.inl rfl) rfl dX12_shortOut_126 ?_
    refine ev_iload_n (j := 1) (x := v1) dX12_shortOut_129 rfl rfl ?_
    obtain ⟨a_2, ea_2, h⟩ := x_some_e h
    refine ev_at (st' := [.int v1, va_rf (some a_2), .int v2]) rfl (by rw [ea_2]) ?_
    obtain ⟨c_3, h⟩ := x_chk_e h
    refine ev_iald_31 c_3.1 c_3.2 dX12_shortOut_130 ?_
    by_cases c_4 : (σ.AI a_2 (Int32.toNatClampNeg v1)) ≤ v2
    · rw [if_pos c_4] at h
      refine ev_icmp_ge (x := v2) (y := (σ.AI a_2 (Int32.toNatClampNeg v1))) (tgt := 196) dX12_shortOut_131 (by decide) (fun _ => ?_) (fun q9 => absurd c_4 q9)
      refine ev_iconst (v := 0) dX12_shortOut_196 (by decide) ?_
      refine ev_istore_n (i := 2) (lv' := [(2, .int 0), (0, va_rf (some a0)), (1, .int v1)]) dX12_shortOut_197 rfl (by decide) rfl ?_
      exact ev_sub [1, 2, 0] rfl (ev_X12_shortOut_L198 hO hP P.N h)
    · rw [if_neg c_4] at h
      refine ev_icmp_ge (x := v2) (y := (σ.AI a_2 (Int32.toNatClampNeg v1))) (tgt := 196) dX12_shortOut_131 (by decide) (fun q9 => absurd q9 c_4) (fun _ => ?_)
      refine ev_aload_n (j := 0) (x := (some a0)) dX12_shortOut_134 rfl rfl ?_
      refine ev_bipush (v := 97) dX12_shortOut_135 (by decide) ?_
      rcases x_bind_e h with ⟨v_5, σ_6, h_7, h⟩ | ⟨E_38, σ_6, h_7, h⟩
      · have z9 := x_call (M := mX12_shortOut) (M' := mX12_print) (pc := 137) (st := [.int 97, va_rf (some a0)]) (rest := []) (av := [va_rf (some a0), .int 97]) (x_linkV (M := mX12_shortOut) (M' := mX12_print) (As := [.int 97]) (index := 344) (C := RX12) (T := TX12) (xE_12 c_1) rfl wd_944 wd_945 (wG_in (List.mem_append_left _ (List.mem_of_getElem? (i := 96) rfl)) rfl) xw_X12_print rfl (by decide) rfl rfl dX12_shortOut_137) (ev_X12_print hO hP h_7) xw_X12_print rfl wd_198 dX12_shortOut_137 (by decide) (by decide) (by simp [x_cat, x_catI, x_catJ])
        refine x_callR z9 ?_
        refine ev_at (st' := []) rfl rfl ?_
        refine ev_aload_n (j := 0) (x := (some a0)) dX12_shortOut_140 rfl rfl ?_
        refine ev_bipush (v := 32) dX12_shortOut_141 (by decide) ?_
        obtain ⟨c_11, h⟩ := x_chk_e h
        rcases x_bind_e h with ⟨v_8, σ_9, h_10, h⟩ | ⟨E_37, σ_9, h_10, h⟩
        · have z9 := x_call (M := mX12_shortOut) (M' := mX12_print) (pc := 143) (st := [.int 32, va_rf (some a0)]) (rest := []) (av := [va_rf (some a0), .int 32]) (x_linkV (M := mX12_shortOut) (M' := mX12_print) (As := [.int 32]) (index := 344) (C := RX12) (T := TX12) (xE_12 c_11) rfl wd_944 wd_945 (wG_in (List.mem_append_left _ (List.mem_of_getElem? (i := 96) rfl)) rfl) xw_X12_print rfl (by decide) rfl rfl dX12_shortOut_143) (ev_X12_print hO hP h_10) xw_X12_print rfl wd_198 dX12_shortOut_143 (by decide) (by decide) (by simp [x_cat, x_catI, x_catJ])
          refine x_callR z9 ?_
          refine ev_at (st' := []) rfl rfl ?_
          refine ev_aload_n (j := 0) (x := (some a0)) dX12_shortOut_146 rfl rfl ?_
          refine ev_iload_n (j := 1) (x := v1) dX12_shortOut_147 rfl rfl ?_
          refine ev_aload_n (j := 0) (x := (some a0)) dX12_shortOut_148 rfl rfl ?_
          obtain ⟨c_12, h⟩ := x_chk_e h
          refine ev_get (C := RX12) (T := TX12) (k := 22) inX12 (xE_12 c_12) rfl (by decide) wd_170 (Or.inl rfl) rfl dX12_shortOut_149 ?_
          refine ev_bipush (v := 8) dX12_shortOut_152 (by decide) ?_
          refine ev_iload_n (j := 1) (x := v1) dX12_shortOut_154 rfl rfl ?_
          refine ev_imul (x := 8) (y := v1) dX12_shortOut_155 ?_
          refine ev_iload_n (j := 2) (x := v2) dX12_shortOut_156 rfl rfl ?_
          refine ev_iadd (x := (8 * v1)) (y := v2) dX12_shortOut_157 ?_
          obtain ⟨a_13, ea_13, h⟩ := x_some_e h
          refine ev_at (st' := [.int ((8 * v1) + v2), va_rf (some a_13), .int v1, va_rf (some a0)]) rfl (by rw [ea_13]) ?_
          obtain ⟨c_14, h⟩ := x_chk_e h
          refine ev_iald_31 c_14.1 c_14.2 dX12_shortOut_158 ?_
          refine ev_iconst (v := 0) dX12_shortOut_159 (by decide) ?_
          rcases x_bind_e h with ⟨v_15, σ_16, h_17, h⟩ | ⟨E_36, σ_16, h_17, h⟩
          · have z9 := x_call (M := mX12_shortOut) (M' := mX12_printRef) (pc := 160) (st := [.int 0, .int (σ_9.AI a_13 (Int32.toNatClampNeg ((8 * v1) + v2))), .int v1, va_rf (some a0)]) (rest := []) (av := [va_rf (some a0), .int v1, .int (σ_9.AI a_13 (Int32.toNatClampNeg ((8 * v1) + v2))), .int 0]) (x_linkV (M := mX12_shortOut) (M' := mX12_printRef) (As := [.int v1, .int (σ_9.AI a_13 (Int32.toNatClampNeg ((8 * v1) + v2))), .int 0]) (index := 353) (C := RX12) (T := TX12) (xE_12 c_12) rfl wd_953 wd_954 (wG_in (List.mem_append_left _ (List.mem_of_getElem? (i := 100) rfl)) rfl) xw_X12_printRef rfl (by decide) rfl rfl dX12_shortOut_160) (ev_X12_printRef hO hP h_17) xw_X12_printRef rfl wd_198 dX12_shortOut_160 (by decide) (by decide) (by simp [x_cat, x_catI, x_catJ])
            refine x_callR z9 ?_
            refine ev_at (st' := []) rfl rfl ?_
            refine ev_aload_n (j := 0) (x := (some a0)) dX12_shortOut_163 rfl rfl ?_
            refine ev_bipush (v := 32) dX12_shortOut_164 (by decide) ?_
            obtain ⟨c_21, h⟩ := x_chk_e h
            rcases x_bind_e h with ⟨v_18, σ_19, h_20, h⟩ | ⟨E_35, σ_19, h_20, h⟩
            · have z9 := x_call (M := mX12_shortOut) (M' := mX12_print) (pc := 166) (st := [.int 32, va_rf (some a0)]) (rest := []) (av := [va_rf (some a0), .int 32]) (x_linkV (M := mX12_shortOut) (M' := mX12_print) (As := [.int 32]) (index := 344) (C := RX12) (T := TX12) (xE_12 c_21) rfl wd_944 wd_945 (wG_in (List.mem_append_left _ (List.mem_of_getElem? (i := 96) rfl)) rfl) xw_X12_print rfl (by decide) rfl rfl dX12_shortOut_166) (ev_X12_print hO hP h_20) xw_X12_print rfl wd_198 dX12_shortOut_166 (by decide) (by decide) (by simp [x_cat, x_catI, x_catJ])
              refine x_callR z9 ?_
              refine ev_at (st' := []) rfl rfl ?_
              refine ev_aload_n (j := 0) (x := (some a0)) dX12_shortOut_169 rfl rfl ?_
              refine ev_iload_n (j := 1) (x := v1) dX12_shortOut_170 rfl rfl ?_
              refine ev_aload_n (j := 0) (x := (some a0)) dX12_shortOut_171 rfl rfl ?_
              obtain ⟨c_22, h⟩ := x_chk_e h
              refine ev_get (C := RX12) (T := TX12) (k := 23) inX12 (xE_12 c_22) rfl (by decide) wd_171 (Or.inl rfl) rfl dX12_shortOut_172 ?_
              refine ev_bipush (v := 8) dX12_shortOut_175 (by decide) ?_
              refine ev_iload_n (j := 1) (x := v1) dX12_shortOut_177 rfl rfl ?_
              refine ev_imul (x := 8) (y := v1) dX12_shortOut_178 ?_
              refine ev_iload_n (j := 2) (x := v2) dX12_shortOut_179 rfl rfl ?_
              refine ev_iadd (x := (8 * v1)) (y := v2) dX12_shortOut_180 ?_
              obtain ⟨a_23, ea_23, h⟩ := x_some_e h
              refine ev_at (st' := [.int ((8 * v1) + v2), va_rf (some a_23), .int v1, va_rf (some a0)]) rfl (by rw [ea_23]) ?_
              obtain ⟨c_24, h⟩ := x_chk_e h
              refine ev_iald_31 c_24.1 c_24.2 dX12_shortOut_181 ?_
              refine ev_iconst (v := 0) dX12_shortOut_182 (by decide) ?_
              rcases x_bind_e h with ⟨v_25, σ_26, h_27, h⟩ | ⟨E_34, σ_26, h_27, h⟩
              · have z9 := x_call (M := mX12_shortOut) (M' := mX12_printRef) (pc := 183) (st := [.int 0, .int (σ_19.AI a_23 (Int32.toNatClampNeg ((8 * v1) + v2))), .int v1, va_rf (some a0)]) (rest := []) (av := [va_rf (some a0), .int v1, .int (σ_19.AI a_23 (Int32.toNatClampNeg ((8 * v1) + v2))), .int 0]) (x_linkV (M := mX12_shortOut) (M' := mX12_printRef) (As := [.int v1, .int (σ_19.AI a_23 (Int32.toNatClampNeg ((8 * v1) + v2))), .int 0]) (index := 353) (C := RX12) (T := TX12) (xE_12 c_22) rfl wd_953 wd_954 (wG_in (List.mem_append_left _ (List.mem_of_getElem? (i := 100) rfl)) rfl) xw_X12_printRef rfl (by decide) rfl rfl dX12_shortOut_183) (ev_X12_printRef hO hP h_27) xw_X12_printRef rfl wd_198 dX12_shortOut_183 (by decide) (by decide) (by simp [x_cat, x_catI, x_catJ])
                refine x_callR z9 ?_
                refine ev_at (st' := []) rfl rfl ?_
                refine ev_aload_n (j := 0) (x := (some a0)) dX12_shortOut_186 rfl rfl ?_
                obtain ⟨c_31, h⟩ := x_chk_e h
                rcases x_bind_e h with ⟨v_28, σ_29, h_30, h⟩ | ⟨E_33, σ_29, h_30, h⟩
                · have z9 := x_call (M := mX12_shortOut) (M' := mX12_printEnd) (pc := 187) (st := [va_rf (some a0)]) (rest := []) (av := [va_rf (some a0)]) (x_linkV (M := mX12_shortOut) (M' := mX12_printEnd) (As := []) (index := 363) (C := RX12) (T := TX12) (xE_12 c_31) rfl wd_956 wd_957 (wG_in (List.mem_append_left _ (List.mem_of_getElem? (i := 98) rfl)) rfl) xw_X12_printEnd rfl (by decide) rfl rfl dX12_shortOut_187) (ev_X12_printEnd hO hP h_30) xw_X12_printEnd rfl wd_198 dX12_shortOut_187 (by decide) (by decide) (by simp [x_cat, x_catI, x_catJ])
                  refine x_callR z9 ?_
                  refine ev_at (st' := []) rfl rfl ?_
                  obtain ⟨v_32, ev_32, h⟩ := x_let_e h
                  refine ev_iinc (j := 2) (x := v2) (v := v_32) (lv' := [(2, .int v_32), (0, va_rf (some a0)), (1, .int v1)]) dX12_shortOut_190 rfl (by rw [ev_32]; rfl) (by decide) rfl ?_
                  refine ev_goto (tgt := 124) dX12_shortOut_193 (by decide) ?_
                  exact ev_sub [1, 2, 0] rfl (ih h)
                · have z9 := x_call (M := mX12_shortOut) (M' := mX12_printEnd) (pc := 187) (st := [va_rf (some a0)]) (rest := []) (av := [va_rf (some a0)]) (x_linkV (M := mX12_shortOut) (M' := mX12_printEnd) (As := []) (index := 363) (C := RX12) (T := TX12) (xE_12 c_31) rfl wd_956 wd_957 (wG_in (List.mem_append_left _ (List.mem_of_getElem? (i := 98) rfl)) rfl) xw_X12_printEnd rfl (by decide) rfl rfl dX12_shortOut_187) (ev_X12_printEnd hO hP h_30) xw_X12_printEnd rfl wd_198 dX12_shortOut_187 (by decide) (by decide) (by simp [x_cat, x_catI, x_catJ])
                  cases h
                  exact x_callX z9 (evX_out rfl)
              · have z9 := x_call (M := mX12_shortOut) (M' := mX12_printRef) (pc := 183) (st := [.int 0, .int (σ_19.AI a_23 (Int32.toNatClampNeg ((8 * v1) + v2))), .int v1, va_rf (some a0)]) (rest := []) (av := [va_rf (some a0), .int v1, .int (σ_19.AI a_23 (Int32.toNatClampNeg ((8 * v1) + v2))), .int 0]) (x_linkV (M := mX12_shortOut) (M' := mX12_printRef) (As := [.int v1, .int (σ_19.AI a_23 (Int32.toNatClampNeg ((8 * v1) + v2))), .int 0]) (index := 353) (C := RX12) (T := TX12) (xE_12 c_22) rfl wd_953 wd_954 (wG_in (List.mem_append_left _ (List.mem_of_getElem? (i := 100) rfl)) rfl) xw_X12_printRef rfl (by decide) rfl rfl dX12_shortOut_183) (ev_X12_printRef hO hP h_27) xw_X12_printRef rfl wd_198 dX12_shortOut_183 (by decide) (by decide) (by simp [x_cat, x_catI, x_catJ])
                cases h
                exact x_callX z9 (evX_out rfl)
            · have z9 := x_call (M := mX12_shortOut) (M' := mX12_print) (pc := 166) (st := [.int 32, va_rf (some a0)]) (rest := []) (av := [va_rf (some a0), .int 32]) (x_linkV (M := mX12_shortOut) (M' := mX12_print) (As := [.int 32]) (index := 344) (C := RX12) (T := TX12) (xE_12 c_21) rfl wd_944 wd_945 (wG_in (List.mem_append_left _ (List.mem_of_getElem? (i := 96) rfl)) rfl) xw_X12_print rfl (by decide) rfl rfl dX12_shortOut_166) (ev_X12_print hO hP h_20) xw_X12_print rfl wd_198 dX12_shortOut_166 (by decide) (by decide) (by simp [x_cat, x_catI, x_catJ])
              cases h
              exact x_callX z9 (evX_out rfl)
          · have z9 := x_call (M := mX12_shortOut) (M' := mX12_printRef) (pc := 160) (st := [.int 0, .int (σ_9.AI a_13 (Int32.toNatClampNeg ((8 * v1) + v2))), .int v1, va_rf (some a0)]) (rest := []) (av := [va_rf (some a0), .int v1, .int (σ_9.AI a_13 (Int32.toNatClampNeg ((8 * v1) + v2))), .int 0]) (x_linkV (M := mX12_shortOut) (M' := mX12_printRef) (As := [.int v1, .int (σ_9.AI a_13 (Int32.toNatClampNeg ((8 * v1) + v2))), .int 0]) (index := 353) (C := RX12) (T := TX12) (xE_12 c_12) rfl wd_953 wd_954 (wG_in (List.mem_append_left _ (List.mem_of_getElem? (i := 100) rfl)) rfl) xw_X12_printRef rfl (by decide) rfl rfl dX12_shortOut_160) (ev_X12_printRef hO hP h_17) xw_X12_printRef rfl wd_198 dX12_shortOut_160 (by decide) (by decide) (by simp [x_cat, x_catI, x_catJ])
            cases h
            exact x_callX z9 (evX_out rfl)
        · have z9 := x_call (M := mX12_shortOut) (M' := mX12_print) (pc := 143) (st := [.int 32, va_rf (some a0)]) (rest := []) (av := [va_rf (some a0), .int 32]) (x_linkV (M := mX12_shortOut) (M' := mX12_print) (As := [.int 32]) (index := 344) (C := RX12) (T := TX12) (xE_12 c_11) rfl wd_944 wd_945 (wG_in (List.mem_append_left _ (List.mem_of_getElem? (i := 96) rfl)) rfl) xw_X12_print rfl (by decide) rfl rfl dX12_shortOut_143) (ev_X12_print hO hP h_10) xw_X12_print rfl wd_198 dX12_shortOut_143 (by decide) (by decide) (by simp [x_cat, x_catI, x_catJ])
          cases h
          exact x_callX z9 (evX_out rfl)
      · have z9 := x_call (M := mX12_shortOut) (M' := mX12_print) (pc := 137) (st := [.int 97, va_rf (some a0)]) (rest := []) (av := [va_rf (some a0), .int 97]) (x_linkV (M := mX12_shortOut) (M' := mX12_print) (As := [.int 97]) (index := 344) (C := RX12) (T := TX12) (xE_12 c_1) rfl wd_944 wd_945 (wG_in (List.mem_append_left _ (List.mem_of_getElem? (i := 96) rfl)) rfl) xw_X12_print rfl (by decide) rfl rfl dX12_shortOut_137) (ev_X12_print hO hP h_7) xw_X12_print rfl wd_198 dX12_shortOut_137 (by decide) (by decide) (by simp [x_cat, x_catI, x_catJ])
        cases h
        exact x_callX z9 (evX_out rfl)
set_option maxHeartbeats 4000000 in
set_option maxRecDepth 100000 in
theorem ev_X12_shortOut_L28 {l : Launch} {G : xG} (hO : x_OK l G) {P : xP} (hP : x_PG P G) {a0 : Nat} : ∀ (n : Nat) {v1 : Int32} {v2 : Int32} {σ σ' : xS} {rr : Unit ⊕ String}, dm_X12_shortOut_L28 P a0 n v1 v2 σ = some (rr, σ') → Ev l G mX12_shortOut 28 [(0, va_rf (some a0)), (1, .int v1), (2, .int v2)] [] σ (xrV rr) σ' := by
  intro n
  induction n with
  | zero => intro v1 v2 σ σ' rr h; cases h
  | succ n ih =>
    intro v1 v2 σ σ' rr h
    rw [dm_X12_shortOut_L28] at h
    refine ev_iload_n (j := 2) (x := v2) dX12_shortOut_28 rfl rfl ?_
    refine ev_aload_n (j := 0) (x := (some a0)) dX12_shortOut_29 rfl rfl ?_
    obtain ⟨c_1, h⟩ := x_chk_e h
    refine ev_get (C := RX12) (T := TX12) (k := 9) inX12 (xE_12 c_1) rfl (by decide) wd_156 (Or.inl rfl) rfl dX12_shortOut_30 ?_
    refine ev_iload_n (j := 1) (x := v1) dX12_shortOut_33 rfl rfl ?_
    obtain ⟨a_2, ea_2, h⟩ := x_some_e h
    refine ev_at (st' := [.int v1, va_rf (some a_2), .int v2]) rfl (by rw [ea_2]) ?_
    obtain ⟨c_3, h⟩ := x_chk_e h
    refine ev_iald_31 c_3.1 c_3.2 dX12_shortOut_34 ?_
    by_cases c_4 : (σ.AI a_2 (Int32.toNatClampNeg v1)) ≤ v2
    · rw [if_pos c_4] at h
      refine ev_icmp_ge (x := v2) (y := (σ.AI a_2 (Int32.toNatClampNeg v1))) (tgt := 122) dX12_shortOut_35 (by decide) (fun _ => ?_) (fun q9 => absurd c_4 q9)
      refine ev_iconst (v := 0) dX12_shortOut_122 (by decide) ?_
      refine ev_istore_n (i := 2) (lv' := [(2, .int 0), (0, va_rf (some a0)), (1, .int v1)]) dX12_shortOut_123 rfl (by decide) rfl ?_
      exact ev_sub [1, 2, 0] rfl (ev_X12_shortOut_L124 hO hP P.N h)
    · rw [if_neg c_4] at h
      refine ev_icmp_ge (x := v2) (y := (σ.AI a_2 (Int32.toNatClampNeg v1))) (tgt := 122) dX12_shortOut_35 (by decide) (fun q9 => absurd q9 c_4) (fun _ => ?_)
      refine ev_bipush (v := 16) dX12_shortOut_38 (by decide) ?_
      refine ev_iload_n (j := 1) (x := v1) dX12_shortOut_40 rfl rfl ?_
      refine ev_imul (x := 16) (y := v1) dX12_shortOut_41 ?_
      refine ev_iload_n (j := 2) (x := v2) dX12_shortOut_42 rfl rfl ?_
      refine ev_iadd (x := (16 * v1)) (y := v2) dX12_shortOut_43 ?_
      obtain ⟨v_5, ev_5, h⟩ := x_let_e h
      rw [← ev_5]
      refine ev_istore_n (i := 3) (lv' := [(3, .int v_5), (0, va_rf (some a0)), (1, .int v1), (2, .int v2)]) dX12_shortOut_44 rfl (by decide) rfl ?_
      refine ev_aload_n (j := 1) (x := (some a0)) dX12_shortOut_45 rfl rfl ?_
      refine ev_aload_n (j := 1) (x := (some a0)) dX12_shortOut_46 rfl rfl ?_
      refine ev_get (C := RX12) (T := TX12) (k := 11) inX12 (xE_12 c_1) rfl (by decide) wd_158 (Or.inl rfl) rfl dX12_shortOut_47 ?_
      refine ev_iload_n (j := 0) (x := v_5) dX12_shortOut_50 rfl rfl ?_
      obtain ⟨a_6, ea_6, h⟩ := x_some_e h
      refine ev_at (st' := [.int v_5, va_rf (some a_6), va_rf (some a0)]) rfl (by rw [ea_6]) ?_
      obtain ⟨c_7, h⟩ := x_chk_e h
      refine ev_iald_31 c_7.1 c_7.2 dX12_shortOut_51 ?_
      by_cases c_8 : (σ.AI a_6 (Int32.toNatClampNeg v_5)) = 0
      · rw [if_pos c_8] at h
        refine ev_if_ne (x := (σ.AI a_6 (Int32.toNatClampNeg v_5))) (tgt := 60) dX12_shortOut_52 (by decide) (fun q9 => absurd c_8 q9) (fun _ => ?_)
        refine ev_bipush (v := 105) dX12_shortOut_55 (by decide) ?_
        refine ev_goto (tgt := 77) dX12_shortOut_57 (by decide) ?_
        exact ev_sub [1, 2, 3, 0] rfl (ev_X12_shortOut_p77 hO hP ih h)
      · rw [if_neg c_8] at h
        refine ev_if_ne (x := (σ.AI a_6 (Int32.toNatClampNeg v_5))) (tgt := 60) dX12_shortOut_52 (by decide) (fun _ => ?_) (fun q9 => absurd q9 c_8)
        refine ev_aload_n (j := 1) (x := (some a0)) dX12_shortOut_60 rfl rfl ?_
        refine ev_get (C := RX12) (T := TX12) (k := 11) inX12 (xE_12 c_1) rfl (by decide) wd_158 (Or.inl rfl) rfl dX12_shortOut_61 ?_
        refine ev_iload_n (j := 0) (x := v_5) dX12_shortOut_64 rfl rfl ?_
        refine ev_at (st' := [.int v_5, va_rf (some a_6), va_rf (some a0)]) rfl (by rw [ea_6]) ?_
        refine ev_iald_31 c_7.1 c_7.2 dX12_shortOut_65 ?_
        refine ev_iconst (v := 1) dX12_shortOut_66 (by decide) ?_
        by_cases c_9 : (σ.AI a_6 (Int32.toNatClampNeg v_5)) = 1
        · rw [if_pos c_9] at h
          refine ev_icmp_ne (x := (σ.AI a_6 (Int32.toNatClampNeg v_5))) (y := 1) (tgt := 75) dX12_shortOut_67 (by decide) (fun q9 => absurd c_9 q9) (fun _ => ?_)
          refine ev_bipush (v := 111) dX12_shortOut_70 (by decide) ?_
          refine ev_goto (tgt := 77) dX12_shortOut_72 (by decide) ?_
          exact ev_sub [1, 2, 3, 0] rfl (ev_X12_shortOut_p77 hO hP ih h)
        · rw [if_neg c_9] at h
          refine ev_icmp_ne (x := (σ.AI a_6 (Int32.toNatClampNeg v_5))) (y := 1) (tgt := 75) dX12_shortOut_67 (by decide) (fun _ => ?_) (fun q9 => absurd q9 c_9)
          refine ev_bipush (v := 119) dX12_shortOut_75 (by decide) ?_
          exact ev_sub [1, 2, 3, 0] rfl (ev_X12_shortOut_p77 hO hP ih h)
set_option maxHeartbeats 4000000 in
set_option maxRecDepth 100000 in
theorem ev_X12_shortOut {l : Launch} {G : xG} (hO : x_OK l G) {P : xP} (hP : x_PG P G) {a0 : Nat} {v1 : Int32} {σ σ' : xS} {rr : Unit ⊕ String} (h : dm_X12_shortOut P a0 v1 σ = some (rr, σ')) : EvM l G mX12_shortOut [va_rf (some a0), .int v1] σ (xrV rr) σ' := by
  unfold dm_X12_shortOut at h
  refine evM_of hO (by decide +kernel) (x_lenI (by simp [x_cat, x_catI, x_catJ, mX12_shortOut, xM.maxL])) ?_
  refine Eq.mp (congrArg (fun z => Ev l G mX12_shortOut 0 z [] σ (xrV rr) σ') (show [(0, va_rf (some a0)), (1, .int v1)] = lv_args 0 [va_rf (some a0), .int v1] by simp [lv_args, x_cat, x_catI, x_catJ])) ?_
  refine ev_aload_n (j := 0) (x := (some a0)) dX12_shortOut_0 rfl rfl ?_
  refine ev_bipush (v := 109) dX12_shortOut_1 (by decide) ?_
  obtain ⟨c_4, h⟩ := x_chk_e h
  rcases x_bind_e h with ⟨v_1, σ_2, h_3, h⟩ | ⟨E_22, σ_2, h_3, h⟩
  · have z9 := x_call (M := mX12_shortOut) (M' := mX12_print) (pc := 3) (st := [.int 109, va_rf (some a0)]) (rest := []) (av := [va_rf (some a0), .int 109]) (x_linkV (M := mX12_shortOut) (M' := mX12_print) (As := [.int 109]) (index := 344) (C := RX12) (T := TX12) (xE_12 c_4) rfl wd_944 wd_945 (wG_in (List.mem_append_left _ (List.mem_of_getElem? (i := 96) rfl)) rfl) xw_X12_print rfl (by decide) rfl rfl dX12_shortOut_3) (ev_X12_print hO hP h_3) xw_X12_print rfl wd_198 dX12_shortOut_3 (by decide) (by decide) (by simp [x_cat, x_catI, x_catJ])
    refine x_callR z9 ?_
    refine ev_at (st' := []) rfl rfl ?_
    refine ev_aload_n (j := 0) (x := (some a0)) dX12_shortOut_6 rfl rfl ?_
    refine ev_bipush (v := 32) dX12_shortOut_7 (by decide) ?_
    obtain ⟨c_8, h⟩ := x_chk_e h
    rcases x_bind_e h with ⟨v_5, σ_6, h_7, h⟩ | ⟨E_21, σ_6, h_7, h⟩
    · have z9 := x_call (M := mX12_shortOut) (M' := mX12_print) (pc := 9) (st := [.int 32, va_rf (some a0)]) (rest := []) (av := [va_rf (some a0), .int 32]) (x_linkV (M := mX12_shortOut) (M' := mX12_print) (As := [.int 32]) (index := 344) (C := RX12) (T := TX12) (xE_12 c_8) rfl wd_944 wd_945 (wG_in (List.mem_append_left _ (List.mem_of_getElem? (i := 96) rfl)) rfl) xw_X12_print rfl (by decide) rfl rfl dX12_shortOut_9) (ev_X12_print hO hP h_7) xw_X12_print rfl wd_198 dX12_shortOut_9 (by decide) (by decide) (by simp [x_cat, x_catI, x_catJ])
      refine x_callR z9 ?_
      refine ev_at (st' := []) rfl rfl ?_
      refine ev_aload_n (j := 0) (x := (some a0)) dX12_shortOut_12 rfl rfl ?_
      refine ev_aload_n (j := 0) (x := (some a0)) dX12_shortOut_13 rfl rfl ?_
      obtain ⟨c_9, h⟩ := x_chk_e h
      refine ev_get (C := RX12) (T := TX12) (k := 7) inX12 (xE_12 c_9) rfl (by decide) wd_154 (Or.inl rfl) rfl dX12_shortOut_14 ?_
      refine ev_iload_n (j := 1) (x := v1) dX12_shortOut_17 rfl rfl ?_
      obtain ⟨a_10, ea_10, h⟩ := x_some_e h
      refine ev_at (st' := [.int v1, va_rf (some a_10), va_rf (some a0)]) rfl (by rw [ea_10]) ?_
      obtain ⟨c_11, h⟩ := x_chk_e h
      refine ev_iald_31 c_11.1 c_11.2 dX12_shortOut_18 ?_
      rcases x_bind_e h with ⟨v_12, σ_13, h_14, h⟩ | ⟨E_20, σ_13, h_14, h⟩
      · have z9 := x_call (M := mX12_shortOut) (M' := mX12_printName) (pc := 19) (st := [.int (σ_6.AI a_10 (Int32.toNatClampNeg v1)), va_rf (some a0)]) (rest := []) (av := [va_rf (some a0), .int (σ_6.AI a_10 (Int32.toNatClampNeg v1))]) (x_linkV (M := mX12_shortOut) (M' := mX12_printName) (As := [.int (σ_6.AI a_10 (Int32.toNatClampNeg v1))]) (index := 350) (C := RX12) (T := TX12) (xE_12 c_9) rfl wd_947 wd_948 (wG_in (List.mem_append_left _ (List.mem_of_getElem? (i := 97) rfl)) rfl) xw_X12_printName rfl (by decide) rfl rfl dX12_shortOut_19) (ev_X12_printName hO hP h_14) xw_X12_printName rfl wd_198 dX12_shortOut_19 (by decide) (by decide) (by simp [x_cat, x_catI, x_catJ])
        refine x_callR z9 ?_
        refine ev_at (st' := []) rfl rfl ?_
        refine ev_aload_n (j := 0) (x := (some a0)) dX12_shortOut_22 rfl rfl ?_
        obtain ⟨c_18, h⟩ := x_chk_e h
        rcases x_bind_e h with ⟨v_15, σ_16, h_17, h⟩ | ⟨E_19, σ_16, h_17, h⟩
        · have z9 := x_call (M := mX12_shortOut) (M' := mX12_printEnd) (pc := 23) (st := [va_rf (some a0)]) (rest := []) (av := [va_rf (some a0)]) (x_linkV (M := mX12_shortOut) (M' := mX12_printEnd) (As := []) (index := 363) (C := RX12) (T := TX12) (xE_12 c_18) rfl wd_956 wd_957 (wG_in (List.mem_append_left _ (List.mem_of_getElem? (i := 98) rfl)) rfl) xw_X12_printEnd rfl (by decide) rfl rfl dX12_shortOut_23) (ev_X12_printEnd hO hP h_17) xw_X12_printEnd rfl wd_198 dX12_shortOut_23 (by decide) (by decide) (by simp [x_cat, x_catI, x_catJ])
          refine x_callR z9 ?_
          refine ev_at (st' := []) rfl rfl ?_
          refine ev_iconst (v := 0) dX12_shortOut_26 (by decide) ?_
          refine ev_istore_n (i := 2) (lv' := [(2, .int 0), (0, va_rf (some a0)), (1, .int v1)]) dX12_shortOut_27 rfl (by decide) rfl ?_
          exact ev_sub [1, 2, 0] rfl (ev_X12_shortOut_L28 hO hP P.N h)
        · have z9 := x_call (M := mX12_shortOut) (M' := mX12_printEnd) (pc := 23) (st := [va_rf (some a0)]) (rest := []) (av := [va_rf (some a0)]) (x_linkV (M := mX12_shortOut) (M' := mX12_printEnd) (As := []) (index := 363) (C := RX12) (T := TX12) (xE_12 c_18) rfl wd_956 wd_957 (wG_in (List.mem_append_left _ (List.mem_of_getElem? (i := 98) rfl)) rfl) xw_X12_printEnd rfl (by decide) rfl rfl dX12_shortOut_23) (ev_X12_printEnd hO hP h_17) xw_X12_printEnd rfl wd_198 dX12_shortOut_23 (by decide) (by decide) (by simp [x_cat, x_catI, x_catJ])
          cases h
          exact x_callX z9 (evX_out rfl)
      · have z9 := x_call (M := mX12_shortOut) (M' := mX12_printName) (pc := 19) (st := [.int (σ_6.AI a_10 (Int32.toNatClampNeg v1)), va_rf (some a0)]) (rest := []) (av := [va_rf (some a0), .int (σ_6.AI a_10 (Int32.toNatClampNeg v1))]) (x_linkV (M := mX12_shortOut) (M' := mX12_printName) (As := [.int (σ_6.AI a_10 (Int32.toNatClampNeg v1))]) (index := 350) (C := RX12) (T := TX12) (xE_12 c_9) rfl wd_947 wd_948 (wG_in (List.mem_append_left _ (List.mem_of_getElem? (i := 97) rfl)) rfl) xw_X12_printName rfl (by decide) rfl rfl dX12_shortOut_19) (ev_X12_printName hO hP h_14) xw_X12_printName rfl wd_198 dX12_shortOut_19 (by decide) (by decide) (by simp [x_cat, x_catI, x_catJ])
        cases h
        exact x_callX z9 (evX_out rfl)
    · have z9 := x_call (M := mX12_shortOut) (M' := mX12_print) (pc := 9) (st := [.int 32, va_rf (some a0)]) (rest := []) (av := [va_rf (some a0), .int 32]) (x_linkV (M := mX12_shortOut) (M' := mX12_print) (As := [.int 32]) (index := 344) (C := RX12) (T := TX12) (xE_12 c_8) rfl wd_944 wd_945 (wG_in (List.mem_append_left _ (List.mem_of_getElem? (i := 96) rfl)) rfl) xw_X12_print rfl (by decide) rfl rfl dX12_shortOut_9) (ev_X12_print hO hP h_7) xw_X12_print rfl wd_198 dX12_shortOut_9 (by decide) (by decide) (by simp [x_cat, x_catI, x_catJ])
      cases h
      exact x_callX z9 (evX_out rfl)
  · have z9 := x_call (M := mX12_shortOut) (M' := mX12_print) (pc := 3) (st := [.int 109, va_rf (some a0)]) (rest := []) (av := [va_rf (some a0), .int 109]) (x_linkV (M := mX12_shortOut) (M' := mX12_print) (As := [.int 109]) (index := 344) (C := RX12) (T := TX12) (xE_12 c_4) rfl wd_944 wd_945 (wG_in (List.mem_append_left _ (List.mem_of_getElem? (i := 96) rfl)) rfl) xw_X12_print rfl (by decide) rfl rfl dX12_shortOut_3) (ev_X12_print hO hP h_3) xw_X12_print rfl wd_198 dX12_shortOut_3 (by decide) (by decide) (by simp [x_cat, x_catI, x_catJ])
    cases h
    exact x_callX z9 (evX_out rfl)
