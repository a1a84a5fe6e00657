set_option maxHeartbeats 4000000 in
set_option maxRecDepth 100000 in
theorem ev_X10_isSign_p33 {l : Launch} {G : xG} (hO : x_OK l G) {P : xP} (hP : x_PG P G) {a0 : Nat} {s0 : Int32} {σ σ' : xS} {rr : Int32 ⊕ String} (h : dm_X10_isSign_p33 P a0 s0 σ = some (rr, σ')) : Ev l G mX10_isSign 33 [] [.int s0] σ (xrI rr) σ' := by
  unfold dm_X10_isSign_p33 at h
  obtain ⟨c_1, h⟩ := x_chk_e h
  cases h
  exact ev_iret rfl (x_boolN c_1) dX10_isSign_33
set_option maxHeartbeats 4000000 in
set_option maxRecDepth 100000 in
theorem ev_X10_isSign_p32 {l : Launch} {G : xG} (hO : x_OK l G) {P : xP} (hP : x_PG P G) {a0 : Nat} {σ σ' : xS} {rr : Int32 ⊕ String} (h : dm_X10_isSign_p32 P a0 σ = some (rr, σ')) : Ev l G mX10_isSign 32 [] [] σ (xrI rr) σ' := by
  unfold dm_X10_isSign_p32 at h
  refine ev_iconst (v := 0) dX10_isSign_32 (by decide) ?_
  exact ev_sub [] rfl (ev_X10_isSign_p33 hO hP h)
set_option maxHeartbeats 4000000 in
set_option maxRecDepth 100000 in
theorem ev_X10_isSign {l : Launch} {G : xG} (hO : x_OK l G) {P : xP} (hP : x_PG P G) {a0 : Nat} {v1 : Int32} {σ σ' : xS} {rr : Int32 ⊕ String} (h : dm_X10_isSign P a0 v1 σ = some (rr, σ')) : EvM l G mX10_isSign [va_rf (some a0), .int v1] σ (xrI rr) σ' := by
  unfold dm_X10_isSign at h
  refine evM_of hO (by decide +kernel) (x_lenI (by simp [x_cat, x_catI, x_catJ, mX10_isSign, xM.maxL])) ?_
  refine Eq.mp (congrArg (fun z => Ev l G mX10_isSign 0 z [] σ (xrI rr) σ') (show [(0, va_rf (some a0)), (1, .int v1)] = lv_args 0 [va_rf (some a0), .int v1] by simp [lv_args, x_cat, x_catI, x_catJ])) ?_
  refine ev_aload_n (j := 0) (x := (some a0)) dX10_isSign_0 rfl rfl ?_
  obtain ⟨c_1, h⟩ := x_chk_e h
  refine ev_get (C := RX10) (T := TX10) (k := 3) inX10 (xE_10 c_1) rfl (by decide) wd_92 (Or.inl rfl) rfl dX10_isSign_1 ?_
  refine ev_aload_n (j := 0) (x := (some a0)) dX10_isSign_4 rfl rfl ?_
  refine ev_get (C := RX10) (T := TX10) (k := 6) inX10 (xE_10 c_1) rfl (by decide) wd_96 (Or.inl rfl) rfl dX10_isSign_5 ?_
  obtain ⟨a_2, ea_2, h⟩ := x_some_e h
  refine ev_at (st' := [.int (σ.I 906 a0), va_rf (some a_2)]) rfl (by rw [ea_2]) ?_
  obtain ⟨c_3, h⟩ := x_chk_e h
  refine ev_iald c_3.1 c_3.2 dX10_isSign_8 ?_
  refine ev_iconst (v := 3) dX10_isSign_9 (by decide) ?_
  by_cases c_4 : (σ.AI a_2 (Int32.toNatClampNeg (σ.I 906 a0))) = 3
  · rw [if_pos c_4] at h
    refine ev_icmp_ne (x := (σ.AI a_2 (Int32.toNatClampNeg (σ.I 906 a0)))) (y := 3) (tgt := 32) dX10_isSign_10 (by decide) (fun q9 => absurd c_4 q9) (fun _ => ?_)
    refine ev_aload_n (j := 0) (x := (some a0)) dX10_isSign_13 rfl rfl ?_
    refine ev_get (C := RX10) (T := TX10) (k := 4) inX10 (xE_10 c_1) rfl (by decide) wd_94 (Or.inl rfl) rfl dX10_isSign_14 ?_
    refine ev_aload_n (j := 0) (x := (some a0)) dX10_isSign_17 rfl rfl ?_
    refine ev_get (C := RX10) (T := TX10) (k := 6) inX10 (xE_10 c_1) rfl (by decide) wd_96 (Or.inl rfl) rfl dX10_isSign_18 ?_
    obtain ⟨a_5, ea_5, h⟩ := x_some_e h
    refine ev_at (st' := [.int (σ.I 906 a0), va_rf (some a_5)]) rfl (by rw [ea_5]) ?_
    obtain ⟨c_6, h⟩ := x_chk_e h
    refine ev_lald c_6.1 c_6.2 dX10_isSign_21 ?_
    refine ev_iload_n (j := 1) (x := v1) dX10_isSign_22 rfl rfl ?_
    refine ev_i2l (x := v1) dX10_isSign_23 ?_
    refine ev_lcmp (x := (σ.AJ a_5 (Int32.toNatClampNeg (σ.I 906 a0)))) (y := (Int32.toInt64 v1)) dX10_isSign_24 ?_
    by_cases c_7 : (lg_cmp (σ.AJ a_5 (Int32.toNatClampNeg (σ.I 906 a0))) (Int32.toInt64 v1)) = 0
    · rw [if_pos c_7] at h
      refine ev_if_ne (x := (lg_cmp (σ.AJ a_5 (Int32.toNatClampNeg (σ.I 906 a0))) (Int32.toInt64 v1))) (tgt := 32) dX10_isSign_25 (by decide) (fun q9 => absurd c_7 q9) (fun _ => ?_)
      refine ev_iconst (v := 1) dX10_isSign_28 (by decide) ?_
      refine ev_goto (tgt := 33) dX10_isSign_29 (by decide) ?_
      exact ev_sub [] rfl (ev_X10_isSign_p33 hO hP h)
    · rw [if_neg c_7] at h
      refine ev_if_ne (x := (lg_cmp (σ.AJ a_5 (Int32.toNatClampNeg (σ.I 906 a0))) (Int32.toInt64 v1))) (tgt := 32) dX10_isSign_25 (by decide) (fun _ => ?_) (fun q9 => absurd q9 c_7)
      exact ev_sub [] rfl (ev_X10_isSign_p32 hO hP h)
  · rw [if_neg c_4] at h
    refine ev_icmp_ne (x := (σ.AI a_2 (Int32.toNatClampNeg (σ.I 906 a0)))) (y := 3) (tgt := 32) dX10_isSign_10 (by decide) (fun _ => ?_) (fun q9 => absurd q9 c_4)
    exact ev_sub [] rfl (ev_X10_isSign_p32 hO hP h)
