set_option maxHeartbeats 4000000 in
set_option maxRecDepth 100000 in
theorem ev_X10_packed_p41 {l : Launch} {G : xG} (hO : x_OK l G) {P : xP} (hP : x_PG P G) {v1 : Int64} {σ σ' : xS} {rr : Int64 ⊕ String} (h : dm_X10_packed_p41 P v1 σ = some (rr, σ')) : Ev l G mX10_packed 41 [(1, .long v1)] [] σ (xrJ rr) σ' := by
  unfold dm_X10_packed_p41 at h
  refine ev_lload_n (j := 0) (x := v1) dX10_packed_41 rfl rfl ?_
  cases h
  exact ev_lret rfl dX10_packed_42
set_option maxHeartbeats 4000000 in
set_option maxRecDepth 100000 in
theorem ev_X10_packed_L4 {l : Launch} {G : xG} (hO : x_OK l G) {P : xP} (hP : x_PG P G) : ∀ (n : Nat) {v0 : Option Nat} {v1 : Int64} {v3 : Int32} {σ σ' : xS} {rr : Int64 ⊕ String}, dm_X10_packed_L4 P n v0 v1 v3 σ = some (rr, σ') → Ev l G mX10_packed 4 [(0, va_rf v0), (1, .long v1), (3, .int v3)] [] σ (xrJ rr) σ' := by
  intro n
  induction n with
  | zero => intro v0 v1 v3 σ σ' rr h; cases h
  | succ n ih =>
    intro v0 v1 v3 σ σ' rr h
    rw [dm_X10_packed_L4] at h
    refine ev_iload_n (j := 2) (x := v3) dX10_packed_4 rfl rfl ?_
    refine ev_aload_n (j := 0) (x := v0) dX10_packed_5 rfl rfl ?_
    obtain ⟨a_1, ea_1, h⟩ := x_some_e h
    refine ev_at (st' := [va_rf (some a_1), .int v3]) rfl (by rw [ea_1]) ?_
    obtain ⟨c_5, h⟩ := x_chk_e h
    rcases x_bind_e h with ⟨v_2, σ_3, h_4, h⟩ | ⟨E_15, σ_3, h_4, h⟩
    · have z9 := x_call (M := mX10_packed) (M' := mJ0_length_8abf5) (pc := 6) (st := [va_rf (some a_1), .int v3]) (rest := [.int v3]) (av := [va_rf (some a_1)]) (x_linkStr (M := mX10_packed) (M' := mJ0_length_8abf5) (As := []) (index := 36) (b := a_1) c_5 wd_207 wd_208 wd_209 xw_J0_length_8abf5 rfl (by decide) rfl rfl dX10_packed_6) (ev_J0_length_8abf5 hO hP h_4) xw_J0_length_8abf5 rfl wd_210 dX10_packed_6 (by decide) (by decide) (by simp [x_cat, x_catI, x_catJ])
      refine x_callR z9 ?_
      refine ev_at (st' := [.int v_2, .int v3]) rfl rfl ?_
      by_cases c_6 : v_2 ≤ v3
      · rw [if_pos c_6] at h
        refine ev_icmp_ge (x := v3) (y := v_2) (tgt := 41) dX10_packed_9 (by decide) (fun _ => ?_) (fun q9 => absurd c_6 q9)
        exact ev_sub [1] rfl (ev_X10_packed_p41 hO hP h)
      · rw [if_neg c_6] at h
        refine ev_icmp_ge (x := v3) (y := v_2) (tgt := 41) dX10_packed_9 (by decide) (fun q9 => absurd q9 c_6) (fun _ => ?_)
        refine ev_iload_n (j := 2) (x := v3) dX10_packed_12 rfl rfl ?_
        refine ev_bipush (v := 8) dX10_packed_13 (by decide) ?_
        by_cases c_7 : 8 ≤ v3
        · rw [if_pos c_7] at h
          refine ev_icmp_ge (x := v3) (y := 8) (tgt := 41) dX10_packed_15 (by decide) (fun _ => ?_) (fun q9 => absurd c_7 q9)
          exact ev_sub [1] rfl (ev_X10_packed_p41 hO hP h)
        · rw [if_neg c_7] at h
          refine ev_icmp_ge (x := v3) (y := 8) (tgt := 41) dX10_packed_15 (by decide) (fun q9 => absurd q9 c_7) (fun _ => ?_)
          refine ev_lload_n (j := 1) (x := v1) dX10_packed_18 rfl rfl ?_
          refine ev_aload_n (j := 0) (x := v0) dX10_packed_19 rfl rfl ?_
          refine ev_iload_n (j := 2) (x := v3) dX10_packed_20 rfl rfl ?_
          refine ev_at (st' := [.int v3, va_rf (some a_1), .long v1]) rfl (by rw [ea_1]) ?_
          obtain ⟨c_11, h⟩ := x_chk_e h
          rcases x_bind_e h with ⟨v_8, σ_9, h_10, h⟩ | ⟨E_14, σ_9, h_10, h⟩
          · have z9 := x_call (M := mX10_packed) (M' := mJ0_charAt_5068e) (pc := 21) (st := [.int v3, va_rf (some a_1), .long v1]) (rest := [.long v1]) (av := [va_rf (some a_1), .int v3]) (x_linkStr (M := mX10_packed) (M' := mJ0_charAt_5068e) (As := [.int v3]) (index := 41) (b := a_1) c_11 wd_212 wd_213 wd_214 xw_J0_charAt_5068e rfl (by decide) rfl rfl dX10_packed_21) (ev_J0_charAt_5068e hO hP h_10) xw_J0_charAt_5068e rfl wd_210 dX10_packed_21 (by decide) (by decide) (by simp [x_cat, x_catI, x_catJ])
            refine x_callR z9 ?_
            refine ev_at (st' := [.int v_8, .long v1]) rfl rfl ?_
            refine ev_i2l (x := v_8) dX10_packed_24 ?_
            refine ev_bipush (v := 56) dX10_packed_25 (by decide) ?_
            refine ev_bipush (v := 8) dX10_packed_27 (by decide) ?_
            refine ev_iload_n (j := 2) (x := v3) dX10_packed_29 rfl rfl ?_
            refine ev_imul (x := 8) (y := v3) dX10_packed_30 ?_
            refine ev_isub (x := 56) (y := (8 * v3)) dX10_packed_31 ?_
            refine ev_lshl (x := (Int32.toInt64 v_8)) (y := (56 - (8 * v3))) dX10_packed_32 ?_
            refine ev_lor (x := v1) (y := ((Int32.toInt64 v_8) <<< (Int32.toInt64 (56 - (8 * v3)) &&& 63))) dX10_packed_33 ?_
            obtain ⟨v_12, ev_12, h⟩ := x_let_e h
            rw [← ev_12]
            refine ev_lstore_n (i := 1) (lv' := [(1, .long v_12), (0, va_rf v0), (3, .int v3)]) dX10_packed_34 rfl (by decide) (by simp [x_cat, x_catI, x_catJ]) ?_
            obtain ⟨v_13, ev_13, h⟩ := x_let_e h
            refine ev_iinc (j := 2) (x := v3) (v := v_13) (lv' := [(3, .int v_13), (1, .long v_12), (0, va_rf v0)]) dX10_packed_35 rfl (by rw [ev_13]; rfl) (by decide) rfl ?_
            refine ev_goto (tgt := 4) dX10_packed_38 (by decide) ?_
            exact ev_sub [2, 1, 0] rfl (ih h)
          · have z9 := x_call (M := mX10_packed) (M' := mJ0_charAt_5068e) (pc := 21) (st := [.int v3, va_rf (some a_1), .long v1]) (rest := [.long v1]) (av := [va_rf (some a_1), .int v3]) (x_linkStr (M := mX10_packed) (M' := mJ0_charAt_5068e) (As := [.int v3]) (index := 41) (b := a_1) c_11 wd_212 wd_213 wd_214 xw_J0_charAt_5068e rfl (by decide) rfl rfl dX10_packed_21) (ev_J0_charAt_5068e hO hP h_10) xw_J0_charAt_5068e rfl wd_210 dX10_packed_21 (by decide) (by decide) (by simp [x_cat, x_catI, x_catJ])
            cases h
            exact x_callX z9 (evX_out rfl)
    · have z9 := x_call (M := mX10_packed) (M' := mJ0_length_8abf5) (pc := 6) (st := [va_rf (some a_1), .int v3]) (rest := [.int v3]) (av := [va_rf (some a_1)]) (x_linkStr (M := mX10_packed) (M' := mJ0_length_8abf5) (As := []) (index := 36) (b := a_1) c_5 wd_207 wd_208 wd_209 xw_J0_length_8abf5 rfl (by decide) rfl rfl dX10_packed_6) (ev_J0_length_8abf5 hO hP h_4) xw_J0_length_8abf5 rfl wd_210 dX10_packed_6 (by decide) (by decide) (by simp [x_cat, x_catI, x_catJ])
      cases h
      exact x_callX z9 (evX_out rfl)
set_option maxHeartbeats 4000000 in
set_option maxRecDepth 100000 in
theorem ev_X10_packed {l : Launch} {G : xG} (hO : x_OK l G) {P : xP} (hP : x_PG P G) {v0 : Option Nat} {σ σ' : xS} {rr : Int64 ⊕ String} (h : dm_X10_packed P v0 σ = some (rr, σ')) : EvM l G mX10_packed [va_rf v0] σ (xrJ rr) σ' := by
  unfold dm_X10_packed at h
  refine evM_of hO (by decide +kernel) (x_lenI (by simp [x_cat, x_catI, x_catJ, mX10_packed, xM.maxL])) ?_
  refine Eq.mp (congrArg (fun z => Ev l G mX10_packed 0 z [] σ (xrJ rr) σ') (show [(0, va_rf v0)] = lv_args 0 [va_rf v0] by simp [lv_args, x_cat, x_catI, x_catJ])) ?_
  refine ev_lconst (v := 0) dX10_packed_0 (by decide) ?_
  refine ev_lstore_n (i := 1) (lv' := [(1, .long 0), (0, va_rf v0)]) dX10_packed_1 rfl (by decide) (by simp [x_cat, x_catI, x_catJ]) ?_
  refine ev_iconst (v := 0) dX10_packed_2 (by decide) ?_
  refine ev_istore_n (i := 3) (lv' := [(3, .int 0), (1, .long 0), (0, va_rf v0)]) dX10_packed_3 rfl (by decide) rfl ?_
  exact ev_sub [2, 1, 0] rfl (ev_X10_packed_L4 hO hP P.N h)
set_option maxHeartbeats 4000000 in
set_option maxRecDepth 100000 in
theorem ev_X10_isKeyword_p65 {l : Launch} {G : xG} (hO : x_OK l G) {P : xP} (hP : x_PG P G) {s0 : Int32} {σ σ' : xS} {rr : Int32 ⊕ String} (h : dm_X10_isKeyword_p65 P s0 σ = some (rr, σ')) : Ev l G mX10_isKeyword 65 [] [.int s0] σ (xrI rr) σ' := by
  unfold dm_X10_isKeyword_p65 at h
  obtain ⟨c_1, h⟩ := x_chk_e h
  cases h
  exact ev_iret rfl (x_boolN c_1) dX10_isKeyword_65
set_option maxHeartbeats 4000000 in
set_option maxRecDepth 100000 in
theorem ev_X10_isKeyword_p60 {l : Launch} {G : xG} (hO : x_OK l G) {P : xP} (hP : x_PG P G) {σ σ' : xS} {rr : Int32 ⊕ String} (h : dm_X10_isKeyword_p60 P σ = some (rr, σ')) : Ev l G mX10_isKeyword 60 [] [] σ (xrI rr) σ' := by
  unfold dm_X10_isKeyword_p60 at h
  refine ev_iconst (v := 1) dX10_isKeyword_60 (by decide) ?_
  refine ev_goto (tgt := 65) dX10_isKeyword_61 (by decide) ?_
  exact ev_sub [] rfl (ev_X10_isKeyword_p65 hO hP h)
set_option maxHeartbeats 4000000 in
set_option maxRecDepth 100000 in
theorem ev_X10_isKeyword {l : Launch} {G : xG} (hO : x_OK l G) {P : xP} (hP : x_PG P G) {v0 : Int64} {σ σ' : xS} {rr : Int32 ⊕ String} (h : dm_X10_isKeyword P v0 σ = some (rr, σ')) : EvM l G mX10_isKeyword [.long v0] σ (xrI rr) σ' := by
  unfold dm_X10_isKeyword at h
  refine evM_of hO (by decide +kernel) (x_lenI (by simp [x_cat, x_catI, x_catJ, mX10_isKeyword, xM.maxL])) ?_
  refine Eq.mp (congrArg (fun z => Ev l G mX10_isKeyword 0 z [] σ (xrI rr) σ') (show [(0, .long v0)] = lv_args 0 [.long v0] by simp [lv_args, x_cat, x_catI, x_catJ])) ?_
  refine ev_lload_n (j := 0) (x := v0) dX10_isKeyword_0 rfl rfl ?_
  refine ev_ldcS (q := ("NetlistForms$Words", 45, "module", 19)) hP (List.mem_of_getElem? (i := 31) rfl) rfl dX10_isKeyword_1 ?_
  rcases x_bind_e h with ⟨v_1, σ_2, h_3, h⟩ | ⟨E_30, σ_2, h_3, h⟩
  · have z9 := x_call (M := mX10_isKeyword) (M' := mX10_packed) (pc := 3) (st := [va_rf (some (P.ad 19)), .long v0]) (rest := [.long v0]) (av := [va_rf (some (P.ad 19))]) (x_linkS (M := mX10_isKeyword) (M' := mX10_packed) (As := [va_rf (some (P.ad 19))]) (index := 47) wd_216 wd_217 wd_118 xw_X10_packed rfl ⟨_, _, _, Or.inl wd_215⟩ (by decide) rfl rfl dX10_isKeyword_3) (ev_X10_packed hO hP h_3) xw_X10_packed rfl wd_118 dX10_isKeyword_3 (by decide) (by decide) (by simp [x_cat, x_catI, x_catJ])
    refine x_callR z9 ?_
    refine ev_at (st' := [.long v_1, .long v0]) rfl rfl ?_
    refine ev_lcmp (x := v0) (y := v_1) dX10_isKeyword_6 ?_
    by_cases c_4 : (lg_cmp v0 v_1) = 0
    · rw [if_pos c_4] at h
      refine ev_if_eq (x := (lg_cmp v0 v_1)) (tgt := 60) dX10_isKeyword_7 (by decide) (fun _ => ?_) (fun q9 => absurd c_4 q9)
      exact ev_sub [] rfl (ev_X10_isKeyword_p60 hO hP h)
    · rw [if_neg c_4] at h
      refine ev_if_eq (x := (lg_cmp v0 v_1)) (tgt := 60) dX10_isKeyword_7 (by decide) (fun q9 => absurd q9 c_4) (fun _ => ?_)
      refine ev_lload_n (j := 0) (x := v0) dX10_isKeyword_10 rfl rfl ?_
      refine ev_ldcS (q := ("NetlistForms$Words", 51, "input", 15)) hP (List.mem_of_getElem? (i := 32) rfl) rfl dX10_isKeyword_11 ?_
      rcases x_bind_e h with ⟨v_5, σ_6, h_7, h⟩ | ⟨E_29, σ_6, h_7, h⟩
      · have z9 := x_call (M := mX10_isKeyword) (M' := mX10_packed) (pc := 13) (st := [va_rf (some (P.ad 15)), .long v0]) (rest := [.long v0]) (av := [va_rf (some (P.ad 15))]) (x_linkS (M := mX10_isKeyword) (M' := mX10_packed) (As := [va_rf (some (P.ad 15))]) (index := 47) wd_216 wd_217 wd_118 xw_X10_packed rfl ⟨_, _, _, Or.inl wd_215⟩ (by decide) rfl rfl dX10_isKeyword_13) (ev_X10_packed hO hP h_7) xw_X10_packed rfl wd_118 dX10_isKeyword_13 (by decide) (by decide) (by simp [x_cat, x_catI, x_catJ])
        refine x_callR z9 ?_
        refine ev_at (st' := [.long v_5, .long v0]) rfl rfl ?_
        refine ev_lcmp (x := v0) (y := v_5) dX10_isKeyword_16 ?_
        by_cases c_8 : (lg_cmp v0 v_5) = 0
        · rw [if_pos c_8] at h
          refine ev_if_eq (x := (lg_cmp v0 v_5)) (tgt := 60) dX10_isKeyword_17 (by decide) (fun _ => ?_) (fun q9 => absurd c_8 q9)
          exact ev_sub [] rfl (ev_X10_isKeyword_p60 hO hP h)
        · rw [if_neg c_8] at h
          refine ev_if_eq (x := (lg_cmp v0 v_5)) (tgt := 60) dX10_isKeyword_17 (by decide) (fun q9 => absurd q9 c_8) (fun _ => ?_)
          refine ev_lload_n (j := 0) (x := v0) dX10_isKeyword_20 rfl rfl ?_
          refine ev_ldcS (q := ("NetlistForms$Words", 53, "output", 23)) hP (List.mem_of_getElem? (i := 33) rfl) rfl dX10_isKeyword_21 ?_
          rcases x_bind_e h with ⟨v_9, σ_10, h_11, h⟩ | ⟨E_28, σ_10, h_11, h⟩
          · have z9 := x_call (M := mX10_isKeyword) (M' := mX10_packed) (pc := 23) (st := [va_rf (some (P.ad 23)), .long v0]) (rest := [.long v0]) (av := [va_rf (some (P.ad 23))]) (x_linkS (M := mX10_isKeyword) (M' := mX10_packed) (As := [va_rf (some (P.ad 23))]) (index := 47) wd_216 wd_217 wd_118 xw_X10_packed rfl ⟨_, _, _, Or.inl wd_215⟩ (by decide) rfl rfl dX10_isKeyword_23) (ev_X10_packed hO hP h_11) xw_X10_packed rfl wd_118 dX10_isKeyword_23 (by decide) (by decide) (by simp [x_cat, x_catI, x_catJ])
            refine x_callR z9 ?_
            refine ev_at (st' := [.long v_9, .long v0]) rfl rfl ?_
            refine ev_lcmp (x := v0) (y := v_9) dX10_isKeyword_26 ?_
            by_cases c_12 : (lg_cmp v0 v_9) = 0
            · rw [if_pos c_12] at h
              refine ev_if_eq (x := (lg_cmp v0 v_9)) (tgt := 60) dX10_isKeyword_27 (by decide) (fun _ => ?_) (fun q9 => absurd c_12 q9)
              exact ev_sub [] rfl (ev_X10_isKeyword_p60 hO hP h)
            · rw [if_neg c_12] at h
              refine ev_if_eq (x := (lg_cmp v0 v_9)) (tgt := 60) dX10_isKeyword_27 (by decide) (fun q9 => absurd q9 c_12) (fun _ => ?_)
              refine ev_lload_n (j := 0) (x := v0) dX10_isKeyword_30 rfl rfl ?_
              refine ev_ldcS (q := ("NetlistForms$Words", 55, "wire", 29)) hP (List.mem_of_getElem? (i := 34) rfl) rfl dX10_isKeyword_31 ?_
              rcases x_bind_e h with ⟨v_13, σ_14, h_15, h⟩ | ⟨E_27, σ_14, h_15, h⟩
              · have z9 := x_call (M := mX10_isKeyword) (M' := mX10_packed) (pc := 33) (st := [va_rf (some (P.ad 29)), .long v0]) (rest := [.long v0]) (av := [va_rf (some (P.ad 29))]) (x_linkS (M := mX10_isKeyword) (M' := mX10_packed) (As := [va_rf (some (P.ad 29))]) (index := 47) wd_216 wd_217 wd_118 xw_X10_packed rfl ⟨_, _, _, Or.inl wd_215⟩ (by decide) rfl rfl dX10_isKeyword_33) (ev_X10_packed hO hP h_15) xw_X10_packed rfl wd_118 dX10_isKeyword_33 (by decide) (by decide) (by simp [x_cat, x_catI, x_catJ])
                refine x_callR z9 ?_
                refine ev_at (st' := [.long v_13, .long v0]) rfl rfl ?_
                refine ev_lcmp (x := v0) (y := v_13) dX10_isKeyword_36 ?_
                by_cases c_16 : (lg_cmp v0 v_13) = 0
                · rw [if_pos c_16] at h
                  refine ev_if_eq (x := (lg_cmp v0 v_13)) (tgt := 60) dX10_isKeyword_37 (by decide) (fun _ => ?_) (fun q9 => absurd c_16 q9)
                  exact ev_sub [] rfl (ev_X10_isKeyword_p60 hO hP h)
                · rw [if_neg c_16] at h
                  refine ev_if_eq (x := (lg_cmp v0 v_13)) (tgt := 60) dX10_isKeyword_37 (by decide) (fun q9 => absurd q9 c_16) (fun _ => ?_)
                  refine ev_lload_n (j := 0) (x := v0) dX10_isKeyword_40 rfl rfl ?_
                  refine ev_ldcS (q := ("NetlistForms$Words", 57, "assign", 7)) hP (List.mem_of_getElem? (i := 35) rfl) rfl dX10_isKeyword_41 ?_
                  rcases x_bind_e h with ⟨v_17, σ_18, h_19, h⟩ | ⟨E_26, σ_18, h_19, h⟩
                  · have z9 := x_call (M := mX10_isKeyword) (M' := mX10_packed) (pc := 43) (st := [va_rf (some (P.ad 7)), .long v0]) (rest := [.long v0]) (av := [va_rf (some (P.ad 7))]) (x_linkS (M := mX10_isKeyword) (M' := mX10_packed) (As := [va_rf (some (P.ad 7))]) (index := 47) wd_216 wd_217 wd_118 xw_X10_packed rfl ⟨_, _, _, Or.inl wd_215⟩ (by decide) rfl rfl dX10_isKeyword_43) (ev_X10_packed hO hP h_19) xw_X10_packed rfl wd_118 dX10_isKeyword_43 (by decide) (by decide) (by simp [x_cat, x_catI, x_catJ])
                    refine x_callR z9 ?_
                    refine ev_at (st' := [.long v_17, .long v0]) rfl rfl ?_
                    refine ev_lcmp (x := v0) (y := v_17) dX10_isKeyword_46 ?_
                    by_cases c_20 : (lg_cmp v0 v_17) = 0
                    · rw [if_pos c_20] at h
                      refine ev_if_eq (x := (lg_cmp v0 v_17)) (tgt := 60) dX10_isKeyword_47 (by decide) (fun _ => ?_) (fun q9 => absurd c_20 q9)
                      exact ev_sub [] rfl (ev_X10_isKeyword_p60 hO hP h)
                    · rw [if_neg c_20] at h
                      refine ev_if_eq (x := (lg_cmp v0 v_17)) (tgt := 60) dX10_isKeyword_47 (by decide) (fun q9 => absurd q9 c_20) (fun _ => ?_)
                      refine ev_lload_n (j := 0) (x := v0) dX10_isKeyword_50 rfl rfl ?_
                      refine ev_ldcS (q := ("NetlistForms$Words", 59, "end", 11)) hP (List.mem_of_getElem? (i := 36) rfl) rfl dX10_isKeyword_51 ?_
                      rcases x_bind_e h with ⟨v_21, σ_22, h_23, h⟩ | ⟨E_25, σ_22, h_23, h⟩
                      · have z9 := x_call (M := mX10_isKeyword) (M' := mX10_packed) (pc := 53) (st := [va_rf (some (P.ad 11)), .long v0]) (rest := [.long v0]) (av := [va_rf (some (P.ad 11))]) (x_linkS (M := mX10_isKeyword) (M' := mX10_packed) (As := [va_rf (some (P.ad 11))]) (index := 47) wd_216 wd_217 wd_118 xw_X10_packed rfl ⟨_, _, _, Or.inl wd_215⟩ (by decide) rfl rfl dX10_isKeyword_53) (ev_X10_packed hO hP h_23) xw_X10_packed rfl wd_118 dX10_isKeyword_53 (by decide) (by decide) (by simp [x_cat, x_catI, x_catJ])
                        refine x_callR z9 ?_
                        refine ev_at (st' := [.long v_21, .long v0]) rfl rfl ?_
                        refine ev_lcmp (x := v0) (y := v_21) dX10_isKeyword_56 ?_
                        by_cases c_24 : (lg_cmp v0 v_21) = 0
                        · rw [if_pos c_24] at h
                          refine ev_if_ne (x := (lg_cmp v0 v_21)) (tgt := 64) dX10_isKeyword_57 (by decide) (fun q9 => absurd c_24 q9) (fun _ => ?_)
                          exact ev_sub [] rfl (ev_X10_isKeyword_p60 hO hP h)
                        · rw [if_neg c_24] at h
                          refine ev_if_ne (x := (lg_cmp v0 v_21)) (tgt := 64) dX10_isKeyword_57 (by decide) (fun _ => ?_) (fun q9 => absurd q9 c_24)
                          refine ev_iconst (v := 0) dX10_isKeyword_64 (by decide) ?_
                          exact ev_sub [] rfl (ev_X10_isKeyword_p65 hO hP h)
                      · have z9 := x_call (M := mX10_isKeyword) (M' := mX10_packed) (pc := 53) (st := [va_rf (some (P.ad 11)), .long v0]) (rest := [.long v0]) (av := [va_rf (some (P.ad 11))]) (x_linkS (M := mX10_isKeyword) (M' := mX10_packed) (As := [va_rf (some (P.ad 11))]) (index := 47) wd_216 wd_217 wd_118 xw_X10_packed rfl ⟨_, _, _, Or.inl wd_215⟩ (by decide) rfl rfl dX10_isKeyword_53) (ev_X10_packed hO hP h_23) xw_X10_packed rfl wd_118 dX10_isKeyword_53 (by decide) (by decide) (by simp [x_cat, x_catI, x_catJ])
                        cases h
                        exact x_callX z9 (evX_out rfl)
                  · have z9 := x_call (M := mX10_isKeyword) (M' := mX10_packed) (pc := 43) (st := [va_rf (some (P.ad 7)), .long v0]) (rest := [.long v0]) (av := [va_rf (some (P.ad 7))]) (x_linkS (M := mX10_isKeyword) (M' := mX10_packed) (As := [va_rf (some (P.ad 7))]) (index := 47) wd_216 wd_217 wd_118 xw_X10_packed rfl ⟨_, _, _, Or.inl wd_215⟩ (by decide) rfl rfl dX10_isKeyword_43) (ev_X10_packed hO hP h_19) xw_X10_packed rfl wd_118 dX10_isKeyword_43 (by decide) (by decide) (by simp [x_cat, x_catI, x_catJ])
                    cases h
                    exact x_callX z9 (evX_out rfl)
              · have z9 := x_call (M := mX10_isKeyword) (M' := mX10_packed) (pc := 33) (st := [va_rf (some (P.ad 29)), .long v0]) (rest := [.long v0]) (av := [va_rf (some (P.ad 29))]) (x_linkS (M := mX10_isKeyword) (M' := mX10_packed) (As := [va_rf (some (P.ad 29))]) (index := 47) wd_216 wd_217 wd_118 xw_X10_packed rfl ⟨_, _, _, Or.inl wd_215⟩ (by decide) rfl rfl dX10_isKeyword_33) (ev_X10_packed hO hP h_15) xw_X10_packed rfl wd_118 dX10_isKeyword_33 (by decide) (by decide) (by simp [x_cat, x_catI, x_catJ])
                cases h
                exact x_callX z9 (evX_out rfl)
          · have z9 := x_call (M := mX10_isKeyword) (M' := mX10_packed) (pc := 23) (st := [va_rf (some (P.ad 23)), .long v0]) (rest := [.long v0]) (av := [va_rf (some (P.ad 23))]) (x_linkS (M := mX10_isKeyword) (M' := mX10_packed) (As := [va_rf (some (P.ad 23))]) (index := 47) wd_216 wd_217 wd_118 xw_X10_packed rfl ⟨_, _, _, Or.inl wd_215⟩ (by decide) rfl rfl dX10_isKeyword_23) (ev_X10_packed hO hP h_11) xw_X10_packed rfl wd_118 dX10_isKeyword_23 (by decide) (by decide) (by simp [x_cat, x_catI, x_catJ])
            cases h
            exact x_callX z9 (evX_out rfl)
      · have z9 := x_call (M := mX10_isKeyword) (M' := mX10_packed) (pc := 13) (st := [va_rf (some (P.ad 15)), .long v0]) (rest := [.long v0]) (av := [va_rf (some (P.ad 15))]) (x_linkS (M := mX10_isKeyword) (M' := mX10_packed) (As := [va_rf (some (P.ad 15))]) (index := 47) wd_216 wd_217 wd_118 xw_X10_packed rfl ⟨_, _, _, Or.inl wd_215⟩ (by decide) rfl rfl dX10_isKeyword_13) (ev_X10_packed hO hP h_7) xw_X10_packed rfl wd_118 dX10_isKeyword_13 (by decide) (by decide) (by simp [x_cat, x_catI, x_catJ])
        cases h
        exact x_callX z9 (evX_out rfl)
  · have z9 := x_call (M := mX10_isKeyword) (M' := mX10_packed) (pc := 3) (st := [va_rf (some (P.ad 19)), .long v0]) (rest := [.long v0]) (av := [va_rf (some (P.ad 19))]) (x_linkS (M := mX10_isKeyword) (M' := mX10_packed) (As := [va_rf (some (P.ad 19))]) (index := 47) wd_216 wd_217 wd_118 xw_X10_packed rfl ⟨_, _, _, Or.inl wd_215⟩ (by decide) rfl rfl dX10_isKeyword_3) (ev_X10_packed hO hP h_3) xw_X10_packed rfl wd_118 dX10_isKeyword_3 (by decide) (by decide) (by simp [x_cat, x_catI, x_catJ])
    cases h
    exact x_callX z9 (evX_out rfl)
set_option maxHeartbeats 4000000 in
set_option maxRecDepth 100000 in
theorem ev_X10_addWord_p153 {l : Launch} {G : xG} (hO : x_OK l G) {P : xP} (hP : x_PG P G) {a0 : Nat} {σ σ' : xS} {rr : Unit ⊕ String} (h : dm_X10_addWord_p153 P a0 σ = some (rr, σ')) : Ev l G mX10_addWord 153 [(0, va_rf (some a0))] [] σ (xrV rr) σ' := by
  unfold dm_X10_addWord_p153 at h
  refine ev_aload_n (j := 0) (x := (some a0)) dX10_addWord_153 rfl rfl ?_
  refine ev_dup dX10_addWord_154 (x_cat _) ?_
  obtain ⟨c_1, h⟩ := x_chk_e h
  refine ev_get (C := RX10) (T := TX10) (k := 5) inX10 (xE_10 c_1) rfl (by decide) wd_95 (Or.inl rfl) rfl dX10_addWord_155 ?_
  refine ev_iconst (v := 1) dX10_addWord_158 (by decide) ?_
  refine ev_iadd (x := (σ.I 905 a0)) (y := 1) dX10_addWord_159 ?_
  obtain ⟨c_2, h⟩ := x_chk_e h
  obtain ⟨σ_3, eσ_3, h⟩ := x_let_e h
  refine ev_put (σ2 := σ_3) (C := RX10) (T := TX10) (k := 5) inX10 tyX10 tyX10_ok nmX10 (xE_10 c_2.1) rfl (by decide) wd_95 (Or.inl rfl) rfl rfl rfl rfl (Nat.le_of_ble_eq_true rfl) (hP.2.2.2.1 ▸ c_2.2) (by rw [eσ_3]; exact xP_10_5 _ c_2.1) (by rw [eσ_3]; exact xPut_I) dX10_addWord_160 ?_
  cases h
  exact ev_vret rfl dX10_addWord_163
set_option maxHeartbeats 4000000 in
set_option maxRecDepth 100000 in
theorem ev_X10_addWord_p58 {l : Launch} {G : xG} (hO : x_OK l G) {P : xP} (hP : x_PG P G) {a0 : Nat} {s0 : Option Nat} {s1 : Int32} {s2 : Int32} {σ σ' : xS} {rr : Unit ⊕ String} (h : dm_X10_addWord_p58 P a0 s0 s1 s2 σ = some (rr, σ')) : Ev l G mX10_addWord 58 [(0, va_rf (some a0))] [.int s2, .int s1, va_rf s0] σ (xrV rr) σ' := by
  unfold dm_X10_addWord_p58 at h
  obtain ⟨a_1, ea_1, h⟩ := x_some_e h
  refine ev_at (st' := [.int s2, .int s1, va_rf (some a_1)]) rfl (by rw [ea_1]) ?_
  obtain ⟨c_2, h⟩ := x_chk_e h
  obtain ⟨σ_3, eσ_3, h⟩ := x_let_e h
  refine ev_iast c_2.1 c_2.2.1 (hP.2.2.2.1 ▸ c_2.2.2) dX10_addWord_58 (eσ_3 ▸ ?_)
  refine ev_goto (tgt := 153) dX10_addWord_59 (by decide) ?_
  exact ev_sub [0] rfl (ev_X10_addWord_p153 hO hP h)
set_option maxHeartbeats 4000000 in
set_option maxRecDepth 100000 in
theorem ev_X10_addWord_p123 {l : Launch} {G : xG} (hO : x_OK l G) {P : xP} (hP : x_PG P G) {a0 : Nat} {s0 : Option Nat} {s1 : Int32} {s2 : Int32} {σ σ' : xS} {rr : Unit ⊕ String} (h : dm_X10_addWord_p123 P a0 s0 s1 s2 σ = some (rr, σ')) : Ev l G mX10_addWord 123 [(0, va_rf (some a0))] [.int s2, .int s1, va_rf s0] σ (xrV rr) σ' := by
  unfold dm_X10_addWord_p123 at h
  obtain ⟨a_1, ea_1, h⟩ := x_some_e h
  refine ev_at (st' := [.int s2, .int s1, va_rf (some a_1)]) rfl (by rw [ea_1]) ?_
  obtain ⟨c_2, h⟩ := x_chk_e h
  obtain ⟨σ_3, eσ_3, h⟩ := x_let_e h
  refine ev_iast c_2.1 c_2.2.1 (hP.2.2.2.1 ▸ c_2.2.2) dX10_addWord_123 (eσ_3 ▸ ?_)
  refine ev_goto (tgt := 153) dX10_addWord_124 (by decide) ?_
  exact ev_sub [0] rfl (ev_X10_addWord_p153 hO hP h)
set_option maxHeartbeats 4000000 in
set_option maxRecDepth 100000 in
theorem ev_X10_addWord {l : Launch} {G : xG} (hO : x_OK l G) {P : xP} (hP : x_PG P G) {a0 : Nat} {v1 : Int32} {v2 : Int32} {σ σ' : xS} {rr : Unit ⊕ String} (h : dm_X10_addWord P a0 v1 v2 σ = some (rr, σ')) : EvM l G mX10_addWord [va_rf (some a0), .int v1, .int v2] σ (xrV rr) σ' := by
  unfold dm_X10_addWord at h
  refine evM_of hO (by decide +kernel) (x_lenI (by simp [x_cat, x_catI, x_catJ, mX10_addWord, xM.maxL])) ?_
  refine Eq.mp (congrArg (fun z => Ev l G mX10_addWord 0 z [] σ (xrV rr) σ') (show [(0, va_rf (some a0)), (1, .int v1), (2, .int v2)] = lv_args 0 [va_rf (some a0), .int v1, .int v2] by simp [lv_args, x_cat, x_catI, x_catJ])) ?_
  refine ev_aload_n (j := 0) (x := (some a0)) dX10_addWord_0 rfl rfl ?_
  obtain ⟨c_1, h⟩ := x_chk_e h
  refine ev_get (C := RX10) (T := TX10) (k := 2) inX10 (xE_10 c_1) rfl (by decide) wd_91 (Or.inl rfl) rfl dX10_addWord_1 ?_
  refine ev_aload_n (j := 0) (x := (some a0)) dX10_addWord_4 rfl rfl ?_
  refine ev_get (C := RX10) (T := TX10) (k := 5) inX10 (xE_10 c_1) rfl (by decide) wd_95 (Or.inl rfl) rfl dX10_addWord_5 ?_
  refine ev_iload_n (j := 1) (x := v1) dX10_addWord_8 rfl rfl ?_
  obtain ⟨a_2, ea_2, h⟩ := x_some_e h
  refine ev_at (st' := [.int v1, .int (σ.I 905 a0), va_rf (some a_2)]) rfl (by rw [ea_2]) ?_
  obtain ⟨c_3, h⟩ := x_chk_e h
  obtain ⟨σ_4, eσ_4, h⟩ := x_let_e h
  refine ev_iast c_3.1 c_3.2.1 (hP.2.2.2.1 ▸ c_3.2.2) dX10_addWord_9 (eσ_4 ▸ ?_)
  refine ev_aload_n (j := 0) (x := (some a0)) dX10_addWord_10 rfl rfl ?_
  obtain ⟨c_5, h⟩ := x_chk_e h
  refine ev_get (C := RX10) (T := TX10) (k := 0) inX10 (xE_10 c_5) rfl (by decide) wd_88 (Or.inl rfl) rfl dX10_addWord_11 ?_
  refine ev_iload_n (j := 1) (x := v1) dX10_addWord_14 rfl rfl ?_
  obtain ⟨a_6, ea_6, h⟩ := x_some_e h
  refine ev_at (st' := [.int v1, va_rf (some a_6)]) rfl (by rw [ea_6]) ?_
  obtain ⟨c_7, h⟩ := x_chk_e h
  refine ev_cald c_7.1 c_7.2 dX10_addWord_15 ?_
  rcases x_bind_e h with ⟨v_8, σ_9, h_10, h⟩ | ⟨E_56, σ_9, h_10, h⟩
  · have z9 := x_call (M := mX10_addWord) (M' := mX10_isDigit) (pc := 16) (st := [.int (σ_4.AI a_6 (Int32.toNatClampNeg v1))]) (rest := []) (av := [.int (σ_4.AI a_6 (Int32.toNatClampNeg v1))]) (x_linkS (M := mX10_addWord) (M' := mX10_isDigit) (As := [.int (σ_4.AI a_6 (Int32.toNatClampNeg v1))]) (index := 72) wd_201 wd_202 wd_118 xw_X10_isDigit rfl ⟨_, _, _, Or.inl wd_200⟩ (by decide) rfl rfl dX10_addWord_16) (ev_X10_isDigit hO hP h_10) xw_X10_isDigit rfl wd_118 dX10_addWord_16 (by decide) (by decide) (by simp [x_cat, x_catI, x_catJ])
    refine x_callR z9 ?_
    refine ev_at (st' := [.int v_8]) rfl rfl ?_
    by_cases c_11 : v_8 = 0
    · rw [if_pos c_11] at h
      refine ev_if_eq (x := v_8) (tgt := 62) dX10_addWord_19 (by decide) (fun _ => ?_) (fun q9 => absurd c_11 q9)
      refine ev_aload_n (j := 0) (x := (some a0)) dX10_addWord_62 rfl rfl ?_
      obtain ⟨c_12, h⟩ := x_chk_e h
      refine ev_get (C := RX10) (T := TX10) (k := 0) inX10 (xE_10 c_12) rfl (by decide) wd_88 (Or.inl rfl) rfl dX10_addWord_63 ?_
      refine ev_iload_n (j := 1) (x := v1) dX10_addWord_66 rfl rfl ?_
      obtain ⟨a_13, ea_13, h⟩ := x_some_e h
      refine ev_at (st' := [.int v1, va_rf (some a_13)]) rfl (by rw [ea_13]) ?_
      obtain ⟨c_14, h⟩ := x_chk_e h
      refine ev_cald c_14.1 c_14.2 dX10_addWord_67 ?_
      rcases x_bind_e h with ⟨v_15, σ_16, h_17, h⟩ | ⟨E_45, σ_16, h_17, h⟩
      · have z9 := x_call (M := mX10_addWord) (M' := mX10_isLetter) (pc := 68) (st := [.int (σ_9.AI a_13 (Int32.toNatClampNeg v1))]) (rest := []) (av := [.int (σ_9.AI a_13 (Int32.toNatClampNeg v1))]) (x_linkS (M := mX10_addWord) (M' := mX10_isLetter) (As := [.int (σ_9.AI a_13 (Int32.toNatClampNeg v1))]) (index := 76) wd_204 wd_205 wd_118 xw_X10_isLetter rfl ⟨_, _, _, Or.inl wd_203⟩ (by decide) rfl rfl dX10_addWord_68) (ev_X10_isLetter hO hP h_17) xw_X10_isLetter rfl wd_118 dX10_addWord_68 (by decide) (by decide) (by simp [x_cat, x_catI, x_catJ])
        refine x_callR z9 ?_
        refine ev_at (st' := [.int v_15]) rfl rfl ?_
        by_cases c_18 : v_15 = 0
        · rw [if_pos c_18] at h
          refine ev_if_eq (x := v_15) (tgt := 127) dX10_addWord_71 (by decide) (fun _ => ?_) (fun q9 => absurd c_18 q9)
          refine ev_aload_n (j := 0) (x := (some a0)) dX10_addWord_127 rfl rfl ?_
          obtain ⟨c_19, h⟩ := x_chk_e h
          refine ev_get (C := RX10) (T := TX10) (k := 4) inX10 (xE_10 c_19) rfl (by decide) wd_94 (Or.inl rfl) rfl dX10_addWord_128 ?_
          refine ev_aload_n (j := 0) (x := (some a0)) dX10_addWord_131 rfl rfl ?_
          refine ev_get (C := RX10) (T := TX10) (k := 5) inX10 (xE_10 c_19) rfl (by decide) wd_95 (Or.inl rfl) rfl dX10_addWord_132 ?_
          refine ev_aload_n (j := 0) (x := (some a0)) dX10_addWord_135 rfl rfl ?_
          refine ev_get (C := RX10) (T := TX10) (k := 0) inX10 (xE_10 c_19) rfl (by decide) wd_88 (Or.inl rfl) rfl dX10_addWord_136 ?_
          refine ev_iload_n (j := 1) (x := v1) dX10_addWord_139 rfl rfl ?_
          obtain ⟨a_20, ea_20, h⟩ := x_some_e h
          refine ev_at (st' := [.int v1, va_rf (some a_20), .int (σ_16.I 905 a0), va_rf (σ_16.R 904 a0)]) rfl (by rw [ea_20]) ?_
          obtain ⟨c_21, h⟩ := x_chk_e h
          refine ev_cald c_21.1 c_21.2 dX10_addWord_140 ?_
          refine ev_i2l (x := (σ_16.AI a_20 (Int32.toNatClampNeg v1))) dX10_addWord_141 ?_
          obtain ⟨a_22, ea_22, h⟩ := x_some_e h
          refine ev_at (st' := [.long (Int32.toInt64 (σ_16.AI a_20 (Int32.toNatClampNeg v1))), .int (σ_16.I 905 a0), va_rf (some a_22)]) rfl (by rw [ea_22]) ?_
          obtain ⟨c_23, h⟩ := x_chk_e h
          obtain ⟨σ_24, eσ_24, h⟩ := x_let_e h
          refine ev_last c_23.1 c_23.2.1 (hP.2.2.2.1 ▸ c_23.2.2) dX10_addWord_142 (eσ_24 ▸ ?_)
          refine ev_aload_n (j := 0) (x := (some a0)) dX10_addWord_143 rfl rfl ?_
          obtain ⟨c_25, h⟩ := x_chk_e h
          refine ev_get (C := RX10) (T := TX10) (k := 3) inX10 (xE_10 c_25) rfl (by decide) wd_92 (Or.inl rfl) rfl dX10_addWord_144 ?_
          refine ev_aload_n (j := 0) (x := (some a0)) dX10_addWord_147 rfl rfl ?_
          refine ev_get (C := RX10) (T := TX10) (k := 5) inX10 (xE_10 c_25) rfl (by decide) wd_95 (Or.inl rfl) rfl dX10_addWord_148 ?_
          refine ev_iconst (v := 3) dX10_addWord_151 (by decide) ?_
          obtain ⟨a_26, ea_26, h⟩ := x_some_e h
          refine ev_at (st' := [.int 3, .int (σ_24.I 905 a0), va_rf (some a_26)]) rfl (by rw [ea_26]) ?_
          obtain ⟨c_27, h⟩ := x_chk_e h
          obtain ⟨σ_28, eσ_28, h⟩ := x_let_e h
          refine ev_iast c_27.1 c_27.2.1 (hP.2.2.2.1 ▸ c_27.2.2) dX10_addWord_152 (eσ_28 ▸ ?_)
          exact ev_sub [0] rfl (ev_X10_addWord_p153 hO hP h)
        · rw [if_neg c_18] at h
          refine ev_if_eq (x := v_15) (tgt := 127) dX10_addWord_71 (by decide) (fun q9 => absurd q9 c_18) (fun _ => ?_)
          refine ev_aload_n (j := 0) (x := (some a0)) dX10_addWord_74 rfl rfl ?_
          refine ev_iload_n (j := 1) (x := v1) dX10_addWord_75 rfl rfl ?_
          refine ev_iload_n (j := 2) (x := v2) dX10_addWord_76 rfl rfl ?_
          obtain ⟨c_32, h⟩ := x_chk_e h
          rcases x_bind_e h with ⟨v_29, σ_30, h_31, h⟩ | ⟨E_44, σ_30, h_31, h⟩
          · have z9 := x_call (M := mX10_addWord) (M' := mX10_nameIn) (pc := 77) (st := [.int v2, .int v1, va_rf (some a0)]) (rest := []) (av := [va_rf (some a0), .int v1, .int v2]) (x_linkV (M := mX10_addWord) (M' := mX10_nameIn) (As := [.int v1, .int v2]) (index := 83) (C := RX10) (T := TX10) (xE_10 c_32) rfl wd_219 wd_220 (wG_in (List.mem_append_left _ (List.mem_of_getElem? (i := 5) rfl)) rfl) xw_X10_nameIn rfl (by decide) rfl rfl dX10_addWord_77) (ev_X10_nameIn hO hP h_31) xw_X10_nameIn rfl wd_118 dX10_addWord_77 (by decide) (by decide) (by simp [x_cat, x_catI, x_catJ])
            refine x_callR z9 ?_
            refine ev_at (st' := [.long v_29]) rfl rfl ?_
            refine ev_lstore_n (i := 3) (lv' := [(3, .long v_29), (0, va_rf (some a0)), (1, .int v1), (2, .int v2)]) dX10_addWord_80 rfl (by decide) rfl ?_
            refine ev_aload_n (j := 1) (x := (some a0)) dX10_addWord_81 rfl rfl ?_
            obtain ⟨c_33, h⟩ := x_chk_e h
            refine ev_get (C := RX10) (T := TX10) (k := 4) inX10 (xE_10 c_33) rfl (by decide) wd_94 (Or.inl rfl) rfl dX10_addWord_82 ?_
            refine ev_aload_n (j := 1) (x := (some a0)) dX10_addWord_85 rfl rfl ?_
            refine ev_get (C := RX10) (T := TX10) (k := 5) inX10 (xE_10 c_33) rfl (by decide) wd_95 (Or.inl rfl) rfl dX10_addWord_86 ?_
            refine ev_lload_n (j := 0) (x := v_29) dX10_addWord_89 rfl rfl ?_
            obtain ⟨a_34, ea_34, h⟩ := x_some_e h
            refine ev_at (st' := [.long v_29, .int (σ_30.I 905 a0), va_rf (some a_34)]) rfl (by rw [ea_34]) ?_
            obtain ⟨c_35, h⟩ := x_chk_e h
            obtain ⟨σ_36, eσ_36, h⟩ := x_let_e h
            refine ev_last c_35.1 c_35.2.1 (hP.2.2.2.1 ▸ c_35.2.2) dX10_addWord_90 (eσ_36 ▸ ?_)
            refine ev_aload_n (j := 1) (x := (some a0)) dX10_addWord_91 rfl rfl ?_
            obtain ⟨c_37, h⟩ := x_chk_e h
            refine ev_get (C := RX10) (T := TX10) (k := 3) inX10 (xE_10 c_37) rfl (by decide) wd_92 (Or.inl rfl) rfl dX10_addWord_92 ?_
            refine ev_aload_n (j := 1) (x := (some a0)) dX10_addWord_95 rfl rfl ?_
            refine ev_get (C := RX10) (T := TX10) (k := 5) inX10 (xE_10 c_37) rfl (by decide) wd_95 (Or.inl rfl) rfl dX10_addWord_96 ?_
            refine ev_iload_n (j := 3) (x := v2) dX10_addWord_99 rfl rfl ?_
            refine ev_iload_n (j := 2) (x := v1) dX10_addWord_100 rfl rfl ?_
            refine ev_isub (x := v2) (y := v1) dX10_addWord_101 ?_
            refine ev_bipush (v := 8) dX10_addWord_102 (by decide) ?_
            by_cases c_38 : (v2 - v1) ≤ 8
            · rw [if_pos c_38] at h
              refine ev_icmp_le (x := (v2 - v1)) (y := 8) (tgt := 111) dX10_addWord_104 (by decide) (fun _ => ?_) (fun q9 => absurd c_38 q9)
              refine ev_lload_n (j := 0) (x := v_29) dX10_addWord_111 rfl rfl ?_
              rcases x_bind_e h with ⟨v_39, σ_40, h_41, h⟩ | ⟨E_43, σ_40, h_41, h⟩
              · have z9 := x_call (M := mX10_addWord) (M' := mX10_isKeyword) (pc := 112) (st := [.long v_29, .int (σ_36.I 905 a0), va_rf (σ_36.R 903 a0)]) (rest := [.int (σ_36.I 905 a0), va_rf (σ_36.R 903 a0)]) (av := [.long v_29]) (x_linkS (M := mX10_addWord) (M' := mX10_isKeyword) (As := [.long v_29]) (index := 87) wd_222 wd_223 wd_118 xw_X10_isKeyword rfl ⟨_, _, _, Or.inl wd_221⟩ (by decide) rfl rfl dX10_addWord_112) (ev_X10_isKeyword hO hP h_41) xw_X10_isKeyword rfl wd_118 dX10_addWord_112 (by decide) (by decide) (by simp [x_cat, x_catI, x_catJ])
                refine x_callR z9 ?_
                refine ev_at (st' := [.int v_39, .int (σ_36.I 905 a0), va_rf (σ_36.R 903 a0)]) rfl rfl ?_
                by_cases c_42 : v_39 = 0
                · rw [if_pos c_42] at h
                  refine ev_if_eq (x := v_39) (tgt := 122) dX10_addWord_115 (by decide) (fun _ => ?_) (fun q9 => absurd c_42 q9)
                  refine ev_iconst (v := 0) dX10_addWord_122 (by decide) ?_
                  exact ev_sub [1] rfl (ev_X10_addWord_p123 hO hP h)
                · rw [if_neg c_42] at h
                  refine ev_if_eq (x := v_39) (tgt := 122) dX10_addWord_115 (by decide) (fun q9 => absurd q9 c_42) (fun _ => ?_)
                  refine ev_iconst (v := 1) dX10_addWord_118 (by decide) ?_
                  refine ev_goto (tgt := 123) dX10_addWord_119 (by decide) ?_
                  exact ev_sub [1] rfl (ev_X10_addWord_p123 hO hP h)
              · have z9 := x_call (M := mX10_addWord) (M' := mX10_isKeyword) (pc := 112) (st := [.long v_29, .int (σ_36.I 905 a0), va_rf (σ_36.R 903 a0)]) (rest := [.int (σ_36.I 905 a0), va_rf (σ_36.R 903 a0)]) (av := [.long v_29]) (x_linkS (M := mX10_addWord) (M' := mX10_isKeyword) (As := [.long v_29]) (index := 87) wd_222 wd_223 wd_118 xw_X10_isKeyword rfl ⟨_, _, _, Or.inl wd_221⟩ (by decide) rfl rfl dX10_addWord_112) (ev_X10_isKeyword hO hP h_41) xw_X10_isKeyword rfl wd_118 dX10_addWord_112 (by decide) (by decide) (by simp [x_cat, x_catI, x_catJ])
                cases h
                exact x_callX z9 (evX_out rfl)
            · rw [if_neg c_38] at h
              refine ev_icmp_le (x := (v2 - v1)) (y := 8) (tgt := 111) dX10_addWord_104 (by decide) (fun q9 => absurd q9 c_38) (fun _ => ?_)
              refine ev_iconst (v := 4) dX10_addWord_107 (by decide) ?_
              refine ev_goto (tgt := 123) dX10_addWord_108 (by decide) ?_
              exact ev_sub [1] rfl (ev_X10_addWord_p123 hO hP h)
          · have z9 := x_call (M := mX10_addWord) (M' := mX10_nameIn) (pc := 77) (st := [.int v2, .int v1, va_rf (some a0)]) (rest := []) (av := [va_rf (some a0), .int v1, .int v2]) (x_linkV (M := mX10_addWord) (M' := mX10_nameIn) (As := [.int v1, .int v2]) (index := 83) (C := RX10) (T := TX10) (xE_10 c_32) rfl wd_219 wd_220 (wG_in (List.mem_append_left _ (List.mem_of_getElem? (i := 5) rfl)) rfl) xw_X10_nameIn rfl (by decide) rfl rfl dX10_addWord_77) (ev_X10_nameIn hO hP h_31) xw_X10_nameIn rfl wd_118 dX10_addWord_77 (by decide) (by decide) (by simp [x_cat, x_catI, x_catJ])
            cases h
            exact x_callX z9 (evX_out rfl)
      · have z9 := x_call (M := mX10_addWord) (M' := mX10_isLetter) (pc := 68) (st := [.int (σ_9.AI a_13 (Int32.toNatClampNeg v1))]) (rest := []) (av := [.int (σ_9.AI a_13 (Int32.toNatClampNeg v1))]) (x_linkS (M := mX10_addWord) (M' := mX10_isLetter) (As := [.int (σ_9.AI a_13 (Int32.toNatClampNeg v1))]) (index := 76) wd_204 wd_205 wd_118 xw_X10_isLetter rfl ⟨_, _, _, Or.inl wd_203⟩ (by decide) rfl rfl dX10_addWord_68) (ev_X10_isLetter hO hP h_17) xw_X10_isLetter rfl wd_118 dX10_addWord_68 (by decide) (by decide) (by simp [x_cat, x_catI, x_catJ])
        cases h
        exact x_callX z9 (evX_out rfl)
    · rw [if_neg c_11] at h
      refine ev_if_eq (x := v_8) (tgt := 62) dX10_addWord_19 (by decide) (fun q9 => absurd q9 c_11) (fun _ => ?_)
      refine ev_aload_n (j := 0) (x := (some a0)) dX10_addWord_22 rfl rfl ?_
      obtain ⟨c_46, h⟩ := x_chk_e h
      refine ev_get (C := RX10) (T := TX10) (k := 4) inX10 (xE_10 c_46) rfl (by decide) wd_94 (Or.inl rfl) rfl dX10_addWord_23 ?_
      refine ev_aload_n (j := 0) (x := (some a0)) dX10_addWord_26 rfl rfl ?_
      refine ev_get (C := RX10) (T := TX10) (k := 5) inX10 (xE_10 c_46) rfl (by decide) wd_95 (Or.inl rfl) rfl dX10_addWord_27 ?_
      refine ev_aload_n (j := 0) (x := (some a0)) dX10_addWord_30 rfl rfl ?_
      refine ev_iload_n (j := 1) (x := v1) dX10_addWord_31 rfl rfl ?_
      refine ev_iload_n (j := 2) (x := v2) dX10_addWord_32 rfl rfl ?_
      rcases x_bind_e h with ⟨v_47, σ_48, h_49, h⟩ | ⟨E_55, σ_48, h_49, h⟩
      · have z9 := x_call (M := mX10_addWord) (M' := mX10_numberIn) (pc := 33) (st := [.int v2, .int v1, va_rf (some a0), .int (σ_9.I 905 a0), va_rf (σ_9.R 904 a0)]) (rest := [.int (σ_9.I 905 a0), va_rf (σ_9.R 904 a0)]) (av := [va_rf (some a0), .int v1, .int v2]) (x_linkV (M := mX10_addWord) (M' := mX10_numberIn) (As := [.int v1, .int v2]) (index := 79) (C := RX10) (T := TX10) (xE_10 c_46) rfl wd_225 wd_226 (wG_in (List.mem_append_left _ (List.mem_of_getElem? (i := 4) rfl)) rfl) xw_X10_numberIn rfl (by decide) rfl rfl dX10_addWord_33) (ev_X10_numberIn hO hP h_49) xw_X10_numberIn rfl wd_118 dX10_addWord_33 (by decide) (by decide) (by simp [x_cat, x_catI, x_catJ])
        refine x_callR z9 ?_
        refine ev_at (st' := [.int v_47, .int (σ_9.I 905 a0), va_rf (σ_9.R 904 a0)]) rfl rfl ?_
        refine ev_i2l (x := v_47) dX10_addWord_36 ?_
        obtain ⟨a_50, ea_50, h⟩ := x_some_e h
        refine ev_at (st' := [.long (Int32.toInt64 v_47), .int (σ_9.I 905 a0), va_rf (some a_50)]) rfl (by rw [ea_50]) ?_
        obtain ⟨c_51, h⟩ := x_chk_e h
        obtain ⟨σ_52, eσ_52, h⟩ := x_let_e h
        refine ev_last c_51.1 c_51.2.1 (hP.2.2.2.1 ▸ c_51.2.2) dX10_addWord_37 (eσ_52 ▸ ?_)
        refine ev_aload_n (j := 0) (x := (some a0)) dX10_addWord_38 rfl rfl ?_
        obtain ⟨c_53, h⟩ := x_chk_e h
        refine ev_get (C := RX10) (T := TX10) (k := 3) inX10 (xE_10 c_53) rfl (by decide) wd_92 (Or.inl rfl) rfl dX10_addWord_39 ?_
        refine ev_aload_n (j := 0) (x := (some a0)) dX10_addWord_42 rfl rfl ?_
        refine ev_get (C := RX10) (T := TX10) (k := 5) inX10 (xE_10 c_53) rfl (by decide) wd_95 (Or.inl rfl) rfl dX10_addWord_43 ?_
        refine ev_iload_n (j := 2) (x := v2) dX10_addWord_46 rfl rfl ?_
        refine ev_iload_n (j := 1) (x := v1) dX10_addWord_47 rfl rfl ?_
        refine ev_isub (x := v2) (y := v1) dX10_addWord_48 ?_
        refine ev_iconst (v := 2) dX10_addWord_49 (by decide) ?_
        by_cases c_54 : (v2 - v1) ≤ 2
        · rw [if_pos c_54] at h
          refine ev_icmp_le (x := (v2 - v1)) (y := 2) (tgt := 57) dX10_addWord_50 (by decide) (fun _ => ?_) (fun q9 => absurd c_54 q9)
          refine ev_iconst (v := 2) dX10_addWord_57 (by decide) ?_
          exact ev_sub [0] rfl (ev_X10_addWord_p58 hO hP h)
        · rw [if_neg c_54] at h
          refine ev_icmp_le (x := (v2 - v1)) (y := 2) (tgt := 57) dX10_addWord_50 (by decide) (fun q9 => absurd q9 c_54) (fun _ => ?_)
          refine ev_iconst (v := 4) dX10_addWord_53 (by decide) ?_
          refine ev_goto (tgt := 58) dX10_addWord_54 (by decide) ?_
          exact ev_sub [0] rfl (ev_X10_addWord_p58 hO hP h)
      · have z9 := x_call (M := mX10_addWord) (M' := mX10_numberIn) (pc := 33) (st := [.int v2, .int v1, va_rf (some a0), .int (σ_9.I 905 a0), va_rf (σ_9.R 904 a0)]) (rest := [.int (σ_9.I 905 a0), va_rf (σ_9.R 904 a0)]) (av := [va_rf (some a0), .int v1, .int v2]) (x_linkV (M := mX10_addWord) (M' := mX10_numberIn) (As := [.int v1, .int v2]) (index := 79) (C := RX10) (T := TX10) (xE_10 c_46) rfl wd_225 wd_226 (wG_in (List.mem_append_left _ (List.mem_of_getElem? (i := 4) rfl)) rfl) xw_X10_numberIn rfl (by decide) rfl rfl dX10_addWord_33) (ev_X10_numberIn hO hP h_49) xw_X10_numberIn rfl wd_118 dX10_addWord_33 (by decide) (by decide) (by simp [x_cat, x_catI, x_catJ])
        cases h
        exact x_callX z9 (evX_out rfl)
  · have z9 := x_call (M := mX10_addWord) (M' := mX10_isDigit) (pc := 16) (st := [.int (σ_4.AI a_6 (Int32.toNatClampNeg v1))]) (rest := []) (av := [.int (σ_4.AI a_6 (Int32.toNatClampNeg v1))]) (x_linkS (M := mX10_addWord) (M' := mX10_isDigit) (As := [.int (σ_4.AI a_6 (Int32.toNatClampNeg v1))]) (index := 72) wd_201 wd_202 wd_118 xw_X10_isDigit rfl ⟨_, _, _, Or.inl wd_200⟩ (by decide) rfl rfl dX10_addWord_16) (ev_X10_isDigit hO hP h_10) xw_X10_isDigit rfl wd_118 dX10_addWord_16 (by decide) (by decide) (by simp [x_cat, x_catI, x_catJ])
    cases h
    exact x_callX z9 (evX_out rfl)
set_option maxHeartbeats 4000000 in
set_option maxRecDepth 100000 in
theorem ev_X10_scan_p57 {l : Launch} {G : xG} (hO : x_OK l G) {P : xP} (hP : x_PG P G) {a0 : Nat} {σ σ' : xS} {rr : Unit ⊕ String} (h : dm_X10_scan_p57 P a0 σ = some (rr, σ')) : Ev l G mX10_scan 57 [(0, va_rf (some a0))] [] σ (xrV rr) σ' := by
  unfold dm_X10_scan_p57 at h
  refine ev_aload_n (j := 0) (x := (some a0)) dX10_scan_57 rfl rfl ?_
  obtain ⟨c_1, h⟩ := x_chk_e h
  refine ev_get (C := RX10) (T := TX10) (k := 2) inX10 (xE_10 c_1) rfl (by decide) wd_91 (Or.inl rfl) rfl dX10_scan_58 ?_
  refine ev_aload_n (j := 0) (x := (some a0)) dX10_scan_61 rfl rfl ?_
  refine ev_get (C := RX10) (T := TX10) (k := 5) inX10 (xE_10 c_1) rfl (by decide) wd_95 (Or.inl rfl) rfl dX10_scan_62 ?_
  refine ev_aload_n (j := 0) (x := (some a0)) dX10_scan_65 rfl rfl ?_
  refine ev_get (C := RX10) (T := TX10) (k := 1) inX10 (xE_10 c_1) rfl (by decide) wd_89 (Or.inl rfl) rfl dX10_scan_66 ?_
  obtain ⟨a_2, ea_2, h⟩ := x_some_e h
  refine ev_at (st' := [.int (σ.I 901 a0), .int (σ.I 905 a0), va_rf (some a_2)]) rfl (by rw [ea_2]) ?_
  obtain ⟨c_3, h⟩ := x_chk_e h
  obtain ⟨σ_4, eσ_4, h⟩ := x_let_e h
  refine ev_iast c_3.1 c_3.2.1 (hP.2.2.2.1 ▸ c_3.2.2) dX10_scan_69 (eσ_4 ▸ ?_)
  refine ev_aload_n (j := 0) (x := (some a0)) dX10_scan_70 rfl rfl ?_
  obtain ⟨c_5, h⟩ := x_chk_e h
  refine ev_get (C := RX10) (T := TX10) (k := 3) inX10 (xE_10 c_5) rfl (by decide) wd_92 (Or.inl rfl) rfl dX10_scan_71 ?_
  refine ev_aload_n (j := 0) (x := (some a0)) dX10_scan_74 rfl rfl ?_
  refine ev_get (C := RX10) (T := TX10) (k := 5) inX10 (xE_10 c_5) rfl (by decide) wd_95 (Or.inl rfl) rfl dX10_scan_75 ?_
  refine ev_iconst (v := 5) dX10_scan_78 (by decide) ?_
  obtain ⟨a_6, ea_6, h⟩ := x_some_e h
  refine ev_at (st' := [.int 5, .int (σ_4.I 905 a0), va_rf (some a_6)]) rfl (by rw [ea_6]) ?_
  obtain ⟨c_7, h⟩ := x_chk_e h
  obtain ⟨σ_8, eσ_8, h⟩ := x_let_e h
  refine ev_iast c_7.1 c_7.2.1 (hP.2.2.2.1 ▸ c_7.2.2) dX10_scan_79 (eσ_8 ▸ ?_)
  refine ev_aload_n (j := 0) (x := (some a0)) dX10_scan_80 rfl rfl ?_
  obtain ⟨c_9, h⟩ := x_chk_e h
  refine ev_get (C := RX10) (T := TX10) (k := 4) inX10 (xE_10 c_9) rfl (by decide) wd_94 (Or.inl rfl) rfl dX10_scan_81 ?_
  refine ev_aload_n (j := 0) (x := (some a0)) dX10_scan_84 rfl rfl ?_
  refine ev_get (C := RX10) (T := TX10) (k := 5) inX10 (xE_10 c_9) rfl (by decide) wd_95 (Or.inl rfl) rfl dX10_scan_85 ?_
  refine ev_lconst (v := 0) dX10_scan_88 (by decide) ?_
  obtain ⟨a_10, ea_10, h⟩ := x_some_e h
  refine ev_at (st' := [.long 0, .int (σ_8.I 905 a0), va_rf (some a_10)]) rfl (by rw [ea_10]) ?_
  obtain ⟨c_11, h⟩ := x_chk_e h
  obtain ⟨σ_12, eσ_12, h⟩ := x_let_e h
  refine ev_last c_11.1 c_11.2.1 (hP.2.2.2.1 ▸ c_11.2.2) dX10_scan_89 (eσ_12 ▸ ?_)
  cases h
  exact ev_vret rfl dX10_scan_90
set_option maxHeartbeats 4000000 in
set_option maxRecDepth 100000 in
theorem ev_X10_scan_L18 {l : Launch} {G : xG} (hO : x_OK l G) {P : xP} (hP : x_PG P G) {a0 : Nat} : ∀ (n : Nat) {v1 : Int32} {v2 : Int32} {σ σ' : xS} {rr : Unit ⊕ String}, dm_X10_scan_L18 P a0 n v1 v2 σ = some (rr, σ') → Ev l G mX10_scan 18 [(0, va_rf (some a0)), (1, .int v1), (2, .int v2)] [] σ (xrV rr) σ' := by
  intro n
  induction n with
  | zero => intro v1 v2 σ σ' rr h; cases h
  | succ n ih =>
    intro v1 v2 σ σ' rr h
    rw [dm_X10_scan_L18] at h
    refine ev_iload_n (j := 2) (x := v2) dX10_scan_18 rfl rfl ?_
    refine ev_sipush (v := 1000) dX10_scan_19 (by decide) ?_
    by_cases c_1 : 1000 ≤ v2
    · rw [if_pos c_1] at h
      refine ev_icmp_ge (x := v2) (y := 1000) (tgt := 57) dX10_scan_22 (by decide) (fun _ => ?_) (fun q9 => absurd c_1 q9)
      exact ev_sub [0] rfl (ev_X10_scan_p57 hO hP h)
    · rw [if_neg c_1] at h
      refine ev_icmp_ge (x := v2) (y := 1000) (tgt := 57) dX10_scan_22 (by decide) (fun q9 => absurd q9 c_1) (fun _ => ?_)
      refine ev_iload_n (j := 1) (x := v1) dX10_scan_25 rfl rfl ?_
      refine ev_aload_n (j := 0) (x := (some a0)) dX10_scan_26 rfl rfl ?_
      obtain ⟨c_2, h⟩ := x_chk_e h
      refine ev_get (C := RX10) (T := TX10) (k := 1) inX10 (xE_10 c_2) rfl (by decide) wd_89 (Or.inl rfl) rfl dX10_scan_27 ?_
      by_cases c_3 : (σ.I 901 a0) ≤ v1
      · rw [if_pos c_3] at h
        refine ev_icmp_ge (x := v1) (y := (σ.I 901 a0)) (tgt := 57) dX10_scan_30 (by decide) (fun _ => ?_) (fun q9 => absurd c_3 q9)
        exact ev_sub [0] rfl (ev_X10_scan_p57 hO hP h)
      · rw [if_neg c_3] at h
        refine ev_icmp_ge (x := v1) (y := (σ.I 901 a0)) (tgt := 57) dX10_scan_30 (by decide) (fun q9 => absurd q9 c_3) (fun _ => ?_)
        refine ev_aload_n (j := 0) (x := (some a0)) dX10_scan_33 rfl rfl ?_
        refine ev_iload_n (j := 1) (x := v1) dX10_scan_34 rfl rfl ?_
        rcases x_bind_e h with ⟨v_4, σ_5, h_6, h⟩ | ⟨E_18, σ_5, h_6, h⟩
        · have z9 := x_call (M := mX10_scan) (M' := mX10_rowEnd) (pc := 35) (st := [.int v1, va_rf (some a0)]) (rest := []) (av := [va_rf (some a0), .int v1]) (x_linkV (M := mX10_scan) (M' := mX10_rowEnd) (As := [.int v1]) (index := 65) (C := RX10) (T := TX10) (xE_10 c_2) rfl wd_231 wd_232 (wG_in (List.mem_append_left _ (List.mem_of_getElem? (i := 2) rfl)) rfl) xw_X10_rowEnd rfl (by decide) rfl rfl dX10_scan_35) (ev_X10_rowEnd hO hP h_6) xw_X10_rowEnd rfl wd_118 dX10_scan_35 (by decide) (by decide) (by simp [x_cat, x_catI, x_catJ])
          refine x_callR z9 ?_
          refine ev_at (st' := [.int v_4]) rfl rfl ?_
          refine ev_istore_n (i := 3) (lv' := [(3, .int v_4), (0, va_rf (some a0)), (1, .int v1), (2, .int v2)]) dX10_scan_38 rfl (by decide) rfl ?_
          refine ev_aload_n (j := 1) (x := (some a0)) dX10_scan_39 rfl rfl ?_
          refine ev_iload_n (j := 2) (x := v1) dX10_scan_40 rfl rfl ?_
          refine ev_iload_n (j := 0) (x := v_4) dX10_scan_41 rfl rfl ?_
          obtain ⟨c_10, h⟩ := x_chk_e h
          rcases x_bind_e h with ⟨v_7, σ_8, h_9, h⟩ | ⟨E_17, σ_8, h_9, h⟩
          · have z9 := x_call (M := mX10_scan) (M' := mX10_addWord) (pc := 42) (st := [.int v_4, .int v1, va_rf (some a0)]) (rest := []) (av := [va_rf (some a0), .int v1, .int v_4]) (x_linkV (M := mX10_scan) (M' := mX10_addWord) (As := [.int v1, .int v_4]) (index := 68) (C := RX10) (T := TX10) (xE_10 c_10) rfl wd_234 wd_235 (wG_in (List.mem_append_left _ (List.mem_of_getElem? (i := 3) rfl)) rfl) xw_X10_addWord rfl (by decide) rfl rfl dX10_scan_42) (ev_X10_addWord hO hP h_9) xw_X10_addWord rfl wd_118 dX10_scan_42 (by decide) (by decide) (by simp [x_cat, x_catI, x_catJ])
            refine x_callR z9 ?_
            refine ev_at (st' := []) rfl rfl ?_
            refine ev_aload_n (j := 1) (x := (some a0)) dX10_scan_45 rfl rfl ?_
            refine ev_iload_n (j := 0) (x := v_4) dX10_scan_46 rfl rfl ?_
            obtain ⟨c_14, h⟩ := x_chk_e h
            rcases x_bind_e h with ⟨v_11, σ_12, h_13, h⟩ | ⟨E_16, σ_12, h_13, h⟩
            · have z9 := x_call (M := mX10_scan) (M' := mX10_behindBlanks) (pc := 47) (st := [.int v_4, va_rf (some a0)]) (rest := []) (av := [va_rf (some a0), .int v_4]) (x_linkV (M := mX10_scan) (M' := mX10_behindBlanks) (As := [.int v_4]) (index := 61) (C := RX10) (T := TX10) (xE_10 c_14) rfl wd_228 wd_229 (wG_in (List.mem_append_left _ (List.mem_of_getElem? (i := 1) rfl)) rfl) xw_X10_behindBlanks rfl (by decide) rfl rfl dX10_scan_47) (ev_X10_behindBlanks hO hP h_13) xw_X10_behindBlanks rfl wd_118 dX10_scan_47 (by decide) (by decide) (by simp [x_cat, x_catI, x_catJ])
              refine x_callR z9 ?_
              refine ev_at (st' := [.int v_11]) rfl rfl ?_
              refine ev_istore_n (i := 1) (lv' := [(1, .int v_11), (3, .int v_4), (0, va_rf (some a0)), (2, .int v2)]) dX10_scan_50 rfl (by decide) (by simp [x_cat, x_catI, x_catJ]) ?_
              obtain ⟨v_15, ev_15, h⟩ := x_let_e h
              refine ev_iinc (j := 3) (x := v2) (v := v_15) (lv' := [(2, .int v_15), (1, .int v_11), (3, .int v_4), (0, va_rf (some a0))]) dX10_scan_51 rfl (by rw [ev_15]; rfl) (by decide) rfl ?_
              refine ev_goto (tgt := 18) dX10_scan_54 (by decide) ?_
              exact ev_sub [3, 1, 0] rfl (ih h)
            · have z9 := x_call (M := mX10_scan) (M' := mX10_behindBlanks) (pc := 47) (st := [.int v_4, va_rf (some a0)]) (rest := []) (av := [va_rf (some a0), .int v_4]) (x_linkV (M := mX10_scan) (M' := mX10_behindBlanks) (As := [.int v_4]) (index := 61) (C := RX10) (T := TX10) (xE_10 c_14) rfl wd_228 wd_229 (wG_in (List.mem_append_left _ (List.mem_of_getElem? (i := 1) rfl)) rfl) xw_X10_behindBlanks rfl (by decide) rfl rfl dX10_scan_47) (ev_X10_behindBlanks hO hP h_13) xw_X10_behindBlanks rfl wd_118 dX10_scan_47 (by decide) (by decide) (by simp [x_cat, x_catI, x_catJ])
              cases h
              exact x_callX z9 (evX_out rfl)
          · have z9 := x_call (M := mX10_scan) (M' := mX10_addWord) (pc := 42) (st := [.int v_4, .int v1, va_rf (some a0)]) (rest := []) (av := [va_rf (some a0), .int v1, .int v_4]) (x_linkV (M := mX10_scan) (M' := mX10_addWord) (As := [.int v1, .int v_4]) (index := 68) (C := RX10) (T := TX10) (xE_10 c_10) rfl wd_234 wd_235 (wG_in (List.mem_append_left _ (List.mem_of_getElem? (i := 3) rfl)) rfl) xw_X10_addWord rfl (by decide) rfl rfl dX10_scan_42) (ev_X10_addWord hO hP h_9) xw_X10_addWord rfl wd_118 dX10_scan_42 (by decide) (by decide) (by simp [x_cat, x_catI, x_catJ])
            cases h
            exact x_callX z9 (evX_out rfl)
        · have z9 := x_call (M := mX10_scan) (M' := mX10_rowEnd) (pc := 35) (st := [.int v1, va_rf (some a0)]) (rest := []) (av := [va_rf (some a0), .int v1]) (x_linkV (M := mX10_scan) (M' := mX10_rowEnd) (As := [.int v1]) (index := 65) (C := RX10) (T := TX10) (xE_10 c_2) rfl wd_231 wd_232 (wG_in (List.mem_append_left _ (List.mem_of_getElem? (i := 2) rfl)) rfl) xw_X10_rowEnd rfl (by decide) rfl rfl dX10_scan_35) (ev_X10_rowEnd hO hP h_6) xw_X10_rowEnd rfl wd_118 dX10_scan_35 (by decide) (by decide) (by simp [x_cat, x_catI, x_catJ])
          cases h
          exact x_callX z9 (evX_out rfl)
set_option maxHeartbeats 4000000 in
set_option maxRecDepth 100000 in
theorem ev_X10_scan {l : Launch} {G : xG} (hO : x_OK l G) {P : xP} (hP : x_PG P G) {a0 : Nat} {σ σ' : xS} {rr : Unit ⊕ String} (h : dm_X10_scan P a0 σ = some (rr, σ')) : EvM l G mX10_scan [va_rf (some a0)] σ (xrV rr) σ' := by
  unfold dm_X10_scan at h
  refine evM_of hO (by decide +kernel) (x_lenI (by simp [x_cat, x_catI, x_catJ, mX10_scan, xM.maxL])) ?_
  refine Eq.mp (congrArg (fun z => Ev l G mX10_scan 0 z [] σ (xrV rr) σ') (show [(0, va_rf (some a0))] = lv_args 0 [va_rf (some a0)] by simp [lv_args, x_cat, x_catI, x_catJ])) ?_
  refine ev_aload_n (j := 0) (x := (some a0)) dX10_scan_0 rfl rfl ?_
  refine ev_iconst (v := 0) dX10_scan_1 (by decide) ?_
  obtain ⟨c_1, h⟩ := x_chk_e h
  obtain ⟨σ_2, eσ_2, h⟩ := x_let_e h
  refine ev_put (σ2 := σ_2) (C := RX10) (T := TX10) (k := 5) inX10 tyX10 tyX10_ok nmX10 (xE_10 c_1.1) rfl (by decide) wd_95 (Or.inl rfl) rfl rfl rfl rfl (Nat.le_of_ble_eq_true rfl) (hP.2.2.2.1 ▸ c_1.2) (by rw [eσ_2]; exact xP_10_5 _ c_1.1) (by rw [eσ_2]; exact xPut_I) dX10_scan_2 ?_
  refine ev_aload_n (j := 0) (x := (some a0)) dX10_scan_5 rfl rfl ?_
  refine ev_iconst (v := 0) dX10_scan_6 (by decide) ?_
  obtain ⟨c_3, h⟩ := x_chk_e h
  obtain ⟨σ_4, eσ_4, h⟩ := x_let_e h
  refine ev_put (σ2 := σ_4) (C := RX10) (T := TX10) (k := 6) inX10 tyX10 tyX10_ok nmX10 (xE_10 c_3.1) rfl (by decide) wd_96 (Or.inl rfl) rfl rfl rfl rfl (Nat.le_of_ble_eq_true rfl) (hP.2.2.2.1 ▸ c_3.2) (by rw [eσ_4]; exact xP_10_6 _ c_3.1) (by rw [eσ_4]; exact xPut_I) dX10_scan_7 ?_
  refine ev_aload_n (j := 0) (x := (some a0)) dX10_scan_10 rfl rfl ?_
  refine ev_iconst (v := 0) dX10_scan_11 (by decide) ?_
  obtain ⟨c_8, h⟩ := x_chk_e h
  rcases x_bind_e h with ⟨v_5, σ_6, h_7, h⟩ | ⟨E_9, σ_6, h_7, h⟩
  · have z9 := x_call (M := mX10_scan) (M' := mX10_behindBlanks) (pc := 12) (st := [.int 0, va_rf (some a0)]) (rest := []) (av := [va_rf (some a0), .int 0]) (x_linkV (M := mX10_scan) (M' := mX10_behindBlanks) (As := [.int 0]) (index := 61) (C := RX10) (T := TX10) (xE_10 c_8) rfl wd_228 wd_229 (wG_in (List.mem_append_left _ (List.mem_of_getElem? (i := 1) rfl)) rfl) xw_X10_behindBlanks rfl (by decide) rfl rfl dX10_scan_12) (ev_X10_behindBlanks hO hP h_7) xw_X10_behindBlanks rfl wd_118 dX10_scan_12 (by decide) (by decide) (by simp [x_cat, x_catI, x_catJ])
    refine x_callR z9 ?_
    refine ev_at (st' := [.int v_5]) rfl rfl ?_
    refine ev_istore_n (i := 1) (lv' := [(1, .int v_5), (0, va_rf (some a0))]) dX10_scan_15 rfl (by decide) (by simp [x_cat, x_catI, x_catJ]) ?_
    refine ev_iconst (v := 0) dX10_scan_16 (by decide) ?_
    refine ev_istore_n (i := 2) (lv' := [(2, .int 0), (1, .int v_5), (0, va_rf (some a0))]) dX10_scan_17 rfl (by decide) rfl ?_
    exact ev_sub [2, 1, 0] rfl (ev_X10_scan_L18 hO hP P.N h)
  · have z9 := x_call (M := mX10_scan) (M' := mX10_behindBlanks) (pc := 12) (st := [.int 0, va_rf (some a0)]) (rest := []) (av := [va_rf (some a0), .int 0]) (x_linkV (M := mX10_scan) (M' := mX10_behindBlanks) (As := [.int 0]) (index := 61) (C := RX10) (T := TX10) (xE_10 c_8) rfl wd_228 wd_229 (wG_in (List.mem_append_left _ (List.mem_of_getElem? (i := 1) rfl)) rfl) xw_X10_behindBlanks rfl (by decide) rfl rfl dX10_scan_12) (ev_X10_behindBlanks hO hP h_7) xw_X10_behindBlanks rfl wd_118 dX10_scan_12 (by decide) (by decide) (by simp [x_cat, x_catI, x_catJ])
    cases h
    exact x_callX z9 (evX_out rfl)
set_option maxHeartbeats 4000000 in
set_option maxRecDepth 100000 in
theorem ev_X10_isAtEnd_p16 {l : Launch} {G : xG} (hO : x_OK l G) {P : xP} (hP : x_PG P G) {a0 : Nat} {s0 : Int32} {σ σ' : xS} {rr : Int32 ⊕ String} (h : dm_X10_isAtEnd_p16 P a0 s0 σ = some (rr, σ')) : Ev l G mX10_isAtEnd 16 [] [.int s0] σ (xrI rr) σ' := by
  unfold dm_X10_isAtEnd_p16 at h
  obtain ⟨c_1, h⟩ := x_chk_e h
  cases h
  exact ev_iret rfl (x_boolN c_1) dX10_isAtEnd_16
set_option maxHeartbeats 4000000 in
set_option maxRecDepth 100000 in
theorem ev_X10_isAtEnd {l : Launch} {G : xG} (hO : x_OK l G) {P : xP} (hP : x_PG P G) {a0 : Nat} {σ σ' : xS} {rr : Int32 ⊕ String} (h : dm_X10_isAtEnd P a0 σ = some (rr, σ')) : EvM l G mX10_isAtEnd [va_rf (some a0)] σ (xrI rr) σ' := by
  unfold dm_X10_isAtEnd at h
  refine evM_of hO (by decide +kernel) (x_lenI (by simp [x_cat, x_catI, x_catJ, mX10_isAtEnd, xM.maxL])) ?_
  refine Eq.mp (congrArg (fun z => Ev l G mX10_isAtEnd 0 z [] σ (xrI rr) σ') (show [(0, va_rf (some a0))] = lv_args 0 [va_rf (some a0)] by simp [lv_args, x_cat, x_catI, x_catJ])) ?_
  refine ev_aload_n (j := 0) (x := (some a0)) dX10_isAtEnd_0 rfl rfl ?_
  obtain ⟨c_1, h⟩ := x_chk_e h
  refine ev_get (C := RX10) (T := TX10) (k := 6) inX10 (xE_10 c_1) rfl (by decide) wd_96 (Or.inl rfl) rfl dX10_isAtEnd_1 ?_
  refine ev_aload_n (j := 0) (x := (some a0)) dX10_isAtEnd_4 rfl rfl ?_
  refine ev_get (C := RX10) (T := TX10) (k := 5) inX10 (xE_10 c_1) rfl (by decide) wd_95 (Or.inl rfl) rfl dX10_isAtEnd_5 ?_
  by_cases c_2 : (σ.I 906 a0) < (σ.I 905 a0)
  · rw [if_pos c_2] at h
    refine ev_icmp_lt (x := (σ.I 906 a0)) (y := (σ.I 905 a0)) (tgt := 15) dX10_isAtEnd_8 (by decide) (fun _ => ?_) (fun q9 => absurd c_2 q9)
    refine ev_iconst (v := 0) dX10_isAtEnd_15 (by decide) ?_
    exact ev_sub [] rfl (ev_X10_isAtEnd_p16 hO hP h)
  · rw [if_neg c_2] at h
    refine ev_icmp_lt (x := (σ.I 906 a0)) (y := (σ.I 905 a0)) (tgt := 15) dX10_isAtEnd_8 (by decide) (fun q9 => absurd q9 c_2) (fun _ => ?_)
    refine ev_iconst (v := 1) dX10_isAtEnd_11 (by decide) ?_
    refine ev_goto (tgt := 16) dX10_isAtEnd_12 (by decide) ?_
    exact ev_sub [] rfl (ev_X10_isAtEnd_p16 hO hP h)
set_option maxHeartbeats 4000000 in
set_option maxRecDepth 100000 in
theorem ev_X10_isText_p47 {l : Launch} {G : xG} (hO : x_OK l G) {P : xP} (hP : x_PG P G) {a0 : Nat} {s0 : Int32} {σ σ' : xS} {rr : Int32 ⊕ String} (h : dm_X10_isText_p47 P a0 s0 σ = some (rr, σ')) : Ev l G mX10_isText 47 [] [.int s0] σ (xrI rr) σ' := by
  unfold dm_X10_isText_p47 at h
  obtain ⟨c_1, h⟩ := x_chk_e h
  cases h
  exact ev_iret rfl (x_boolN c_1) dX10_isText_47
set_option maxHeartbeats 4000000 in
set_option maxRecDepth 100000 in
theorem ev_X10_isText_p46 {l : Launch} {G : xG} (hO : x_OK l G) {P : xP} (hP : x_PG P G) {a0 : Nat} {σ σ' : xS} {rr : Int32 ⊕ String} (h : dm_X10_isText_p46 P a0 σ = some (rr, σ')) : Ev l G mX10_isText 46 [] [] σ (xrI rr) σ' := by
  unfold dm_X10_isText_p46 at h
  refine ev_iconst (v := 0) dX10_isText_46 (by decide) ?_
  exact ev_sub [] rfl (ev_X10_isText_p47 hO hP h)
set_option maxHeartbeats 4000000 in
set_option maxRecDepth 100000 in
theorem ev_X10_isText_p25 {l : Launch} {G : xG} (hO : x_OK l G) {P : xP} (hP : x_PG P G) {a0 : Nat} {v1 : Option Nat} {σ σ' : xS} {rr : Int32 ⊕ String} (h : dm_X10_isText_p25 P a0 v1 σ = some (rr, σ')) : Ev l G mX10_isText 25 [(0, va_rf (some a0)), (1, va_rf v1)] [] σ (xrI rr) σ' := by
  unfold dm_X10_isText_p25 at h
  refine ev_aload_n (j := 0) (x := (some a0)) dX10_isText_25 rfl rfl ?_
  obtain ⟨c_1, h⟩ := x_chk_e h
  refine ev_get (C := RX10) (T := TX10) (k := 4) inX10 (xE_10 c_1) rfl (by decide) wd_94 (Or.inl rfl) rfl dX10_isText_26 ?_
  refine ev_aload_n (j := 0) (x := (some a0)) dX10_isText_29 rfl rfl ?_
  refine ev_get (C := RX10) (T := TX10) (k := 6) inX10 (xE_10 c_1) rfl (by decide) wd_96 (Or.inl rfl) rfl dX10_isText_30 ?_
  obtain ⟨a_2, ea_2, h⟩ := x_some_e h
  refine ev_at (st' := [.int (σ.I 906 a0), va_rf (some a_2)]) rfl (by rw [ea_2]) ?_
  obtain ⟨c_3, h⟩ := x_chk_e h
  refine ev_lald c_3.1 c_3.2 dX10_isText_33 ?_
  refine ev_aload_n (j := 1) (x := v1) dX10_isText_34 rfl rfl ?_
  rcases x_bind_e h with ⟨v_4, σ_5, h_6, h⟩ | ⟨E_8, σ_5, h_6, h⟩
  · have z9 := x_call (M := mX10_isText) (M' := mX10_packed) (pc := 35) (st := [va_rf v1, .long (σ.AJ a_2 (Int32.toNatClampNeg (σ.I 906 a0)))]) (rest := [.long (σ.AJ a_2 (Int32.toNatClampNeg (σ.I 906 a0)))]) (av := [va_rf v1]) (x_linkS (M := mX10_isText) (M' := mX10_packed) (As := [va_rf v1]) (index := 47) wd_216 wd_217 wd_118 xw_X10_packed rfl ⟨_, _, _, Or.inl wd_215⟩ (by decide) rfl rfl dX10_isText_35) (ev_X10_packed hO hP h_6) xw_X10_packed rfl wd_118 dX10_isText_35 (by decide) (by decide) (by simp [x_cat, x_catI, x_catJ])
    refine x_callR z9 ?_
    refine ev_at (st' := [.long v_4, .long (σ.AJ a_2 (Int32.toNatClampNeg (σ.I 906 a0)))]) rfl rfl ?_
    refine ev_lcmp (x := (σ.AJ a_2 (Int32.toNatClampNeg (σ.I 906 a0)))) (y := v_4) dX10_isText_38 ?_
    by_cases c_7 : (lg_cmp (σ.AJ a_2 (Int32.toNatClampNeg (σ.I 906 a0))) v_4) = 0
    · rw [if_pos c_7] at h
      refine ev_if_ne (x := (lg_cmp (σ.AJ a_2 (Int32.toNatClampNeg (σ.I 906 a0))) v_4)) (tgt := 46) dX10_isText_39 (by decide) (fun q9 => absurd c_7 q9) (fun _ => ?_)
      refine ev_iconst (v := 1) dX10_isText_42 (by decide) ?_
      refine ev_goto (tgt := 47) dX10_isText_43 (by decide) ?_
      exact ev_sub [] rfl (ev_X10_isText_p47 hO hP h)
    · rw [if_neg c_7] at h
      refine ev_if_ne (x := (lg_cmp (σ.AJ a_2 (Int32.toNatClampNeg (σ.I 906 a0))) v_4)) (tgt := 46) dX10_isText_39 (by decide) (fun _ => ?_) (fun q9 => absurd q9 c_7)
      exact ev_sub [] rfl (ev_X10_isText_p46 hO hP h)
  · have z9 := x_call (M := mX10_isText) (M' := mX10_packed) (pc := 35) (st := [va_rf v1, .long (σ.AJ a_2 (Int32.toNatClampNeg (σ.I 906 a0)))]) (rest := [.long (σ.AJ a_2 (Int32.toNatClampNeg (σ.I 906 a0)))]) (av := [va_rf v1]) (x_linkS (M := mX10_isText) (M' := mX10_packed) (As := [va_rf v1]) (index := 47) wd_216 wd_217 wd_118 xw_X10_packed rfl ⟨_, _, _, Or.inl wd_215⟩ (by decide) rfl rfl dX10_isText_35) (ev_X10_packed hO hP h_6) xw_X10_packed rfl wd_118 dX10_isText_35 (by decide) (by decide) (by simp [x_cat, x_catI, x_catJ])
    cases h
    exact x_callX z9 (evX_out rfl)
set_option maxHeartbeats 4000000 in
set_option maxRecDepth 100000 in
theorem ev_X10_isText {l : Launch} {G : xG} (hO : x_OK l G) {P : xP} (hP : x_PG P G) {a0 : Nat} {v1 : Option Nat} {σ σ' : xS} {rr : Int32 ⊕ String} (h : dm_X10_isText P a0 v1 σ = some (rr, σ')) : EvM l G mX10_isText [va_rf (some a0), va_rf v1] σ (xrI rr) σ' := by
  unfold dm_X10_isText at h
  refine evM_of hO (by decide +kernel) (x_lenI (by simp [x_cat, x_catI, x_catJ, mX10_isText, xM.maxL])) ?_
  refine Eq.mp (congrArg (fun z => Ev l G mX10_isText 0 z [] σ (xrI rr) σ') (show [(0, va_rf (some a0)), (1, va_rf v1)] = lv_args 0 [va_rf (some a0), va_rf v1] by simp [lv_args, x_cat, x_catI, x_catJ])) ?_
  refine ev_aload_n (j := 0) (x := (some a0)) dX10_isText_0 rfl rfl ?_
  obtain ⟨c_1, h⟩ := x_chk_e h
  refine ev_get (C := RX10) (T := TX10) (k := 3) inX10 (xE_10 c_1) rfl (by decide) wd_92 (Or.inl rfl) rfl dX10_isText_1 ?_
  refine ev_aload_n (j := 0) (x := (some a0)) dX10_isText_4 rfl rfl ?_
  refine ev_get (C := RX10) (T := TX10) (k := 6) inX10 (xE_10 c_1) rfl (by decide) wd_96 (Or.inl rfl) rfl dX10_isText_5 ?_
  obtain ⟨a_2, ea_2, h⟩ := x_some_e h
  refine ev_at (st' := [.int (σ.I 906 a0), va_rf (some a_2)]) rfl (by rw [ea_2]) ?_
  obtain ⟨c_3, h⟩ := x_chk_e h
  refine ev_iald c_3.1 c_3.2 dX10_isText_8 ?_
  by_cases c_4 : (σ.AI a_2 (Int32.toNatClampNeg (σ.I 906 a0))) = 0
  · rw [if_pos c_4] at h
    refine ev_if_eq (x := (σ.AI a_2 (Int32.toNatClampNeg (σ.I 906 a0)))) (tgt := 25) dX10_isText_9 (by decide) (fun _ => ?_) (fun q9 => absurd c_4 q9)
    exact ev_sub [0, 1] rfl (ev_X10_isText_p25 hO hP h)
  · rw [if_neg c_4] at h
    refine ev_if_eq (x := (σ.AI a_2 (Int32.toNatClampNeg (σ.I 906 a0)))) (tgt := 25) dX10_isText_9 (by decide) (fun q9 => absurd q9 c_4) (fun _ => ?_)
    refine ev_aload_n (j := 0) (x := (some a0)) dX10_isText_12 rfl rfl ?_
    refine ev_get (C := RX10) (T := TX10) (k := 3) inX10 (xE_10 c_1) rfl (by decide) wd_92 (Or.inl rfl) rfl dX10_isText_13 ?_
    refine ev_aload_n (j := 0) (x := (some a0)) dX10_isText_16 rfl rfl ?_
    refine ev_get (C := RX10) (T := TX10) (k := 6) inX10 (xE_10 c_1) rfl (by decide) wd_96 (Or.inl rfl) rfl dX10_isText_17 ?_
    refine ev_at (st' := [.int (σ.I 906 a0), va_rf (some a_2)]) rfl (by rw [ea_2]) ?_
    refine ev_iald c_3.1 c_3.2 dX10_isText_20 ?_
    refine ev_iconst (v := 1) dX10_isText_21 (by decide) ?_
    by_cases c_5 : (σ.AI a_2 (Int32.toNatClampNeg (σ.I 906 a0))) = 1
    · rw [if_pos c_5] at h
      refine ev_icmp_ne (x := (σ.AI a_2 (Int32.toNatClampNeg (σ.I 906 a0)))) (y := 1) (tgt := 46) dX10_isText_22 (by decide) (fun q9 => absurd c_5 q9) (fun _ => ?_)
      exact ev_sub [0, 1] rfl (ev_X10_isText_p25 hO hP h)
    · rw [if_neg c_5] at h
      refine ev_icmp_ne (x := (σ.AI a_2 (Int32.toNatClampNeg (σ.I 906 a0)))) (y := 1) (tgt := 46) dX10_isText_22 (by decide) (fun _ => ?_) (fun q9 => absurd q9 c_5)
      exact ev_sub [] rfl (ev_X10_isText_p46 hO hP h)
set_option maxHeartbeats 4000000 in
set_option maxRecDepth 100000 in
theorem ev_X10_refuseIf {l : Launch} {G : xG} (hO : x_OK l G) {P : xP} (hP : x_PG P G) {a0 : Nat} {v1 : Int32} {σ σ' : xS} {rr : Unit ⊕ String} (h : dm_X10_refuseIf P a0 v1 σ = some (rr, σ')) : EvM l G mX10_refuseIf [va_rf (some a0), .int v1] σ (xrV rr) σ' := by
  unfold dm_X10_refuseIf at h
  refine evM_of hO (by decide +kernel) (x_lenI (by simp [x_cat, x_catI, x_catJ, mX10_refuseIf, xM.maxL])) ?_
  refine Eq.mp (congrArg (fun z => Ev l G mX10_refuseIf 0 z [] σ (xrV rr) σ') (show [(0, va_rf (some a0)), (1, .int v1)] = lv_args 0 [va_rf (some a0), .int v1] by simp [lv_args, x_cat, x_catI, x_catJ])) ?_
  refine ev_iload_n (j := 1) (x := v1) dX10_refuseIf_0 rfl rfl ?_
  by_cases c_1 : v1 = 0
  · rw [if_pos c_1] at h
    refine ev_if_eq (x := v1) (tgt := 12) dX10_refuseIf_1 (by decide) (fun _ => ?_) (fun q9 => absurd c_1 q9)
    cases h
    exact ev_vret rfl dX10_refuseIf_12
  · rw [if_neg c_1] at h
    refine ev_if_eq (x := v1) (tgt := 12) dX10_refuseIf_1 (by decide) (fun q9 => absurd q9 c_1) (fun _ => ?_)
    obtain ⟨c_2, h⟩ := x_chk_e h
    cases h
    exact ev_throw (names := x_ex) (by decide +kernel) x_exf th_X10_91_93 dX10_refuseIf_4 dX10_refuseIf_7 dX10_refuseIf_8 dX10_refuseIf_11 rfl (by decide) (by decide) (hP.2.1 ▸ c_2.1) (hP.2.2.1 ▸ c_2.2)
set_option maxHeartbeats 4000000 in
set_option maxRecDepth 100000 in
theorem ev_X10_step_p21 {l : Launch} {G : xG} (hO : x_OK l G) {P : xP} (hP : x_PG P G) {a0 : Nat} {σ σ' : xS} {rr : Unit ⊕ String} (h : dm_X10_step_p21 P a0 σ = some (rr, σ')) : Ev l G mX10_step 21 [] [] σ (xrV rr) σ' := by
  unfold dm_X10_step_p21 at h
  cases h
  exact ev_vret rfl dX10_step_21
set_option maxHeartbeats 4000000 in
set_option maxRecDepth 100000 in
theorem ev_X10_step {l : Launch} {G : xG} (hO : x_OK l G) {P : xP} (hP : x_PG P G) {a0 : Nat} {σ σ' : xS} {rr : Unit ⊕ String} (h : dm_X10_step P a0 σ = some (rr, σ')) : EvM l G mX10_step [va_rf (some a0)] σ (xrV rr) σ' := by
  unfold dm_X10_step at h
  refine evM_of hO (by decide +kernel) (x_lenI (by simp [x_cat, x_catI, x_catJ, mX10_step, xM.maxL])) ?_
  refine Eq.mp (congrArg (fun z => Ev l G mX10_step 0 z [] σ (xrV rr) σ') (show [(0, va_rf (some a0))] = lv_args 0 [va_rf (some a0)] by simp [lv_args, x_cat, x_catI, x_catJ])) ?_
  refine ev_aload_n (j := 0) (x := (some a0)) dX10_step_0 rfl rfl ?_
  obtain ⟨c_1, h⟩ := x_chk_e h
  refine ev_get (C := RX10) (T := TX10) (k := 6) inX10 (xE_10 c_1) rfl (by decide) wd_96 (Or.inl rfl) rfl dX10_step_1 ?_
  refine ev_aload_n (j := 0) (x := (some a0)) dX10_step_4 rfl rfl ?_
  refine ev_get (C := RX10) (T := TX10) (k := 5) inX10 (xE_10 c_1) rfl (by decide) wd_95 (Or.inl rfl) rfl dX10_step_5 ?_
  by_cases c_2 : (σ.I 905 a0) ≤ (σ.I 906 a0)
  · rw [if_pos c_2] at h
    refine ev_icmp_ge (x := (σ.I 906 a0)) (y := (σ.I 905 a0)) (tgt := 21) dX10_step_8 (by decide) (fun _ => ?_) (fun q9 => absurd c_2 q9)
    exact ev_sub [] rfl (ev_X10_step_p21 hO hP h)
  · rw [if_neg c_2] at h
    refine ev_icmp_ge (x := (σ.I 906 a0)) (y := (σ.I 905 a0)) (tgt := 21) dX10_step_8 (by decide) (fun q9 => absurd q9 c_2) (fun _ => ?_)
    refine ev_aload_n (j := 0) (x := (some a0)) dX10_step_11 rfl rfl ?_
    refine ev_dup dX10_step_12 (x_cat _) ?_
    refine ev_get (C := RX10) (T := TX10) (k := 6) inX10 (xE_10 c_1) rfl (by decide) wd_96 (Or.inl rfl) rfl dX10_step_13 ?_
    refine ev_iconst (v := 1) dX10_step_16 (by decide) ?_
    refine ev_iadd (x := (σ.I 906 a0)) (y := 1) dX10_step_17 ?_
    obtain ⟨c_3, h⟩ := x_chk_e h
    obtain ⟨σ_4, eσ_4, h⟩ := x_let_e h
    refine ev_put (σ2 := σ_4) (C := RX10) (T := TX10) (k := 6) inX10 tyX10 tyX10_ok nmX10 (xE_10 c_3.1) rfl (by decide) wd_96 (Or.inl rfl) rfl rfl rfl rfl (Nat.le_of_ble_eq_true rfl) (hP.2.2.2.1 ▸ c_3.2) (by rw [eσ_4]; exact xP_10_6 _ c_3.1) (by rw [eσ_4]; exact xPut_I) dX10_step_18 ?_
    exact ev_sub [] rfl (ev_X10_step_p21 hO hP h)
set_option maxHeartbeats 4000000 in
set_option maxRecDepth 100000 in
theorem ev_X10_takeText_p14 {l : Launch} {G : xG} (hO : x_OK l G) {P : xP} (hP : x_PG P G) {a0 : Nat} {s0 : Option Nat} {s1 : Int32} {σ σ' : xS} {rr : Unit ⊕ String} (h : dm_X10_takeText_p14 P a0 s0 s1 σ = some (rr, σ')) : Ev l G mX10_takeText 14 [(0, va_rf (some a0))] [.int s1, va_rf s0] σ (xrV rr) σ' := by
  unfold dm_X10_takeText_p14 at h
  obtain ⟨a_1, ea_1, h⟩ := x_some_e h
  refine ev_at (st' := [.int s1, va_rf (some a_1)]) rfl (by rw [ea_1]) ?_
  obtain ⟨c_5, h⟩ := x_chk_e h
  rcases x_bind_e h with ⟨v_2, σ_3, h_4, h⟩ | ⟨E_11, σ_3, h_4, h⟩
  · have z9 := x_call (M := mX10_takeText) (M' := mX10_refuseIf) (pc := 14) (st := [.int s1, va_rf (some a_1)]) (rest := []) (av := [va_rf (some a_1), .int s1]) (x_linkV (M := mX10_takeText) (M' := mX10_refuseIf) (As := [.int s1]) (index := 98) (C := RX10) (T := TX10) (xE_10 c_5) rfl wd_242 wd_243 wd_241 xw_X10_refuseIf rfl (by decide) rfl rfl dX10_takeText_14) (ev_X10_refuseIf hO hP h_4) xw_X10_refuseIf rfl wd_118 dX10_takeText_14 (by decide) (by decide) (by simp [x_cat, x_catI, x_catJ])
    refine x_callR z9 ?_
    refine ev_at (st' := []) rfl rfl ?_
    refine ev_aload_n (j := 0) (x := (some a0)) dX10_takeText_17 rfl rfl ?_
    obtain ⟨c_9, h⟩ := x_chk_e h
    rcases x_bind_e h with ⟨v_6, σ_7, h_8, h⟩ | ⟨E_10, σ_7, h_8, h⟩
    · have z9 := x_call (M := mX10_takeText) (M' := mX10_step) (pc := 18) (st := [va_rf (some a0)]) (rest := []) (av := [va_rf (some a0)]) (x_linkV (M := mX10_takeText) (M' := mX10_step) (As := []) (index := 102) (C := RX10) (T := TX10) (xE_10 c_9) rfl wd_246 wd_247 wd_245 xw_X10_step rfl (by decide) rfl rfl dX10_takeText_18) (ev_X10_step hO hP h_8) xw_X10_step rfl wd_118 dX10_takeText_18 (by decide) (by decide) (by simp [x_cat, x_catI, x_catJ])
      refine x_callR z9 ?_
      refine ev_at (st' := []) rfl rfl ?_
      cases h
      exact ev_vret rfl dX10_takeText_21
    · have z9 := x_call (M := mX10_takeText) (M' := mX10_step) (pc := 18) (st := [va_rf (some a0)]) (rest := []) (av := [va_rf (some a0)]) (x_linkV (M := mX10_takeText) (M' := mX10_step) (As := []) (index := 102) (C := RX10) (T := TX10) (xE_10 c_9) rfl wd_246 wd_247 wd_245 xw_X10_step rfl (by decide) rfl rfl dX10_takeText_18) (ev_X10_step hO hP h_8) xw_X10_step rfl wd_118 dX10_takeText_18 (by decide) (by decide) (by simp [x_cat, x_catI, x_catJ])
      cases h
      exact x_callX z9 (evX_out rfl)
  · have z9 := x_call (M := mX10_takeText) (M' := mX10_refuseIf) (pc := 14) (st := [.int s1, va_rf (some a_1)]) (rest := []) (av := [va_rf (some a_1), .int s1]) (x_linkV (M := mX10_takeText) (M' := mX10_refuseIf) (As := [.int s1]) (index := 98) (C := RX10) (T := TX10) (xE_10 c_5) rfl wd_242 wd_243 wd_241 xw_X10_refuseIf rfl (by decide) rfl rfl dX10_takeText_14) (ev_X10_refuseIf hO hP h_4) xw_X10_refuseIf rfl wd_118 dX10_takeText_14 (by decide) (by decide) (by simp [x_cat, x_catI, x_catJ])
    cases h
    exact x_callX z9 (evX_out rfl)
set_option maxHeartbeats 4000000 in
set_option maxRecDepth 100000 in
theorem ev_X10_takeText {l : Launch} {G : xG} (hO : x_OK l G) {P : xP} (hP : x_PG P G) {a0 : Nat} {v1 : Option Nat} {σ σ' : xS} {rr : Unit ⊕ String} (h : dm_X10_takeText P a0 v1 σ = some (rr, σ')) : EvM l G mX10_takeText [va_rf (some a0), va_rf v1] σ (xrV rr) σ' := by
  unfold dm_X10_takeText at h
  refine evM_of hO (by decide +kernel) (x_lenI (by simp [x_cat, x_catI, x_catJ, mX10_takeText, xM.maxL])) ?_
  refine Eq.mp (congrArg (fun z => Ev l G mX10_takeText 0 z [] σ (xrV rr) σ') (show [(0, va_rf (some a0)), (1, va_rf v1)] = lv_args 0 [va_rf (some a0), va_rf v1] by simp [lv_args, x_cat, x_catI, x_catJ])) ?_
  refine ev_aload_n (j := 0) (x := (some a0)) dX10_takeText_0 rfl rfl ?_
  refine ev_aload_n (j := 0) (x := (some a0)) dX10_takeText_1 rfl rfl ?_
  refine ev_aload_n (j := 1) (x := v1) dX10_takeText_2 rfl rfl ?_
  obtain ⟨c_4, h⟩ := x_chk_e h
  rcases x_bind_e h with ⟨v_1, σ_2, h_3, h⟩ | ⟨E_6, σ_2, h_3, h⟩
  · have z9 := x_call (M := mX10_takeText) (M' := mX10_isText) (pc := 3) (st := [va_rf v1, va_rf (some a0), va_rf (some a0)]) (rest := [va_rf (some a0)]) (av := [va_rf (some a0), va_rf v1]) (x_linkV (M := mX10_takeText) (M' := mX10_isText) (As := [va_rf v1]) (index := 94) (C := RX10) (T := TX10) (xE_10 c_4) rfl wd_238 wd_239 wd_237 xw_X10_isText rfl (by decide) rfl rfl dX10_takeText_3) (ev_X10_isText hO hP h_3) xw_X10_isText rfl wd_118 dX10_takeText_3 (by decide) (by decide) (by simp [x_cat, x_catI, x_catJ])
    refine x_callR z9 ?_
    refine ev_at (st' := [.int v_1, va_rf (some a0)]) rfl rfl ?_
    by_cases c_5 : v_1 = 0
    · rw [if_pos c_5] at h
      refine ev_if_ne (x := v_1) (tgt := 13) dX10_takeText_6 (by decide) (fun q9 => absurd c_5 q9) (fun _ => ?_)
      refine ev_iconst (v := 1) dX10_takeText_9 (by decide) ?_
      refine ev_goto (tgt := 14) dX10_takeText_10 (by decide) ?_
      exact ev_sub [0] rfl (ev_X10_takeText_p14 hO hP h)
    · rw [if_neg c_5] at h
      refine ev_if_ne (x := v_1) (tgt := 13) dX10_takeText_6 (by decide) (fun _ => ?_) (fun q9 => absurd q9 c_5)
      refine ev_iconst (v := 0) dX10_takeText_13 (by decide) ?_
      exact ev_sub [0] rfl (ev_X10_takeText_p14 hO hP h)
  · have z9 := x_call (M := mX10_takeText) (M' := mX10_isText) (pc := 3) (st := [va_rf v1, va_rf (some a0), va_rf (some a0)]) (rest := [va_rf (some a0)]) (av := [va_rf (some a0), va_rf v1]) (x_linkV (M := mX10_takeText) (M' := mX10_isText) (As := [va_rf v1]) (index := 94) (C := RX10) (T := TX10) (xE_10 c_4) rfl wd_238 wd_239 wd_237 xw_X10_isText rfl (by decide) rfl rfl dX10_takeText_3) (ev_X10_isText hO hP h_3) xw_X10_isText rfl wd_118 dX10_takeText_3 (by decide) (by decide) (by simp [x_cat, x_catI, x_catJ])
    cases h
    exact x_callX z9 (evX_out rfl)
set_option maxHeartbeats 4000000 in
set_option maxRecDepth 100000 in
theorem ev_X10_name {l : Launch} {G : xG} (hO : x_OK l G) {P : xP} (hP : x_PG P G) {a0 : Nat} {σ σ' : xS} {rr : Int64 ⊕ String} (h : dm_X10_name P a0 σ = some (rr, σ')) : EvM l G mX10_name [va_rf (some a0)] σ (xrJ rr) σ' := by
  unfold dm_X10_name at h
  refine evM_of hO (by decide +kernel) (x_lenI (by simp [x_cat, x_catI, x_catJ, mX10_name, xM.maxL])) ?_
  refine Eq.mp (congrArg (fun z => Ev l G mX10_name 0 z [] σ (xrJ rr) σ') (show [(0, va_rf (some a0))] = lv_args 0 [va_rf (some a0)] by simp [lv_args, x_cat, x_catI, x_catJ])) ?_
  refine ev_aload_n (j := 0) (x := (some a0)) dX10_name_0 rfl rfl ?_
  obtain ⟨c_1, h⟩ := x_chk_e h
  refine ev_get (C := RX10) (T := TX10) (k := 3) inX10 (xE_10 c_1) rfl (by decide) wd_92 (Or.inl rfl) rfl dX10_name_1 ?_
  refine ev_aload_n (j := 0) (x := (some a0)) dX10_name_4 rfl rfl ?_
  refine ev_get (C := RX10) (T := TX10) (k := 6) inX10 (xE_10 c_1) rfl (by decide) wd_96 (Or.inl rfl) rfl dX10_name_5 ?_
  obtain ⟨a_2, ea_2, h⟩ := x_some_e h
  refine ev_at (st' := [.int (σ.I 906 a0), va_rf (some a_2)]) rfl (by rw [ea_2]) ?_
  obtain ⟨c_3, h⟩ := x_chk_e h
  refine ev_iald c_3.1 c_3.2 dX10_name_8 ?_
  by_cases c_4 : (σ.AI a_2 (Int32.toNatClampNeg (σ.I 906 a0))) = 0
  · rw [if_pos c_4] at h
    refine ev_if_eq (x := (σ.AI a_2 (Int32.toNatClampNeg (σ.I 906 a0)))) (tgt := 20) dX10_name_9 (by decide) (fun _ => ?_) (fun q9 => absurd c_4 q9)
    refine ev_aload_n (j := 0) (x := (some a0)) dX10_name_20 rfl rfl ?_
    refine ev_get (C := RX10) (T := TX10) (k := 4) inX10 (xE_10 c_1) rfl (by decide) wd_94 (Or.inl rfl) rfl dX10_name_21 ?_
    refine ev_aload_n (j := 0) (x := (some a0)) dX10_name_24 rfl rfl ?_
    refine ev_get (C := RX10) (T := TX10) (k := 6) inX10 (xE_10 c_1) rfl (by decide) wd_96 (Or.inl rfl) rfl dX10_name_25 ?_
    obtain ⟨a_5, ea_5, h⟩ := x_some_e h
    refine ev_at (st' := [.int (σ.I 906 a0), va_rf (some a_5)]) rfl (by rw [ea_5]) ?_
    obtain ⟨c_6, h⟩ := x_chk_e h
    refine ev_lald c_6.1 c_6.2 dX10_name_28 ?_
    cases h
    exact ev_lret rfl dX10_name_29
  · rw [if_neg c_4] at h
    refine ev_if_eq (x := (σ.AI a_2 (Int32.toNatClampNeg (σ.I 906 a0)))) (tgt := 20) dX10_name_9 (by decide) (fun q9 => absurd q9 c_4) (fun _ => ?_)
    obtain ⟨c_7, h⟩ := x_chk_e h
    cases h
    exact ev_throw (names := x_ex) (by decide +kernel) x_exf th_X10_91_93 dX10_name_12 dX10_name_15 dX10_name_16 dX10_name_19 rfl (by decide) (by decide) (hP.2.1 ▸ c_7.1) (hP.2.2.1 ▸ c_7.2)
set_option maxHeartbeats 4000000 in
set_option maxRecDepth 100000 in
theorem ev_X0_moduleNamed_L2 {l : Launch} {G : xG} (hO : x_OK l G) {P : xP} (hP : x_PG P G) {a0 : Nat} : ∀ (n : Nat) {v1 : Int64} {v3 : Int32} {σ σ' : xS} {rr : Option Nat ⊕ String}, dm_X0_moduleNamed_L2 P a0 n v1 v3 σ = some (rr, σ') → Ev l G mX0_moduleNamed 2 [(0, va_rf (some a0)), (1, .long v1), (3, .int v3)] [] σ (xrR rr) σ' := by
  intro n
  induction n with
  | zero => intro v1 v3 σ σ' rr h; cases h
  | succ n ih =>
    intro v1 v3 σ σ' rr h
    rw [dm_X0_moduleNamed_L2] at h
    refine ev_iload_n (j := 2) (x := v3) dX0_moduleNamed_2 rfl rfl ?_
    refine ev_aload_n (j := 0) (x := (some a0)) dX0_moduleNamed_3 rfl rfl ?_
    obtain ⟨c_1, h⟩ := x_chk_e h
    refine ev_get (C := RX0) (T := TX0) (k := 1) inX0 (xE_1 c_1) rfl (by decide) wd_114 (Or.inl rfl) rfl dX0_moduleNamed_4 ?_
    by_cases c_2 : (σ.I 1 a0) ≤ v3
    · rw [if_pos c_2] at h
      refine ev_icmp_ge (x := v3) (y := (σ.I 1 a0)) (tgt := 37) dX0_moduleNamed_7 (by decide) (fun _ => ?_) (fun q9 => absurd c_2 q9)
      refine ev_null dX0_moduleNamed_37 ?_
      cases h
      exact ev_aret rfl dX0_moduleNamed_38
    · rw [if_neg c_2] at h
      refine ev_icmp_ge (x := v3) (y := (σ.I 1 a0)) (tgt := 37) dX0_moduleNamed_7 (by decide) (fun q9 => absurd q9 c_2) (fun _ => ?_)
      refine ev_aload_n (j := 0) (x := (some a0)) dX0_moduleNamed_10 rfl rfl ?_
      refine ev_get (C := RX0) (T := TX0) (k := 0) inX0 (xE_1 c_1) rfl (by decide) wd_113 (Or.inl rfl) rfl dX0_moduleNamed_11 ?_
      refine ev_iload_n (j := 2) (x := v3) dX0_moduleNamed_14 rfl rfl ?_
      obtain ⟨a_3, ea_3, h⟩ := x_some_e h
      refine ev_at (st' := [.int v3, va_rf (some a_3)]) rfl (by rw [ea_3]) ?_
      obtain ⟨c_4, h⟩ := x_chk_e h
      refine ev_aald_27 c_4.1 c_4.2 dX0_moduleNamed_15 ?_
      obtain ⟨a_5, ea_5, h⟩ := x_some_e h
      refine ev_at (st' := [va_rf (some a_5)]) rfl (by rw [ea_5]) ?_
      obtain ⟨c_6, h⟩ := x_chk_e h
      refine ev_get (C := RX5) (T := TX5) (k := 1) inX5 (xE_6 c_6) rfl (by decide) wd_248 (Or.inl rfl) rfl dX0_moduleNamed_16 ?_
      refine ev_lload_n (j := 1) (x := v1) dX0_moduleNamed_19 rfl rfl ?_
      refine ev_lcmp (x := (σ.J 501 a_5)) (y := v1) dX0_moduleNamed_20 ?_
      by_cases c_7 : (lg_cmp (σ.J 501 a_5) v1) = 0
      · rw [if_pos c_7] at h
        refine ev_if_ne (x := (lg_cmp (σ.J 501 a_5) v1)) (tgt := 31) dX0_moduleNamed_21 (by decide) (fun q9 => absurd c_7 q9) (fun _ => ?_)
        refine ev_aload_n (j := 0) (x := (some a0)) dX0_moduleNamed_24 rfl rfl ?_
        refine ev_get (C := RX0) (T := TX0) (k := 0) inX0 (xE_1 c_1) rfl (by decide) wd_113 (Or.inl rfl) rfl dX0_moduleNamed_25 ?_
        refine ev_iload_n (j := 2) (x := v3) dX0_moduleNamed_28 rfl rfl ?_
        refine ev_at (st' := [.int v3, va_rf (some a_3)]) rfl (by rw [ea_3]) ?_
        refine ev_aald_27 c_4.1 c_4.2 dX0_moduleNamed_29 ?_
        cases h
        exact ev_aret rfl dX0_moduleNamed_30
      · rw [if_neg c_7] at h
        refine ev_if_ne (x := (lg_cmp (σ.J 501 a_5) v1)) (tgt := 31) dX0_moduleNamed_21 (by decide) (fun _ => ?_) (fun q9 => absurd q9 c_7)
        obtain ⟨v_8, ev_8, h⟩ := x_let_e h
        refine ev_iinc (j := 2) (x := v3) (v := v_8) (lv' := [(3, .int v_8), (0, va_rf (some a0)), (1, .long v1)]) dX0_moduleNamed_31 rfl (by rw [ev_8]; rfl) (by decide) rfl ?_
        refine ev_goto (tgt := 2) dX0_moduleNamed_34 (by decide) ?_
        exact ev_sub [1, 2, 0] rfl (ih h)
set_option maxHeartbeats 4000000 in
set_option maxRecDepth 100000 in
theorem ev_X0_moduleNamed {l : Launch} {G : xG} (hO : x_OK l G) {P : xP} (hP : x_PG P G) {a0 : Nat} {v1 : Int64} {σ σ' : xS} {rr : Option Nat ⊕ String} (h : dm_X0_moduleNamed P a0 v1 σ = some (rr, σ')) : EvM l G mX0_moduleNamed [va_rf (some a0), .long v1] σ (xrR rr) σ' := by
  unfold dm_X0_moduleNamed at h
  refine evM_of hO (by decide +kernel) (x_lenI (by simp [x_cat, x_catI, x_catJ, mX0_moduleNamed, xM.maxL])) ?_
  refine Eq.mp (congrArg (fun z => Ev l G mX0_moduleNamed 0 z [] σ (xrR rr) σ') (show [(0, va_rf (some a0)), (1, .long v1)] = lv_args 0 [va_rf (some a0), .long v1] by simp [lv_args, x_cat, x_catI, x_catJ])) ?_
  refine ev_iconst (v := 0) dX0_moduleNamed_0 (by decide) ?_
  refine ev_istore_n (i := 3) (lv' := [(3, .int 0), (0, va_rf (some a0)), (1, .long v1)]) dX0_moduleNamed_1 rfl (by decide) rfl ?_
  exact ev_sub [1, 2, 0] rfl (ev_X0_moduleNamed_L2 hO hP P.N h)
set_option maxHeartbeats 4000000 in
set_option maxRecDepth 100000 in
theorem ev_X0_canTakeModule_p22 {l : Launch} {G : xG} (hO : x_OK l G) {P : xP} (hP : x_PG P G) {a0 : Nat} {s0 : Int32} {σ σ' : xS} {rr : Int32 ⊕ String} (h : dm_X0_canTakeModule_p22 P a0 s0 σ = some (rr, σ')) : Ev l G mX0_canTakeModule 22 [] [.int s0] σ (xrI rr) σ' := by
  unfold dm_X0_canTakeModule_p22 at h
  obtain ⟨c_1, h⟩ := x_chk_e h
  cases h
  exact ev_iret rfl (x_boolN c_1) dX0_canTakeModule_22
set_option maxHeartbeats 4000000 in
set_option maxRecDepth 100000 in
theorem ev_X0_canTakeModule_p21 {l : Launch} {G : xG} (hO : x_OK l G) {P : xP} (hP : x_PG P G) {a0 : Nat} {σ σ' : xS} {rr : Int32 ⊕ String} (h : dm_X0_canTakeModule_p21 P a0 σ = some (rr, σ')) : Ev l G mX0_canTakeModule 21 [] [] σ (xrI rr) σ' := by
  unfold dm_X0_canTakeModule_p21 at h
  refine ev_iconst (v := 0) dX0_canTakeModule_21 (by decide) ?_
  exact ev_sub [] rfl (ev_X0_canTakeModule_p22 hO hP h)
set_option maxHeartbeats 4000000 in
set_option maxRecDepth 100000 in
theorem ev_X0_canTakeModule {l : Launch} {G : xG} (hO : x_OK l G) {P : xP} (hP : x_PG P G) {a0 : Nat} {v1 : Int64} {σ σ' : xS} {rr : Int32 ⊕ String} (h : dm_X0_canTakeModule P a0 v1 σ = some (rr, σ')) : EvM l G mX0_canTakeModule [va_rf (some a0), .long v1] σ (xrI rr) σ' := by
  unfold dm_X0_canTakeModule at h
  refine evM_of hO (by decide +kernel) (x_lenI (by simp [x_cat, x_catI, x_catJ, mX0_canTakeModule, xM.maxL])) ?_
  refine Eq.mp (congrArg (fun z => Ev l G mX0_canTakeModule 0 z [] σ (xrI rr) σ') (show [(0, va_rf (some a0)), (1, .long v1)] = lv_args 0 [va_rf (some a0), .long v1] by simp [lv_args, x_cat, x_catI, x_catJ])) ?_
  refine ev_aload_n (j := 0) (x := (some a0)) dX0_canTakeModule_0 rfl rfl ?_
  obtain ⟨c_1, h⟩ := x_chk_e h
  refine ev_get (C := RX0) (T := TX0) (k := 1) inX0 (xE_1 c_1) rfl (by decide) wd_114 (Or.inl rfl) rfl dX0_canTakeModule_1 ?_
  refine ev_bipush (v := 8) dX0_canTakeModule_4 (by decide) ?_
  by_cases c_2 : 8 ≤ (σ.I 1 a0)
  · rw [if_pos c_2] at h
    refine ev_icmp_ge (x := (σ.I 1 a0)) (y := 8) (tgt := 21) dX0_canTakeModule_6 (by decide) (fun _ => ?_) (fun q9 => absurd c_2 q9)
    exact ev_sub [] rfl (ev_X0_canTakeModule_p21 hO hP h)
  · rw [if_neg c_2] at h
    refine ev_icmp_ge (x := (σ.I 1 a0)) (y := 8) (tgt := 21) dX0_canTakeModule_6 (by decide) (fun q9 => absurd q9 c_2) (fun _ => ?_)
    refine ev_aload_n (j := 0) (x := (some a0)) dX0_canTakeModule_9 rfl rfl ?_
    refine ev_lload_n (j := 1) (x := v1) dX0_canTakeModule_10 rfl rfl ?_
    rcases x_bind_e h with ⟨v_3, σ_4, h_5, h⟩ | ⟨E_7, σ_4, h_5, h⟩
    · have z9 := x_call (M := mX0_canTakeModule) (M' := mX0_moduleNamed) (pc := 11) (st := [.long v1, va_rf (some a0)]) (rest := []) (av := [va_rf (some a0), .long v1]) (x_linkV (M := mX0_canTakeModule) (M' := mX0_moduleNamed) (As := [.long v1]) (index := 25) (C := RX0) (T := TX0) (xE_1 c_1) rfl wd_251 wd_252 wd_250 xw_X0_moduleNamed rfl (by decide) rfl rfl dX0_canTakeModule_11) (ev_X0_moduleNamed hO hP h_5) xw_X0_moduleNamed rfl wd_145 dX0_canTakeModule_11 (by decide) (by decide) (by simp [x_cat, x_catI, x_catJ])
      refine x_callR z9 ?_
      refine ev_at (st' := [va_rf v_3]) rfl rfl ?_
      by_cases c_6 : v_3 = none
      · rw [if_pos c_6] at h
        refine ev_ifnonnull (x := v_3) (tgt := 21) dX0_canTakeModule_14 (by decide) (fun q9 => absurd c_6 q9) (fun _ => ?_)
        refine ev_iconst (v := 1) dX0_canTakeModule_17 (by decide) ?_
        refine ev_goto (tgt := 22) dX0_canTakeModule_18 (by decide) ?_
        exact ev_sub [] rfl (ev_X0_canTakeModule_p22 hO hP h)
      · rw [if_neg c_6] at h
        refine ev_ifnonnull (x := v_3) (tgt := 21) dX0_canTakeModule_14 (by decide) (fun _ => ?_) (fun q9 => absurd q9 c_6)
        exact ev_sub [] rfl (ev_X0_canTakeModule_p21 hO hP h)
    · have z9 := x_call (M := mX0_canTakeModule) (M' := mX0_moduleNamed) (pc := 11) (st := [.long v1, va_rf (some a0)]) (rest := []) (av := [va_rf (some a0), .long v1]) (x_linkV (M := mX0_canTakeModule) (M' := mX0_moduleNamed) (As := [.long v1]) (index := 25) (C := RX0) (T := TX0) (xE_1 c_1) rfl wd_251 wd_252 wd_250 xw_X0_moduleNamed rfl (by decide) rfl rfl dX0_canTakeModule_11) (ev_X0_moduleNamed hO hP h_5) xw_X0_moduleNamed rfl wd_145 dX0_canTakeModule_11 (by decide) (by decide) (by simp [x_cat, x_catI, x_catJ])
      cases h
      exact x_callX z9 (evX_out rfl)
set_option maxHeartbeats 4000000 in
set_option maxRecDepth 100000 in
theorem ev_X10_place {l : Launch} {G : xG} (hO : x_OK l G) {P : xP} (hP : x_PG P G) {a0 : Nat} {σ σ' : xS} {rr : Int32 ⊕ String} (h : dm_X10_place P a0 σ = some (rr, σ')) : EvM l G mX10_place [va_rf (some a0)] σ (xrI rr) σ' := by
  unfold dm_X10_place at h
  refine evM_of hO (by decide +kernel) (x_lenI (by simp [x_cat, x_catI, x_catJ, mX10_place, xM.maxL])) ?_
  refine Eq.mp (congrArg (fun z => Ev l G mX10_place 0 z [] σ (xrI rr) σ') (show [(0, va_rf (some a0))] = lv_args 0 [va_rf (some a0)] by simp [lv_args, x_cat, x_catI, x_catJ])) ?_
  refine ev_aload_n (j := 0) (x := (some a0)) dX10_place_0 rfl rfl ?_
  obtain ⟨c_1, h⟩ := x_chk_e h
  refine ev_get (C := RX10) (T := TX10) (k := 2) inX10 (xE_10 c_1) rfl (by decide) wd_91 (Or.inl rfl) rfl dX10_place_1 ?_
  refine ev_aload_n (j := 0) (x := (some a0)) dX10_place_4 rfl rfl ?_
  refine ev_get (C := RX10) (T := TX10) (k := 6) inX10 (xE_10 c_1) rfl (by decide) wd_96 (Or.inl rfl) rfl dX10_place_5 ?_
  obtain ⟨a_2, ea_2, h⟩ := x_some_e h
  refine ev_at (st' := [.int (σ.I 906 a0), va_rf (some a_2)]) rfl (by rw [ea_2]) ?_
  obtain ⟨c_3, h⟩ := x_chk_e h
  refine ev_iald c_3.1 c_3.2 dX10_place_8 ?_
  cases h
  exact ev_iret rfl rfl dX10_place_9
set_option maxHeartbeats 4000000 in
set_option maxRecDepth 100000 in
theorem ev_X5_init {l : Launch} {G : xG} (hO : x_OK l G) {P : xP} (hP : x_PG P G) {a0 : Nat} {v1 : Int32} {v2 : Int64} {v4 : Int32} {σ σ' : xS} {rr : Unit ⊕ String} (h : dm_X5_init P a0 v1 v2 v4 σ = some (rr, σ')) : EvM l G mX5_init [va_rf (some a0), .int v1, .long v2, .int v4] σ (xrV rr) σ' := by
  unfold dm_X5_init at h
  refine evM_of hO (by decide +kernel) (x_lenI (by simp [x_cat, x_catI, x_catJ, mX5_init, xM.maxL])) ?_
  refine Eq.mp (congrArg (fun z => Ev l G mX5_init 0 z [] σ (xrV rr) σ') (show [(0, va_rf (some a0)), (1, .int v1), (2, .long v2), (4, .int v4)] = lv_args 0 [va_rf (some a0), .int v1, .long v2, .int v4] by simp [lv_args, x_cat, x_catI, x_catJ])) ?_
  refine ev_aload_n (j := 0) (x := (some a0)) dX5_init_0 rfl rfl ?_
  refine ev_objInit wd_253 wd_85 wd_86 dX5_init_1 (by decide) (by decide) ?_
  refine ev_aload_n (j := 0) (x := (some a0)) dX5_init_4 rfl rfl ?_
  refine ev_bipush (v := 16) dX5_init_5 (by decide) ?_
  obtain ⟨c_1, h⟩ := x_chk_e h
  obtain ⟨σ_2, eσ_2, h⟩ := x_let_e h
  refine ev_newq (C := "NetlistForms$Net") (k := 26) (t0 := 6) (by decide) (fun _ => rfl) wd_254 wd_255 c_1.1 c_1.2.1 (hP.2.1 ▸ c_1.2.2.1) (hP.2.2.1 ▸ c_1.2.2.2) dX5_init_7 (eσ_2 ▸ ?_)
  obtain ⟨c_3, h⟩ := x_chk_e h
  obtain ⟨σ_4, eσ_4, h⟩ := x_let_e h
  refine ev_putF (σ2 := σ_4) (C := RX5) (T := TX5) (k := 3) inX5 tyX5 tyX5_ok nmX5 (xE_6 c_3.1) rfl (by decide) wd_256 (Or.inl rfl) rfl rfl rfl rfl (x_refN _) (x_refFA _) (Nat.le_of_ble_eq_true rfl) (hP.2.2.2.1 ▸ c_3.2) (by rw [eσ_4]; exact xP_6_3 _ c_3.1) (by rw [eσ_4]; exact xPut_R) dX5_init_10 ?_
  refine ev_aload_n (j := 0) (x := (some a0)) dX5_init_13 rfl rfl ?_
  refine ev_iconst (v := 0) dX5_init_14 (by decide) ?_
  obtain ⟨c_5, h⟩ := x_chk_e h
  obtain ⟨σ_6, eσ_6, h⟩ := x_let_e h
  refine ev_put (σ2 := σ_6) (C := RX5) (T := TX5) (k := 4) inX5 tyX5 tyX5_ok nmX5 (xE_6 c_5.1) rfl (by decide) wd_257 (Or.inl rfl) rfl rfl rfl rfl (Nat.le_of_ble_eq_true rfl) (hP.2.2.2.1 ▸ c_5.2) (by rw [eσ_6]; exact xP_6_4 _ c_5.1) (by rw [eσ_6]; exact xPut_I) dX5_init_15 ?_
  refine ev_aload_n (j := 0) (x := (some a0)) dX5_init_18 rfl rfl ?_
  refine ev_iconst (v := 0) dX5_init_19 (by decide) ?_
  obtain ⟨c_7, h⟩ := x_chk_e h
  obtain ⟨σ_8, eσ_8, h⟩ := x_let_e h
  refine ev_put (σ2 := σ_8) (C := RX5) (T := TX5) (k := 5) inX5 tyX5 tyX5_ok nmX5 (xE_6 c_7.1) rfl (by decide) wd_258 (Or.inl rfl) rfl rfl rfl rfl (Nat.le_of_ble_eq_true rfl) (hP.2.2.2.1 ▸ c_7.2) (by rw [eσ_8]; exact xP_6_5 _ c_7.1) (by rw [eσ_8]; exact xPut_I) dX5_init_20 ?_
  refine ev_aload_n (j := 0) (x := (some a0)) dX5_init_23 rfl rfl ?_
  refine ev_iconst (v := 0) dX5_init_24 (by decide) ?_
  obtain ⟨c_9, h⟩ := x_chk_e h
  obtain ⟨σ_10, eσ_10, h⟩ := x_let_e h
  refine ev_put (σ2 := σ_10) (C := RX5) (T := TX5) (k := 6) inX5 tyX5 tyX5_ok nmX5 (xE_6 c_9.1) rfl (by decide) wd_259 (Or.inl rfl) rfl rfl rfl rfl (Nat.le_of_ble_eq_true rfl) (hP.2.2.2.1 ▸ c_9.2) (by rw [eσ_10]; exact xP_6_6 _ c_9.1) (by rw [eσ_10]; exact xPut_I) dX5_init_25 ?_
  refine ev_aload_n (j := 0) (x := (some a0)) dX5_init_28 rfl rfl ?_
  refine ev_bipush (v := 8) dX5_init_29 (by decide) ?_
  obtain ⟨c_11, h⟩ := x_chk_e h
  obtain ⟨σ_12, eσ_12, h⟩ := x_let_e h
  refine ev_newq (C := "NetlistForms$Part") (k := 28) (t0 := 8) (by decide) (fun _ => rfl) wd_260 wd_261 c_11.1 c_11.2.1 (hP.2.1 ▸ c_11.2.2.1) (hP.2.2.1 ▸ c_11.2.2.2) dX5_init_31 (eσ_12 ▸ ?_)
  obtain ⟨c_13, h⟩ := x_chk_e h
  obtain ⟨σ_14, eσ_14, h⟩ := x_let_e h
  refine ev_putF (σ2 := σ_14) (C := RX5) (T := TX5) (k := 7) inX5 tyX5 tyX5_ok nmX5 (xE_6 c_13.1) rfl (by decide) wd_262 (Or.inl rfl) rfl rfl rfl rfl (x_refN _) (x_refFA _) (Nat.le_of_ble_eq_true rfl) (hP.2.2.2.1 ▸ c_13.2) (by rw [eσ_14]; exact xP_6_7 _ c_13.1) (by rw [eσ_14]; exact xPut_R) dX5_init_34 ?_
  refine ev_aload_n (j := 0) (x := (some a0)) dX5_init_37 rfl rfl ?_
  refine ev_bipush (v := 8) dX5_init_38 (by decide) ?_
  obtain ⟨c_15, h⟩ := x_chk_e h
  obtain ⟨σ_16, eσ_16, h⟩ := x_let_e h
  refine ev_newq (C := "NetlistForms$Part") (k := 28) (t0 := 8) (by decide) (fun _ => rfl) wd_260 wd_261 c_15.1 c_15.2.1 (hP.2.1 ▸ c_15.2.2.1) (hP.2.2.1 ▸ c_15.2.2.2) dX5_init_40 (eσ_16 ▸ ?_)
  obtain ⟨c_17, h⟩ := x_chk_e h
  obtain ⟨σ_18, eσ_18, h⟩ := x_let_e h
  refine ev_putF (σ2 := σ_18) (C := RX5) (T := TX5) (k := 8) inX5 tyX5 tyX5_ok nmX5 (xE_6 c_17.1) rfl (by decide) wd_263 (Or.inl rfl) rfl rfl rfl rfl (x_refN _) (x_refFA _) (Nat.le_of_ble_eq_true rfl) (hP.2.2.2.1 ▸ c_17.2) (by rw [eσ_18]; exact xP_6_8 _ c_17.1) (by rw [eσ_18]; exact xPut_R) dX5_init_43 ?_
  refine ev_aload_n (j := 0) (x := (some a0)) dX5_init_46 rfl rfl ?_
  refine ev_iconst (v := 0) dX5_init_47 (by decide) ?_
  obtain ⟨c_19, h⟩ := x_chk_e h
  obtain ⟨σ_20, eσ_20, h⟩ := x_let_e h
  refine ev_put (σ2 := σ_20) (C := RX5) (T := TX5) (k := 9) inX5 tyX5 tyX5_ok nmX5 (xE_6 c_19.1) rfl (by decide) wd_264 (Or.inl rfl) rfl rfl rfl rfl (Nat.le_of_ble_eq_true rfl) (hP.2.2.2.1 ▸ c_19.2) (by rw [eσ_20]; exact xP_6_9 _ c_19.1) (by rw [eσ_20]; exact xPut_I) dX5_init_48 ?_
  refine ev_aload_n (j := 0) (x := (some a0)) dX5_init_51 rfl rfl ?_
  refine ev_bipush (v := 12) dX5_init_52 (by decide) ?_
  obtain ⟨c_21, h⟩ := x_chk_e h
  obtain ⟨σ_22, eσ_22, h⟩ := x_let_e h
  refine ev_newq (C := "NetlistForms$Instance") (k := 24) (t0 := 4) (by decide) (fun _ => rfl) wd_265 wd_266 c_21.1 c_21.2.1 (hP.2.1 ▸ c_21.2.2.1) (hP.2.2.1 ▸ c_21.2.2.2) dX5_init_54 (eσ_22 ▸ ?_)
  obtain ⟨c_23, h⟩ := x_chk_e h
  obtain ⟨σ_24, eσ_24, h⟩ := x_let_e h
  refine ev_putF (σ2 := σ_24) (C := RX5) (T := TX5) (k := 10) inX5 tyX5 tyX5_ok nmX5 (xE_6 c_23.1) rfl (by decide) wd_267 (Or.inl rfl) rfl rfl rfl rfl (x_refN _) (x_refFA _) (Nat.le_of_ble_eq_true rfl) (hP.2.2.2.1 ▸ c_23.2) (by rw [eσ_24]; exact xP_6_10 _ c_23.1) (by rw [eσ_24]; exact xPut_R) dX5_init_57 ?_
  refine ev_aload_n (j := 0) (x := (some a0)) dX5_init_60 rfl rfl ?_
  refine ev_iconst (v := 0) dX5_init_61 (by decide) ?_
  obtain ⟨c_25, h⟩ := x_chk_e h
  obtain ⟨σ_26, eσ_26, h⟩ := x_let_e h
  refine ev_put (σ2 := σ_26) (C := RX5) (T := TX5) (k := 11) inX5 tyX5 tyX5_ok nmX5 (xE_6 c_25.1) rfl (by decide) wd_268 (Or.inl rfl) rfl rfl rfl rfl (Nat.le_of_ble_eq_true rfl) (hP.2.2.2.1 ▸ c_25.2) (by rw [eσ_26]; exact xP_6_11 _ c_25.1) (by rw [eσ_26]; exact xPut_I) dX5_init_62 ?_
  refine ev_aload_n (j := 0) (x := (some a0)) dX5_init_65 rfl rfl ?_
  refine ev_iconst (v := 0) dX5_init_66 (by decide) ?_
  obtain ⟨c_27, h⟩ := x_chk_e h
  obtain ⟨σ_28, eσ_28, h⟩ := x_let_e h
  refine ev_put (σ2 := σ_28) (C := RX5) (T := TX5) (k := 12) inX5 tyX5 tyX5_ok nmX5 (xE_6 c_27.1) rfl (by decide) wd_269 (Or.inl rfl) rfl rfl rfl rfl (Nat.le_of_ble_eq_true rfl) (hP.2.2.2.1 ▸ c_27.2) (by rw [eσ_28]; exact xP_6_12 _ c_27.1) (by rw [eσ_28]; exact xPut_I) dX5_init_67 ?_
  refine ev_aload_n (j := 0) (x := (some a0)) dX5_init_70 rfl rfl ?_
  refine ev_iload_n (j := 1) (x := v1) dX5_init_71 rfl rfl ?_
  obtain ⟨c_29, h⟩ := x_chk_e h
  obtain ⟨σ_30, eσ_30, h⟩ := x_let_e h
  refine ev_putF (σ2 := σ_30) (C := RX5) (T := TX5) (k := 0) inX5 tyX5 tyX5_ok nmX5 (xE_6 c_29.1) rfl (by decide) wd_270 (Or.inl rfl) rfl rfl rfl rfl rfl rfl (Nat.le_of_ble_eq_true rfl) (hP.2.2.2.1 ▸ c_29.2) (by rw [eσ_30]; exact xP_6_0 _ c_29.1) (by rw [eσ_30]; exact xPut_I) dX5_init_72 ?_
  refine ev_aload_n (j := 0) (x := (some a0)) dX5_init_75 rfl rfl ?_
  refine ev_lload_n (j := 2) (x := v2) dX5_init_76 rfl rfl ?_
  obtain ⟨c_31, h⟩ := x_chk_e h
  obtain ⟨σ_32, eσ_32, h⟩ := x_let_e h
  refine ev_putF (σ2 := σ_32) (C := RX5) (T := TX5) (k := 1) inX5 tyX5 tyX5_ok nmX5 (xE_6 c_31.1) rfl (by decide) wd_271 (Or.inl rfl) rfl rfl rfl rfl rfl rfl (Nat.le_of_ble_eq_true rfl) (hP.2.2.2.1 ▸ c_31.2) (by rw [eσ_32]; exact xP_6_1 _ c_31.1) (by rw [eσ_32]; exact xPut_J) dX5_init_77 ?_
  refine ev_aload_n (j := 0) (x := (some a0)) dX5_init_80 rfl rfl ?_
  refine ev_iload (j := 3) (x := v4) dX5_init_81 rfl ?_
  obtain ⟨c_33, h⟩ := x_chk_e h
  obtain ⟨σ_34, eσ_34, h⟩ := x_let_e h
  refine ev_putF (σ2 := σ_34) (C := RX5) (T := TX5) (k := 2) inX5 tyX5 tyX5_ok nmX5 (xE_6 c_33.1) rfl (by decide) wd_272 (Or.inl rfl) rfl rfl rfl rfl rfl rfl (Nat.le_of_ble_eq_true rfl) (hP.2.2.2.1 ▸ c_33.2) (by rw [eσ_34]; exact xP_6_2 _ c_33.1) (by rw [eσ_34]; exact xPut_I) dX5_init_83 ?_
  cases h
  exact ev_vret rfl dX5_init_86
set_option maxHeartbeats 4000000 in
set_option maxRecDepth 100000 in
theorem ev_X0_addModule_p45 {l : Launch} {G : xG} (hO : x_OK l G) {P : xP} (hP : x_PG P G) {a0 : Nat} {v4 : Option Nat} {σ σ' : xS} {rr : Option Nat ⊕ String} (h : dm_X0_addModule_p45 P a0 v4 σ = some (rr, σ')) : Ev l G mX0_addModule 45 [(4, va_rf v4)] [] σ (xrR rr) σ' := by
  unfold dm_X0_addModule_p45 at h
  refine ev_aload (j := 0) (x := v4) dX0_addModule_45 rfl ?_
  cases h
  exact ev_aret rfl dX0_addModule_47
set_option maxHeartbeats 4000000 in
set_option maxRecDepth 100000 in
theorem ev_X0_addModule {l : Launch} {G : xG} (hO : x_OK l G) {P : xP} (hP : x_PG P G) {a0 : Nat} {v1 : Int64} {v3 : Int32} {σ σ' : xS} {rr : Option Nat ⊕ String} (h : dm_X0_addModule P a0 v1 v3 σ = some (rr, σ')) : EvM l G mX0_addModule [va_rf (some a0), .long v1, .int v3] σ (xrR rr) σ' := by
  unfold dm_X0_addModule at h
  refine evM_of hO (by decide +kernel) (x_lenI (by simp [x_cat, x_catI, x_catJ, mX0_addModule, xM.maxL])) ?_
  refine Eq.mp (congrArg (fun z => Ev l G mX0_addModule 0 z [] σ (xrR rr) σ') (show [(0, va_rf (some a0)), (1, .long v1), (3, .int v3)] = lv_args 0 [va_rf (some a0), .long v1, .int v3] by simp [lv_args, x_cat, x_catI, x_catJ])) ?_
  obtain ⟨c_1, h⟩ := x_chk_e h
  obtain ⟨σ_2, eσ_2, h⟩ := x_let_e h
  refine ev_new (C := RX5) (T := TX5) (N := 13) (ci := 5) inX5 tyX5 tyX5_ok rfl (by decide) wd_111 wd_273 wd_274 (hP.2.1 ▸ c_1.1) (hP.2.2.1 ▸ c_1.2) (nE_6 _ _) nF_6 dX0_addModule_0 (eσ_2 ▸ ?_)
  refine ev_dup dX0_addModule_3 (x_cat _) ?_
  refine ev_aload_n (j := 0) (x := (some a0)) dX0_addModule_4 rfl rfl ?_
  obtain ⟨c_3, h⟩ := x_chk_e h
  refine ev_get (C := RX0) (T := TX0) (k := 1) inX0 (xE_1 c_3) rfl (by decide) wd_114 (Or.inl rfl) rfl dX0_addModule_5 ?_
  refine ev_lload_n (j := 1) (x := v1) dX0_addModule_8 rfl rfl ?_
  refine ev_iload_n (j := 2) (x := v3) dX0_addModule_9 rfl rfl ?_
  rcases x_bind_e h with ⟨v_4, σ_5, h_6, h⟩ | ⟨E_15, σ_5, h_6, h⟩
  · have z9 := x_call (M := mX0_addModule) (M' := mX5_init) (pc := 10) (st := [.int v3, .long v1, .int (σ_2.I 1 a0), va_rf (some σ.sz), va_rf (some σ.sz)]) (rest := [va_rf (some σ.sz)]) (av := [va_rf (some σ.sz), .int (σ_2.I 1 a0), .long v1, .int v3]) (x_linkI (M := mX0_addModule) (M' := mX5_init) (As := [.int (σ_2.I 1 a0), .long v1, .int v3]) (index := 29) (b := σ.sz) rfl wd_276 wd_277 wd_275 (by decide) rfl rfl dX0_addModule_10) (ev_X5_init hO hP h_6) xw_X5_init rfl wd_274 dX0_addModule_10 (by decide) (by decide) (by simp [x_cat, x_catI, x_catJ])
    refine x_callR z9 ?_
    refine ev_at (st' := [va_rf (some σ.sz)]) rfl rfl ?_
    refine ev_astore (i := 4) (lv' := [(4, va_rf (some σ.sz)), (0, va_rf (some a0)), (1, .long v1), (3, .int v3)]) dX0_addModule_13 (by decide) rfl ?_
    refine ev_aload_n (j := 1) (x := (some a0)) dX0_addModule_15 rfl rfl ?_
    obtain ⟨c_7, h⟩ := x_chk_e h
    refine ev_get (C := RX0) (T := TX0) (k := 1) inX0 (xE_1 c_7) rfl (by decide) wd_114 (Or.inl rfl) rfl dX0_addModule_16 ?_
    refine ev_bipush (v := 8) dX0_addModule_19 (by decide) ?_
    by_cases c_8 : 8 ≤ (σ_5.I 1 a0)
    · rw [if_pos c_8] at h
      refine ev_icmp_ge (x := (σ_5.I 1 a0)) (y := 8) (tgt := 45) dX0_addModule_21 (by decide) (fun _ => ?_) (fun q9 => absurd c_8 q9)
      exact ev_sub [0] rfl (ev_X0_addModule_p45 hO hP h)
    · rw [if_neg c_8] at h
      refine ev_icmp_ge (x := (σ_5.I 1 a0)) (y := 8) (tgt := 45) dX0_addModule_21 (by decide) (fun q9 => absurd q9 c_8) (fun _ => ?_)
      refine ev_aload_n (j := 1) (x := (some a0)) dX0_addModule_24 rfl rfl ?_
      refine ev_get (C := RX0) (T := TX0) (k := 0) inX0 (xE_1 c_7) rfl (by decide) wd_113 (Or.inl rfl) rfl dX0_addModule_25 ?_
      refine ev_aload_n (j := 1) (x := (some a0)) dX0_addModule_28 rfl rfl ?_
      refine ev_get (C := RX0) (T := TX0) (k := 1) inX0 (xE_1 c_7) rfl (by decide) wd_114 (Or.inl rfl) rfl dX0_addModule_29 ?_
      refine ev_aload (j := 0) (x := (some σ.sz)) dX0_addModule_32 rfl ?_
      obtain ⟨a_9, ea_9, h⟩ := x_some_e h
      refine ev_at (st' := [va_rf (some σ.sz), .int (σ_5.I 1 a0), va_rf (some a_9)]) rfl (by rw [ea_9]) ?_
      obtain ⟨c_10, h⟩ := x_chk_e h
      obtain ⟨σ_11, eσ_11, h⟩ := x_let_e h
      refine ev_aast_27 c_10.1 c_10.2.1 (hP.2.2.2.1 ▸ c_10.2.2.1) (x_kind_e c_10.2.2.2) dX0_addModule_34 (eσ_11 ▸ ?_)
      refine ev_aload_n (j := 1) (x := (some a0)) dX0_addModule_35 rfl rfl ?_
      refine ev_dup dX0_addModule_36 (x_cat _) ?_
      obtain ⟨c_12, h⟩ := x_chk_e h
      refine ev_get (C := RX0) (T := TX0) (k := 1) inX0 (xE_1 c_12) rfl (by decide) wd_114 (Or.inl rfl) rfl dX0_addModule_37 ?_
      refine ev_iconst (v := 1) dX0_addModule_40 (by decide) ?_
      refine ev_iadd (x := (σ_11.I 1 a0)) (y := 1) dX0_addModule_41 ?_
      obtain ⟨c_13, h⟩ := x_chk_e h
      obtain ⟨σ_14, eσ_14, h⟩ := x_let_e h
      refine ev_put (σ2 := σ_14) (C := RX0) (T := TX0) (k := 1) inX0 tyX0 tyX0_ok nmX0 (xE_1 c_13.1) rfl (by decide) wd_114 (Or.inl rfl) rfl rfl rfl rfl (Nat.le_of_ble_eq_true rfl) (hP.2.2.2.1 ▸ c_13.2) (by rw [eσ_14]; exact xP_1_1 _ c_13.1) (by rw [eσ_14]; exact xPut_I) dX0_addModule_42 ?_
      exact ev_sub [0] rfl (ev_X0_addModule_p45 hO hP h)
  · have z9 := x_call (M := mX0_addModule) (M' := mX5_init) (pc := 10) (st := [.int v3, .long v1, .int (σ_2.I 1 a0), va_rf (some σ.sz), va_rf (some σ.sz)]) (rest := [va_rf (some σ.sz)]) (av := [va_rf (some σ.sz), .int (σ_2.I 1 a0), .long v1, .int v3]) (x_linkI (M := mX0_addModule) (M' := mX5_init) (As := [.int (σ_2.I 1 a0), .long v1, .int v3]) (index := 29) (b := σ.sz) rfl wd_276 wd_277 wd_275 (by decide) rfl rfl dX0_addModule_10) (ev_X5_init hO hP h_6) xw_X5_init rfl wd_274 dX0_addModule_10 (by decide) (by decide) (by simp [x_cat, x_catI, x_catJ])
    cases h
    exact x_callX z9 (evX_out rfl)
set_option maxHeartbeats 4000000 in
set_option maxRecDepth 100000 in
theorem ev_X8_startModule_p28 {l : Launch} {G : xG} (hO : x_OK l G) {P : xP} (hP : x_PG P G) {a0 : Nat} {v1 : Int64} {s0 : Option Nat} {s1 : Int32} {σ σ' : xS} {rr : Unit ⊕ String} (h : dm_X8_startModule_p28 P a0 v1 s0 s1 σ = some (rr, σ')) : Ev l G mX8_startModule 28 [(0, va_rf (some a0)), (1, .long v1)] [.int s1, va_rf s0] σ (xrV rr) σ' := by
  unfold dm_X8_startModule_p28 at h
  obtain ⟨a_1, ea_1, h⟩ := x_some_e h
  refine ev_at (st' := [.int s1, va_rf (some a_1)]) rfl (by rw [ea_1]) ?_
  obtain ⟨c_5, h⟩ := x_chk_e h
  rcases x_bind_e h with ⟨v_2, σ_3, h_4, h⟩ | ⟨E_28, σ_3, h_4, h⟩
  · have z9 := x_call (M := mX8_startModule) (M' := mX10_refuseIf) (pc := 28) (st := [.int s1, va_rf (some a_1)]) (rest := []) (av := [va_rf (some a_1), .int s1]) (x_linkV (M := mX8_startModule) (M' := mX10_refuseIf) (As := [.int s1]) (index := 51) (C := RX10) (T := TX10) (xE_10 c_5) rfl wd_286 wd_243 wd_241 xw_X10_refuseIf rfl (by decide) rfl rfl dX8_startModule_28) (ev_X10_refuseIf hO hP h_4) xw_X10_refuseIf rfl wd_118 dX8_startModule_28 (by decide) (by decide) (by simp [x_cat, x_catI, x_catJ])
    refine x_callR z9 ?_
    refine ev_at (st' := []) rfl rfl ?_
    refine ev_aload_n (j := 0) (x := (some a0)) dX8_startModule_31 rfl rfl ?_
    refine ev_aload_n (j := 0) (x := (some a0)) dX8_startModule_32 rfl rfl ?_
    obtain ⟨c_6, h⟩ := x_chk_e h
    refine x_via (A := Ev l G mX8_startModule 36 [(0, va_rf (some a0)), (1, .long v1)] [va_rf (σ_3.R 301 a0), va_rf (some a0)] σ_3 (xrV rr) σ') (fun z9 => ?_) ?_
    · rcases c_6 with w9 | w9
      · exact ev_get (C := RX3) (T := TX3) (k := 1) inX3 (xE_4 w9) rfl (by decide) wd_98 (Or.inl rfl) rfl dX8_startModule_33 z9
      · exact ev_get (C := RX9) (T := TX9) (k := 1) inX9 (xE_9 w9) rfl (by decide) wd_98 (Or.inl rfl) rfl dX8_startModule_33 z9
    refine ev_lload_n (j := 1) (x := v1) dX8_startModule_36 rfl rfl ?_
    refine ev_aload_n (j := 0) (x := (some a0)) dX8_startModule_37 rfl rfl ?_
    refine x_via (A := Ev l G mX8_startModule 41 [(0, va_rf (some a0)), (1, .long v1)] [va_rf (σ_3.R 300 a0), .long v1, va_rf (σ_3.R 301 a0), va_rf (some a0)] σ_3 (xrV rr) σ') (fun z9 => ?_) ?_
    · rcases c_6 with w9 | w9
      · exact ev_get (C := RX3) (T := TX3) (k := 0) inX3 (xE_4 w9) rfl (by decide) wd_100 (Or.inl rfl) rfl dX8_startModule_38 z9
      · exact ev_get (C := RX9) (T := TX9) (k := 0) inX9 (xE_9 w9) rfl (by decide) wd_100 (Or.inl rfl) rfl dX8_startModule_38 z9
    obtain ⟨a_7, ea_7, h⟩ := x_some_e h
    refine ev_at (st' := [va_rf (some a_7), .long v1, va_rf (σ_3.R 301 a0), va_rf (some a0)]) rfl (by rw [ea_7]) ?_
    obtain ⟨c_11, h⟩ := x_chk_e h
    rcases x_bind_e h with ⟨v_8, σ_9, h_10, h⟩ | ⟨E_27, σ_9, h_10, h⟩
    · have z9 := x_call (M := mX8_startModule) (M' := mX10_place) (pc := 41) (st := [va_rf (some a_7), .long v1, va_rf (σ_3.R 301 a0), va_rf (some a0)]) (rest := [.long v1, va_rf (σ_3.R 301 a0), va_rf (some a0)]) (av := [va_rf (some a_7)]) (x_linkV (M := mX8_startModule) (M' := mX10_place) (As := []) (index := 34) (C := RX10) (T := TX10) (xE_10 c_11) rfl wd_289 wd_290 wd_288 xw_X10_place rfl (by decide) rfl rfl dX8_startModule_41) (ev_X10_place hO hP h_10) xw_X10_place rfl wd_118 dX8_startModule_41 (by decide) (by decide) (by simp [x_cat, x_catI, x_catJ])
      refine x_callR z9 ?_
      refine ev_at (st' := [.int v_8, .long v1, va_rf (σ_3.R 301 a0), va_rf (some a0)]) rfl rfl ?_
      obtain ⟨a_12, ea_12, h⟩ := x_some_e h
      refine ev_at (st' := [.int v_8, .long v1, va_rf (some a_12), va_rf (some a0)]) rfl (by rw [ea_12]) ?_
      obtain ⟨c_16, h⟩ := x_chk_e h
      rcases x_bind_e h with ⟨v_13, σ_14, h_15, h⟩ | ⟨E_26, σ_14, h_15, h⟩
      · have z9 := x_call (M := mX8_startModule) (M' := mX0_addModule) (pc := 44) (st := [.int v_8, .long v1, va_rf (some a_12), va_rf (some a0)]) (rest := [va_rf (some a0)]) (av := [va_rf (some a_12), .long v1, .int v_8]) (x_linkV (M := mX8_startModule) (M' := mX0_addModule) (As := [.long v1, .int v_8]) (index := 55) (C := RX0) (T := TX0) (xE_1 c_16) rfl wd_293 wd_294 wd_292 xw_X0_addModule rfl (by decide) rfl rfl dX8_startModule_44) (ev_X0_addModule hO hP h_15) xw_X0_addModule rfl wd_145 dX8_startModule_44 (by decide) (by decide) (by simp [x_cat, x_catI, x_catJ])
        refine x_callR z9 ?_
        refine ev_at (st' := [va_rf v_13, va_rf (some a0)]) rfl rfl ?_
        obtain ⟨c_17, h⟩ := x_chk_e h
        obtain ⟨σ_18, eσ_18, h⟩ := x_let_e h
        refine x_via (A := Ev l G mX8_startModule 50 [(0, va_rf (some a0)), (1, .long v1)] [] σ_18 (xrV rr) σ') (fun z9 => ?_) ?_
        · rcases c_17.1 with w9 | w9
          · exact ev_put (σ2 := σ_18) (C := RX3) (T := TX3) (k := 2) inX3 tyX3 tyX3_ok nmX3 (xE_4 w9) rfl (by decide) wd_99 (Or.inl rfl) rfl rfl (x_refN _) (x_refF _) (Nat.le_of_ble_eq_true rfl) (hP.2.2.2.1 ▸ c_17.2) (by rw [eσ_18]; exact xP_4_2 _ w9) (by rw [eσ_18]; exact xPut_R) dX8_startModule_47 z9
          · exact ev_put (σ2 := σ_18) (C := RX9) (T := TX9) (k := 2) inX9 tyX9 tyX9_ok nmX9 (xE_9 w9) rfl (by decide) wd_99 (Or.inl rfl) rfl rfl (x_refN _) (x_refF _) (Nat.le_of_ble_eq_true rfl) (hP.2.2.2.1 ▸ c_17.2) (by rw [eσ_18]; exact xP_9_2 _ w9) (by rw [eσ_18]; exact xPut_R) dX8_startModule_47 z9
        refine ev_aload_n (j := 0) (x := (some a0)) dX8_startModule_50 rfl rfl ?_
        obtain ⟨c_19, h⟩ := x_chk_e h
        refine x_via (A := Ev l G mX8_startModule 54 [(0, va_rf (some a0)), (1, .long v1)] [va_rf (σ_18.R 300 a0)] σ_18 (xrV rr) σ') (fun z9 => ?_) ?_
        · rcases c_19 with w9 | w9
          · exact ev_get (C := RX3) (T := TX3) (k := 0) inX3 (xE_4 w9) rfl (by decide) wd_100 (Or.inl rfl) rfl dX8_startModule_51 z9
          · exact ev_get (C := RX9) (T := TX9) (k := 0) inX9 (xE_9 w9) rfl (by decide) wd_100 (Or.inl rfl) rfl dX8_startModule_51 z9
        obtain ⟨a_20, ea_20, h⟩ := x_some_e h
        refine ev_at (st' := [va_rf (some a_20)]) rfl (by rw [ea_20]) ?_
        obtain ⟨c_24, h⟩ := x_chk_e h
        rcases x_bind_e h with ⟨v_21, σ_22, h_23, h⟩ | ⟨E_25, σ_22, h_23, h⟩
        · have z9 := x_call (M := mX8_startModule) (M' := mX10_step) (pc := 54) (st := [va_rf (some a_20)]) (rest := []) (av := [va_rf (some a_20)]) (x_linkV (M := mX8_startModule) (M' := mX10_step) (As := []) (index := 59) (C := RX10) (T := TX10) (xE_10 c_24) rfl wd_295 wd_247 wd_245 xw_X10_step rfl (by decide) rfl rfl dX8_startModule_54) (ev_X10_step hO hP h_23) xw_X10_step rfl wd_118 dX8_startModule_54 (by decide) (by decide) (by simp [x_cat, x_catI, x_catJ])
          refine x_callR z9 ?_
          refine ev_at (st' := []) rfl rfl ?_
          cases h
          exact ev_vret rfl dX8_startModule_57
        · have z9 := x_call (M := mX8_startModule) (M' := mX10_step) (pc := 54) (st := [va_rf (some a_20)]) (rest := []) (av := [va_rf (some a_20)]) (x_linkV (M := mX8_startModule) (M' := mX10_step) (As := []) (index := 59) (C := RX10) (T := TX10) (xE_10 c_24) rfl wd_295 wd_247 wd_245 xw_X10_step rfl (by decide) rfl rfl dX8_startModule_54) (ev_X10_step hO hP h_23) xw_X10_step rfl wd_118 dX8_startModule_54 (by decide) (by decide) (by simp [x_cat, x_catI, x_catJ])
          cases h
          exact x_callX z9 (evX_out rfl)
      · have z9 := x_call (M := mX8_startModule) (M' := mX0_addModule) (pc := 44) (st := [.int v_8, .long v1, va_rf (some a_12), va_rf (some a0)]) (rest := [va_rf (some a0)]) (av := [va_rf (some a_12), .long v1, .int v_8]) (x_linkV (M := mX8_startModule) (M' := mX0_addModule) (As := [.long v1, .int v_8]) (index := 55) (C := RX0) (T := TX0) (xE_1 c_16) rfl wd_293 wd_294 wd_292 xw_X0_addModule rfl (by decide) rfl rfl dX8_startModule_44) (ev_X0_addModule hO hP h_15) xw_X0_addModule rfl wd_145 dX8_startModule_44 (by decide) (by decide) (by simp [x_cat, x_catI, x_catJ])
        cases h
        exact x_callX z9 (evX_out rfl)
    · have z9 := x_call (M := mX8_startModule) (M' := mX10_place) (pc := 41) (st := [va_rf (some a_7), .long v1, va_rf (σ_3.R 301 a0), va_rf (some a0)]) (rest := [.long v1, va_rf (σ_3.R 301 a0), va_rf (some a0)]) (av := [va_rf (some a_7)]) (x_linkV (M := mX8_startModule) (M' := mX10_place) (As := []) (index := 34) (C := RX10) (T := TX10) (xE_10 c_11) rfl wd_289 wd_290 wd_288 xw_X10_place rfl (by decide) rfl rfl dX8_startModule_41) (ev_X10_place hO hP h_10) xw_X10_place rfl wd_118 dX8_startModule_41 (by decide) (by decide) (by simp [x_cat, x_catI, x_catJ])
      cases h
      exact x_callX z9 (evX_out rfl)
  · have z9 := x_call (M := mX8_startModule) (M' := mX10_refuseIf) (pc := 28) (st := [.int s1, va_rf (some a_1)]) (rest := []) (av := [va_rf (some a_1), .int s1]) (x_linkV (M := mX8_startModule) (M' := mX10_refuseIf) (As := [.int s1]) (index := 51) (C := RX10) (T := TX10) (xE_10 c_5) rfl wd_286 wd_243 wd_241 xw_X10_refuseIf rfl (by decide) rfl rfl dX8_startModule_28) (ev_X10_refuseIf hO hP h_4) xw_X10_refuseIf rfl wd_118 dX8_startModule_28 (by decide) (by decide) (by simp [x_cat, x_catI, x_catJ])
    cases h
    exact x_callX z9 (evX_out rfl)
set_option maxHeartbeats 4000000 in
set_option maxRecDepth 100000 in
theorem ev_X8_startModule {l : Launch} {G : xG} (hO : x_OK l G) {P : xP} (hP : x_PG P G) {a0 : Nat} {σ σ' : xS} {rr : Unit ⊕ String} (h : dm_X8_startModule P a0 σ = some (rr, σ')) : EvM l G mX8_startModule [va_rf (some a0)] σ (xrV rr) σ' := by
  unfold dm_X8_startModule at h
  refine evM_of hO (by decide +kernel) (x_lenI (by simp [x_cat, x_catI, x_catJ, mX8_startModule, xM.maxL])) ?_
  refine Eq.mp (congrArg (fun z => Ev l G mX8_startModule 0 z [] σ (xrV rr) σ') (show [(0, va_rf (some a0))] = lv_args 0 [va_rf (some a0)] by simp [lv_args, x_cat, x_catI, x_catJ])) ?_
  refine ev_aload_n (j := 0) (x := (some a0)) dX8_startModule_0 rfl rfl ?_
  obtain ⟨c_1, h⟩ := x_chk_e h
  refine x_via (A := Ev l G mX8_startModule 4 [(0, va_rf (some a0))] [va_rf (σ.R 300 a0)] σ (xrV rr) σ') (fun z9 => ?_) ?_
  · rcases c_1 with w9 | w9
    · exact ev_get (C := RX3) (T := TX3) (k := 0) inX3 (xE_4 w9) rfl (by decide) wd_100 (Or.inl rfl) rfl dX8_startModule_1 z9
    · exact ev_get (C := RX9) (T := TX9) (k := 0) inX9 (xE_9 w9) rfl (by decide) wd_100 (Or.inl rfl) rfl dX8_startModule_1 z9
  obtain ⟨a_2, ea_2, h⟩ := x_some_e h
  refine ev_at (st' := [va_rf (some a_2)]) rfl (by rw [ea_2]) ?_
  obtain ⟨c_6, h⟩ := x_chk_e h
  rcases x_bind_e h with ⟨v_3, σ_4, h_5, h⟩ | ⟨E_15, σ_4, h_5, h⟩
  · have z9 := x_call (M := mX8_startModule) (M' := mX10_name) (pc := 4) (st := [va_rf (some a_2)]) (rest := []) (av := [va_rf (some a_2)]) (x_linkV (M := mX8_startModule) (M' := mX10_name) (As := []) (index := 43) (C := RX10) (T := TX10) (xE_10 c_6) rfl wd_280 wd_281 wd_279 xw_X10_name rfl (by decide) rfl rfl dX8_startModule_4) (ev_X10_name hO hP h_5) xw_X10_name rfl wd_118 dX8_startModule_4 (by decide) (by decide) (by simp [x_cat, x_catI, x_catJ])
    refine x_callR z9 ?_
    refine ev_at (st' := [.long v_3]) rfl rfl ?_
    refine ev_lstore_n (i := 1) (lv' := [(1, .long v_3), (0, va_rf (some a0))]) dX8_startModule_7 rfl (by decide) (by simp [x_cat, x_catI, x_catJ]) ?_
    refine ev_aload_n (j := 1) (x := (some a0)) dX8_startModule_8 rfl rfl ?_
    obtain ⟨c_7, h⟩ := x_chk_e h
    refine x_via (A := Ev l G mX8_startModule 12 [(1, .long v_3), (0, va_rf (some a0))] [va_rf (σ_4.R 300 a0)] σ_4 (xrV rr) σ') (fun z9 => ?_) ?_
    · rcases c_7 with w9 | w9
      · exact ev_get (C := RX3) (T := TX3) (k := 0) inX3 (xE_4 w9) rfl (by decide) wd_100 (Or.inl rfl) rfl dX8_startModule_9 z9
      · exact ev_get (C := RX9) (T := TX9) (k := 0) inX9 (xE_9 w9) rfl (by decide) wd_100 (Or.inl rfl) rfl dX8_startModule_9 z9
    refine ev_aload_n (j := 1) (x := (some a0)) dX8_startModule_12 rfl rfl ?_
    refine x_via (A := Ev l G mX8_startModule 16 [(1, .long v_3), (0, va_rf (some a0))] [va_rf (σ_4.R 301 a0), va_rf (σ_4.R 300 a0)] σ_4 (xrV rr) σ') (fun z9 => ?_) ?_
    · rcases c_7 with w9 | w9
      · exact ev_get (C := RX3) (T := TX3) (k := 1) inX3 (xE_4 w9) rfl (by decide) wd_98 (Or.inl rfl) rfl dX8_startModule_13 z9
      · exact ev_get (C := RX9) (T := TX9) (k := 1) inX9 (xE_9 w9) rfl (by decide) wd_98 (Or.inl rfl) rfl dX8_startModule_13 z9
    refine ev_lload_n (j := 0) (x := v_3) dX8_startModule_16 rfl rfl ?_
    obtain ⟨a_8, ea_8, h⟩ := x_some_e h
    refine ev_at (st' := [.long v_3, va_rf (some a_8), va_rf (σ_4.R 300 a0)]) rfl (by rw [ea_8]) ?_
    obtain ⟨c_12, h⟩ := x_chk_e h
    rcases x_bind_e h with ⟨v_9, σ_10, h_11, h⟩ | ⟨E_14, σ_10, h_11, h⟩
    · have z9 := x_call (M := mX8_startModule) (M' := mX0_canTakeModule) (pc := 17) (st := [.long v_3, va_rf (some a_8), va_rf (σ_4.R 300 a0)]) (rest := [va_rf (σ_4.R 300 a0)]) (av := [va_rf (some a_8), .long v_3]) (x_linkV (M := mX8_startModule) (M' := mX0_canTakeModule) (As := [.long v_3]) (index := 47) (C := RX0) (T := TX0) (xE_1 c_12) rfl wd_284 wd_285 wd_283 xw_X0_canTakeModule rfl (by decide) rfl rfl dX8_startModule_17) (ev_X0_canTakeModule hO hP h_11) xw_X0_canTakeModule rfl wd_145 dX8_startModule_17 (by decide) (by decide) (by simp [x_cat, x_catI, x_catJ])
      refine x_callR z9 ?_
      refine ev_at (st' := [.int v_9, va_rf (σ_4.R 300 a0)]) rfl rfl ?_
      by_cases c_13 : v_9 = 0
      · rw [if_pos c_13] at h
        refine ev_if_ne (x := v_9) (tgt := 27) dX8_startModule_20 (by decide) (fun q9 => absurd c_13 q9) (fun _ => ?_)
        refine ev_iconst (v := 1) dX8_startModule_23 (by decide) ?_
        refine ev_goto (tgt := 28) dX8_startModule_24 (by decide) ?_
        exact ev_sub [1, 0] rfl (ev_X8_startModule_p28 hO hP h)
      · rw [if_neg c_13] at h
        refine ev_if_ne (x := v_9) (tgt := 27) dX8_startModule_20 (by decide) (fun _ => ?_) (fun q9 => absurd q9 c_13)
        refine ev_iconst (v := 0) dX8_startModule_27 (by decide) ?_
        exact ev_sub [1, 0] rfl (ev_X8_startModule_p28 hO hP h)
    · have z9 := x_call (M := mX8_startModule) (M' := mX0_canTakeModule) (pc := 17) (st := [.long v_3, va_rf (some a_8), va_rf (σ_4.R 300 a0)]) (rest := [va_rf (σ_4.R 300 a0)]) (av := [va_rf (some a_8), .long v_3]) (x_linkV (M := mX8_startModule) (M' := mX0_canTakeModule) (As := [.long v_3]) (index := 47) (C := RX0) (T := TX0) (xE_1 c_12) rfl wd_284 wd_285 wd_283 xw_X0_canTakeModule rfl (by decide) rfl rfl dX8_startModule_17) (ev_X0_canTakeModule hO hP h_11) xw_X0_canTakeModule rfl wd_145 dX8_startModule_17 (by decide) (by decide) (by simp [x_cat, x_catI, x_catJ])
      cases h
      exact x_callX z9 (evX_out rfl)
  · have z9 := x_call (M := mX8_startModule) (M' := mX10_name) (pc := 4) (st := [va_rf (some a_2)]) (rest := []) (av := [va_rf (some a_2)]) (x_linkV (M := mX8_startModule) (M' := mX10_name) (As := []) (index := 43) (C := RX10) (T := TX10) (xE_10 c_6) rfl wd_280 wd_281 wd_279 xw_X10_name rfl (by decide) rfl rfl dX8_startModule_4) (ev_X10_name hO hP h_5) xw_X10_name rfl wd_118 dX8_startModule_4 (by decide) (by decide) (by simp [x_cat, x_catI, x_catJ])
    cases h
    exact x_callX z9 (evX_out rfl)
set_option maxHeartbeats 4000000 in
set_option maxRecDepth 100000 in
theorem ev_X10_takeSign_p28 {l : Launch} {G : xG} (hO : x_OK l G) {P : xP} (hP : x_PG P G) {a0 : Nat} {σ σ' : xS} {rr : Unit ⊕ String} (h : dm_X10_takeSign_p28 P a0 σ = some (rr, σ')) : Ev l G mX10_takeSign 28 [] [] σ (xrV rr) σ' := by
  unfold dm_X10_takeSign_p28 at h
  obtain ⟨c_1, h⟩ := x_chk_e h
  cases h
  exact ev_throw (names := x_ex) (by decide +kernel) x_exf th_X10_91_93 dX10_takeSign_28 dX10_takeSign_31 dX10_takeSign_32 dX10_takeSign_35 rfl (by decide) (by decide) (hP.2.1 ▸ c_1.1) (hP.2.2.1 ▸ c_1.2)
set_option maxHeartbeats 4000000 in
set_option maxRecDepth 100000 in
theorem ev_X10_takeSign {l : Launch} {G : xG} (hO : x_OK l G) {P : xP} (hP : x_PG P G) {a0 : Nat} {v1 : Int32} {σ σ' : xS} {rr : Unit ⊕ String} (h : dm_X10_takeSign P a0 v1 σ = some (rr, σ')) : EvM l G mX10_takeSign [va_rf (some a0), .int v1] σ (xrV rr) σ' := by
  unfold dm_X10_takeSign at h
  refine evM_of hO (by decide +kernel) (x_lenI (by simp [x_cat, x_catI, x_catJ, mX10_takeSign, xM.maxL])) ?_
  refine Eq.mp (congrArg (fun z => Ev l G mX10_takeSign 0 z [] σ (xrV rr) σ') (show [(0, va_rf (some a0)), (1, .int v1)] = lv_args 0 [va_rf (some a0), .int v1] by simp [lv_args, x_cat, x_catI, x_catJ])) ?_
  refine ev_aload_n (j := 0) (x := (some a0)) dX10_takeSign_0 rfl rfl ?_
  obtain ⟨c_1, h⟩ := x_chk_e h
  refine ev_get (C := RX10) (T := TX10) (k := 3) inX10 (xE_10 c_1) rfl (by decide) wd_92 (Or.inl rfl) rfl dX10_takeSign_1 ?_
  refine ev_aload_n (j := 0) (x := (some a0)) dX10_takeSign_4 rfl rfl ?_
  refine ev_get (C := RX10) (T := TX10) (k := 6) inX10 (xE_10 c_1) rfl (by decide) wd_96 (Or.inl rfl) rfl dX10_takeSign_5 ?_
  obtain ⟨a_2, ea_2, h⟩ := x_some_e h
  refine ev_at (st' := [.int (σ.I 906 a0), va_rf (some a_2)]) rfl (by rw [ea_2]) ?_
  obtain ⟨c_3, h⟩ := x_chk_e h
  refine ev_iald c_3.1 c_3.2 dX10_takeSign_8 ?_
  refine ev_iconst (v := 3) dX10_takeSign_9 (by decide) ?_
  by_cases c_4 : (σ.AI a_2 (Int32.toNatClampNeg (σ.I 906 a0))) = 3
  · rw [if_pos c_4] at h
    refine ev_icmp_ne (x := (σ.AI a_2 (Int32.toNatClampNeg (σ.I 906 a0)))) (y := 3) (tgt := 28) dX10_takeSign_10 (by decide) (fun q9 => absurd c_4 q9) (fun _ => ?_)
    refine ev_aload_n (j := 0) (x := (some a0)) dX10_takeSign_13 rfl rfl ?_
    refine ev_get (C := RX10) (T := TX10) (k := 4) inX10 (xE_10 c_1) rfl (by decide) wd_94 (Or.inl rfl) rfl dX10_takeSign_14 ?_
    refine ev_aload_n (j := 0) (x := (some a0)) dX10_takeSign_17 rfl rfl ?_
    refine ev_get (C := RX10) (T := TX10) (k := 6) inX10 (xE_10 c_1) rfl (by decide) wd_96 (Or.inl rfl) rfl dX10_takeSign_18 ?_
    obtain ⟨a_5, ea_5, h⟩ := x_some_e h
    refine ev_at (st' := [.int (σ.I 906 a0), va_rf (some a_5)]) rfl (by rw [ea_5]) ?_
    obtain ⟨c_6, h⟩ := x_chk_e h
    refine ev_lald c_6.1 c_6.2 dX10_takeSign_21 ?_
    refine ev_iload_n (j := 1) (x := v1) dX10_takeSign_22 rfl rfl ?_
    refine ev_i2l (x := v1) dX10_takeSign_23 ?_
    refine ev_lcmp (x := (σ.AJ a_5 (Int32.toNatClampNeg (σ.I 906 a0)))) (y := (Int32.toInt64 v1)) dX10_takeSign_24 ?_
    by_cases c_7 : (lg_cmp (σ.AJ a_5 (Int32.toNatClampNeg (σ.I 906 a0))) (Int32.toInt64 v1)) = 0
    · rw [if_pos c_7] at h
      refine ev_if_eq (x := (lg_cmp (σ.AJ a_5 (Int32.toNatClampNeg (σ.I 906 a0))) (Int32.toInt64 v1))) (tgt := 36) dX10_takeSign_25 (by decide) (fun _ => ?_) (fun q9 => absurd c_7 q9)
      refine ev_aload_n (j := 0) (x := (some a0)) dX10_takeSign_36 rfl rfl ?_
      refine ev_dup dX10_takeSign_37 (x_cat _) ?_
      refine ev_get (C := RX10) (T := TX10) (k := 6) inX10 (xE_10 c_1) rfl (by decide) wd_96 (Or.inl rfl) rfl dX10_takeSign_38 ?_
      refine ev_iconst (v := 1) dX10_takeSign_41 (by decide) ?_
      refine ev_iadd (x := (σ.I 906 a0)) (y := 1) dX10_takeSign_42 ?_
      obtain ⟨c_8, h⟩ := x_chk_e h
      obtain ⟨σ_9, eσ_9, h⟩ := x_let_e h
      refine ev_put (σ2 := σ_9) (C := RX10) (T := TX10) (k := 6) inX10 tyX10 tyX10_ok nmX10 (xE_10 c_8.1) rfl (by decide) wd_96 (Or.inl rfl) rfl rfl rfl rfl (Nat.le_of_ble_eq_true rfl) (hP.2.2.2.1 ▸ c_8.2) (by rw [eσ_9]; exact xP_10_6 _ c_8.1) (by rw [eσ_9]; exact xPut_I) dX10_takeSign_43 ?_
      cases h
      exact ev_vret rfl dX10_takeSign_46
    · rw [if_neg c_7] at h
      refine ev_if_eq (x := (lg_cmp (σ.AJ a_5 (Int32.toNatClampNeg (σ.I 906 a0))) (Int32.toInt64 v1))) (tgt := 36) dX10_takeSign_25 (by decide) (fun q9 => absurd q9 c_7) (fun _ => ?_)
      exact ev_sub [] rfl (ev_X10_takeSign_p28 hO hP h)
  · rw [if_neg c_4] at h
    refine ev_icmp_ne (x := (σ.AI a_2 (Int32.toNatClampNeg (σ.I 906 a0)))) (y := 3) (tgt := 28) dX10_takeSign_10 (by decide) (fun _ => ?_) (fun q9 => absurd q9 c_4)
    exact ev_sub [] rfl (ev_X10_takeSign_p28 hO hP h)
set_option maxHeartbeats 4000000 in
set_option maxRecDepth 100000 in
theorem ev_X10_isSign_p33 {l : Launch} {G : xG} (hO : x_OK l G) {P : xP} (hP : x_PG P G) {a0 : Nat} {s0 : Int32} {σ σ' : xS} {rr : Int32 ⊕ String} (h : dm_X10_isSign_p33 P a0 s0 σ = some (rr, σ')) : Ev l G mX10_isSign 33 [] [.int s0] σ (xrI rr) σ' := by
  unfold dm_X10_isSign_p33 at h
  obtain ⟨c_1, h⟩ := x_chk_e h
  cases h
  exact ev_iret rfl (x_boolN c_1) dX10_isSign_33
set_option maxHeartbeats 4000000 in
set_option maxRecDepth 100000 in
theorem ev_X10_isSign_p32 {l : Launch} {G : xG} (hO : x_OK l G) {P : xP} (hP : x_PG P G) {a0 : Nat} {σ σ' : xS} {rr : Int32 ⊕ String} (h : dm_X10_isSign_p32 P a0 σ = some (rr, σ')) : Ev l G mX10_isSign 32 [] [] σ (xrI rr) σ' := by
  unfold dm_X10_isSign_p32 at h
  refine ev_iconst (v := 0) dX10_isSign_32 (by decide) ?_
  exact ev_sub [] rfl (ev_X10_isSign_p33 hO hP h)
set_option maxHeartbeats 4000000 in
set_option maxRecDepth 100000 in
theorem ev_X10_isSign {l : Launch} {G : xG} (hO : x_OK l G) {P : xP} (hP : x_PG P G) {a0 : Nat} {v1 : Int32} {σ σ' : xS} {rr : Int32 ⊕ String} (h : dm_X10_isSign P a0 v1 σ = some (rr, σ')) : EvM l G mX10_isSign [va_rf (some a0), .int v1] σ (xrI rr) σ' := by
  unfold dm_X10_isSign at h
  refine evM_of hO (by decide +kernel) (x_lenI (by simp [x_cat, x_catI, x_catJ, mX10_isSign, xM.maxL])) ?_
  refine Eq.mp (congrArg (fun z => Ev l G mX10_isSign 0 z [] σ (xrI rr) σ') (show [(0, va_rf (some a0)), (1, .int v1)] = lv_args 0 [va_rf (some a0), .int v1] by simp [lv_args, x_cat, x_catI, x_catJ])) ?_
  refine ev_aload_n (j := 0) (x := (some a0)) dX10_isSign_0 rfl rfl ?_
  obtain ⟨c_1, h⟩ := x_chk_e h
  refine ev_get (C := RX10) (T := TX10) (k := 3) inX10 (xE_10 c_1) rfl (by decide) wd_92 (Or.inl rfl) rfl dX10_isSign_1 ?_
  refine ev_aload_n (j := 0) (x := (some a0)) dX10_isSign_4 rfl rfl ?_
  refine ev_get (C := RX10) (T := TX10) (k := 6) inX10 (xE_10 c_1) rfl (by decide) wd_96 (Or.inl rfl) rfl dX10_isSign_5 ?_
  obtain ⟨a_2, ea_2, h⟩ := x_some_e h
  refine ev_at (st' := [.int (σ.I 906 a0), va_rf (some a_2)]) rfl (by rw [ea_2]) ?_
  obtain ⟨c_3, h⟩ := x_chk_e h
  refine ev_iald c_3.1 c_3.2 dX10_isSign_8 ?_
  refine ev_iconst (v := 3) dX10_isSign_9 (by decide) ?_
  by_cases c_4 : (σ.AI a_2 (Int32.toNatClampNeg (σ.I 906 a0))) = 3
  · rw [if_pos c_4] at h
    refine ev_icmp_ne (x := (σ.AI a_2 (Int32.toNatClampNeg (σ.I 906 a0)))) (y := 3) (tgt := 32) dX10_isSign_10 (by decide) (fun q9 => absurd c_4 q9) (fun _ => ?_)
    refine ev_aload_n (j := 0) (x := (some a0)) dX10_isSign_13 rfl rfl ?_
    refine ev_get (C := RX10) (T := TX10) (k := 4) inX10 (xE_10 c_1) rfl (by decide) wd_94 (Or.inl rfl) rfl dX10_isSign_14 ?_
    refine ev_aload_n (j := 0) (x := (some a0)) dX10_isSign_17 rfl rfl ?_
    refine ev_get (C := RX10) (T := TX10) (k := 6) inX10 (xE_10 c_1) rfl (by decide) wd_96 (Or.inl rfl) rfl dX10_isSign_18 ?_
    obtain ⟨a_5, ea_5, h⟩ := x_some_e h
    refine ev_at (st' := [.int (σ.I 906 a0), va_rf (some a_5)]) rfl (by rw [ea_5]) ?_
    obtain ⟨c_6, h⟩ := x_chk_e h
    refine ev_lald c_6.1 c_6.2 dX10_isSign_21 ?_
    refine ev_iload_n (j := 1) (x := v1) dX10_isSign_22 rfl rfl ?_
    refine ev_i2l (x := v1) dX10_isSign_23 ?_
    refine ev_lcmp (x := (σ.AJ a_5 (Int32.toNatClampNeg (σ.I 906 a0)))) (y := (Int32.toInt64 v1)) dX10_isSign_24 ?_
    by_cases c_7 : (lg_cmp (σ.AJ a_5 (Int32.toNatClampNeg (σ.I 906 a0))) (Int32.toInt64 v1)) = 0
    · rw [if_pos c_7] at h
      refine ev_if_ne (x := (lg_cmp (σ.AJ a_5 (Int32.toNatClampNeg (σ.I 906 a0))) (Int32.toInt64 v1))) (tgt := 32) dX10_isSign_25 (by decide) (fun q9 => absurd c_7 q9) (fun _ => ?_)
      refine ev_iconst (v := 1) dX10_isSign_28 (by decide) ?_
      refine ev_goto (tgt := 33) dX10_isSign_29 (by decide) ?_
      exact ev_sub [] rfl (ev_X10_isSign_p33 hO hP h)
    · rw [if_neg c_7] at h
      refine ev_if_ne (x := (lg_cmp (σ.AJ a_5 (Int32.toNatClampNeg (σ.I 906 a0))) (Int32.toInt64 v1))) (tgt := 32) dX10_isSign_25 (by decide) (fun _ => ?_) (fun q9 => absurd q9 c_7)
      exact ev_sub [] rfl (ev_X10_isSign_p32 hO hP h)
  · rw [if_neg c_4] at h
    refine ev_icmp_ne (x := (σ.AI a_2 (Int32.toNatClampNeg (σ.I 906 a0)))) (y := 3) (tgt := 32) dX10_isSign_10 (by decide) (fun _ => ?_) (fun q9 => absurd q9 c_4)
    exact ev_sub [] rfl (ev_X10_isSign_p32 hO hP h)
set_option maxHeartbeats 4000000 in
set_option maxRecDepth 100000 in
theorem ev_X5_netAmong_p47 {l : Launch} {G : xG} (hO : x_OK l G) {P : xP} (hP : x_PG P G) {a0 : Nat} {σ σ' : xS} {rr : Option Nat ⊕ String} (h : dm_X5_netAmong_p47 P a0 σ = some (rr, σ')) : Ev l G mX5_netAmong 47 [] [] σ (xrR rr) σ' := by
  unfold dm_X5_netAmong_p47 at h
  refine ev_null dX5_netAmong_47 ?_
  cases h
  exact ev_aret rfl dX5_netAmong_48
set_option maxHeartbeats 4000000 in
set_option maxRecDepth 100000 in
theorem ev_X5_netAmong_L3 {l : Launch} {G : xG} (hO : x_OK l G) {P : xP} (hP : x_PG P G) {a0 : Nat} : ∀ (n : Nat) {v1 : Int32} {v2 : Int64} {v4 : Int32} {σ σ' : xS} {rr : Option Nat ⊕ String}, dm_X5_netAmong_L3 P a0 n v1 v2 v4 σ = some (rr, σ') → Ev l G mX5_netAmong 3 [(0, va_rf (some a0)), (1, .int v1), (2, .long v2), (4, .int v4)] [] σ (xrR rr) σ' := by
  intro n
  induction n with
  | zero => intro v1 v2 v4 σ σ' rr h; cases h
  | succ n ih =>
    intro v1 v2 v4 σ σ' rr h
    rw [dm_X5_netAmong_L3] at h
    refine ev_iload (j := 3) (x := v4) dX5_netAmong_3 rfl ?_
    refine ev_iload_n (j := 1) (x := v1) dX5_netAmong_5 rfl rfl ?_
    by_cases c_1 : v1 ≤ v4
    · rw [if_pos c_1] at h
      refine ev_icmp_ge (x := v4) (y := v1) (tgt := 47) dX5_netAmong_6 (by decide) (fun _ => ?_) (fun q9 => absurd c_1 q9)
      exact ev_sub [] rfl (ev_X5_netAmong_p47 hO hP h)
    · rw [if_neg c_1] at h
      refine ev_icmp_ge (x := v4) (y := v1) (tgt := 47) dX5_netAmong_6 (by decide) (fun q9 => absurd q9 c_1) (fun _ => ?_)
      refine ev_iload (j := 3) (x := v4) dX5_netAmong_9 rfl ?_
      refine ev_aload_n (j := 0) (x := (some a0)) dX5_netAmong_11 rfl rfl ?_
      obtain ⟨c_2, h⟩ := x_chk_e h
      refine ev_get (C := RX5) (T := TX5) (k := 4) inX5 (xE_6 c_2) rfl (by decide) wd_257 (Or.inl rfl) rfl dX5_netAmong_12 ?_
      by_cases c_3 : (σ.I 504 a0) ≤ v4
      · rw [if_pos c_3] at h
        refine ev_icmp_ge (x := v4) (y := (σ.I 504 a0)) (tgt := 47) dX5_netAmong_15 (by decide) (fun _ => ?_) (fun q9 => absurd c_3 q9)
        exact ev_sub [] rfl (ev_X5_netAmong_p47 hO hP h)
      · rw [if_neg c_3] at h
        refine ev_icmp_ge (x := v4) (y := (σ.I 504 a0)) (tgt := 47) dX5_netAmong_15 (by decide) (fun q9 => absurd q9 c_3) (fun _ => ?_)
        refine ev_aload_n (j := 0) (x := (some a0)) dX5_netAmong_18 rfl rfl ?_
        refine ev_get (C := RX5) (T := TX5) (k := 3) inX5 (xE_6 c_2) rfl (by decide) wd_256 (Or.inl rfl) rfl dX5_netAmong_19 ?_
        refine ev_iload (j := 3) (x := v4) dX5_netAmong_22 rfl ?_
        obtain ⟨a_4, ea_4, h⟩ := x_some_e h
        refine ev_at (st' := [.int v4, va_rf (some a_4)]) rfl (by rw [ea_4]) ?_
        obtain ⟨c_5, h⟩ := x_chk_e h
        refine ev_aald_26 c_5.1 c_5.2 dX5_netAmong_24 ?_
        obtain ⟨a_6, ea_6, h⟩ := x_some_e h
        refine ev_at (st' := [va_rf (some a_6)]) rfl (by rw [ea_6]) ?_
        obtain ⟨c_7, h⟩ := x_chk_e h
        refine ev_get (C := RX4) (T := TX4) (k := 0) inX4 (xE_5 c_7) rfl (by decide) wd_296 (Or.inl rfl) rfl dX5_netAmong_25 ?_
        refine ev_lload_n (j := 2) (x := v2) dX5_netAmong_28 rfl rfl ?_
        refine ev_lcmp (x := (σ.J 400 a_6)) (y := v2) dX5_netAmong_29 ?_
        by_cases c_8 : (lg_cmp (σ.J 400 a_6) v2) = 0
        · rw [if_pos c_8] at h
          refine ev_if_ne (x := (lg_cmp (σ.J 400 a_6) v2)) (tgt := 41) dX5_netAmong_30 (by decide) (fun q9 => absurd c_8 q9) (fun _ => ?_)
          refine ev_aload_n (j := 0) (x := (some a0)) dX5_netAmong_33 rfl rfl ?_
          refine ev_get (C := RX5) (T := TX5) (k := 3) inX5 (xE_6 c_2) rfl (by decide) wd_256 (Or.inl rfl) rfl dX5_netAmong_34 ?_
          refine ev_iload (j := 3) (x := v4) dX5_netAmong_37 rfl ?_
          refine ev_at (st' := [.int v4, va_rf (some a_4)]) rfl (by rw [ea_4]) ?_
          refine ev_aald_26 c_5.1 c_5.2 dX5_netAmong_39 ?_
          cases h
          exact ev_aret rfl dX5_netAmong_40
        · rw [if_neg c_8] at h
          refine ev_if_ne (x := (lg_cmp (σ.J 400 a_6) v2)) (tgt := 41) dX5_netAmong_30 (by decide) (fun _ => ?_) (fun q9 => absurd q9 c_8)
          obtain ⟨v_9, ev_9, h⟩ := x_let_e h
          refine ev_iinc (j := 3) (x := v4) (v := v_9) (lv' := [(4, .int v_9), (0, va_rf (some a0)), (1, .int v1), (2, .long v2)]) dX5_netAmong_41 rfl (by rw [ev_9]; rfl) (by decide) rfl ?_
          refine ev_goto (tgt := 3) dX5_netAmong_44 (by decide) ?_
          exact ev_sub [1, 2, 3, 0] rfl (ih h)
set_option maxHeartbeats 4000000 in
set_option maxRecDepth 100000 in
theorem ev_X5_netAmong {l : Launch} {G : xG} (hO : x_OK l G) {P : xP} (hP : x_PG P G) {a0 : Nat} {v1 : Int32} {v2 : Int64} {σ σ' : xS} {rr : Option Nat ⊕ String} (h : dm_X5_netAmong P a0 v1 v2 σ = some (rr, σ')) : EvM l G mX5_netAmong [va_rf (some a0), .int v1, .long v2] σ (xrR rr) σ' := by
  unfold dm_X5_netAmong at h
  refine evM_of hO (by decide +kernel) (x_lenI (by simp [x_cat, x_catI, x_catJ, mX5_netAmong, xM.maxL])) ?_
  refine Eq.mp (congrArg (fun z => Ev l G mX5_netAmong 0 z [] σ (xrR rr) σ') (show [(0, va_rf (some a0)), (1, .int v1), (2, .long v2)] = lv_args 0 [va_rf (some a0), .int v1, .long v2] by simp [lv_args, x_cat, x_catI, x_catJ])) ?_
  refine ev_iconst (v := 0) dX5_netAmong_0 (by decide) ?_
  refine ev_istore (i := 4) (lv' := [(4, .int 0), (0, va_rf (some a0)), (1, .int v1), (2, .long v2)]) dX5_netAmong_1 (by decide) rfl ?_
  exact ev_sub [1, 2, 3, 0] rfl (ev_X5_netAmong_L3 hO hP P.N h)
set_option maxHeartbeats 4000000 in
set_option maxRecDepth 100000 in
theorem ev_X5_canTakeNet_p26 {l : Launch} {G : xG} (hO : x_OK l G) {P : xP} (hP : x_PG P G) {a0 : Nat} {s0 : Int32} {σ σ' : xS} {rr : Int32 ⊕ String} (h : dm_X5_canTakeNet_p26 P a0 s0 σ = some (rr, σ')) : Ev l G mX5_canTakeNet 26 [] [.int s0] σ (xrI rr) σ' := by
  unfold dm_X5_canTakeNet_p26 at h
  obtain ⟨c_1, h⟩ := x_chk_e h
  cases h
  exact ev_iret rfl (x_boolN c_1) dX5_canTakeNet_26
set_option maxHeartbeats 4000000 in
set_option maxRecDepth 100000 in
theorem ev_X5_canTakeNet_p25 {l : Launch} {G : xG} (hO : x_OK l G) {P : xP} (hP : x_PG P G) {a0 : Nat} {σ σ' : xS} {rr : Int32 ⊕ String} (h : dm_X5_canTakeNet_p25 P a0 σ = some (rr, σ')) : Ev l G mX5_canTakeNet 25 [] [] σ (xrI rr) σ' := by
  unfold dm_X5_canTakeNet_p25 at h
  refine ev_iconst (v := 0) dX5_canTakeNet_25 (by decide) ?_
  exact ev_sub [] rfl (ev_X5_canTakeNet_p26 hO hP h)
set_option maxHeartbeats 4000000 in
set_option maxRecDepth 100000 in
theorem ev_X5_canTakeNet {l : Launch} {G : xG} (hO : x_OK l G) {P : xP} (hP : x_PG P G) {a0 : Nat} {v1 : Int64} {σ σ' : xS} {rr : Int32 ⊕ String} (h : dm_X5_canTakeNet P a0 v1 σ = some (rr, σ')) : EvM l G mX5_canTakeNet [va_rf (some a0), .long v1] σ (xrI rr) σ' := by
  unfold dm_X5_canTakeNet at h
  refine evM_of hO (by decide +kernel) (x_lenI (by simp [x_cat, x_catI, x_catJ, mX5_canTakeNet, xM.maxL])) ?_
  refine Eq.mp (congrArg (fun z => Ev l G mX5_canTakeNet 0 z [] σ (xrI rr) σ') (show [(0, va_rf (some a0)), (1, .long v1)] = lv_args 0 [va_rf (some a0), .long v1] by simp [lv_args, x_cat, x_catI, x_catJ])) ?_
  refine ev_aload_n (j := 0) (x := (some a0)) dX5_canTakeNet_0 rfl rfl ?_
  obtain ⟨c_1, h⟩ := x_chk_e h
  refine ev_get (C := RX5) (T := TX5) (k := 4) inX5 (xE_6 c_1) rfl (by decide) wd_257 (Or.inl rfl) rfl dX5_canTakeNet_1 ?_
  refine ev_bipush (v := 16) dX5_canTakeNet_4 (by decide) ?_
  by_cases c_2 : 16 ≤ (σ.I 504 a0)
  · rw [if_pos c_2] at h
    refine ev_icmp_ge (x := (σ.I 504 a0)) (y := 16) (tgt := 25) dX5_canTakeNet_6 (by decide) (fun _ => ?_) (fun q9 => absurd c_2 q9)
    exact ev_sub [] rfl (ev_X5_canTakeNet_p25 hO hP h)
  · rw [if_neg c_2] at h
    refine ev_icmp_ge (x := (σ.I 504 a0)) (y := 16) (tgt := 25) dX5_canTakeNet_6 (by decide) (fun q9 => absurd q9 c_2) (fun _ => ?_)
    refine ev_aload_n (j := 0) (x := (some a0)) dX5_canTakeNet_9 rfl rfl ?_
    refine ev_aload_n (j := 0) (x := (some a0)) dX5_canTakeNet_10 rfl rfl ?_
    refine ev_get (C := RX5) (T := TX5) (k := 4) inX5 (xE_6 c_1) rfl (by decide) wd_257 (Or.inl rfl) rfl dX5_canTakeNet_11 ?_
    refine ev_lload_n (j := 1) (x := v1) dX5_canTakeNet_14 rfl rfl ?_
    rcases x_bind_e h with ⟨v_3, σ_4, h_5, h⟩ | ⟨E_7, σ_4, h_5, h⟩
    · have z9 := x_call (M := mX5_canTakeNet) (M' := mX5_netAmong) (pc := 15) (st := [.long v1, .int (σ.I 504 a0), va_rf (some a0)]) (rest := []) (av := [va_rf (some a0), .int (σ.I 504 a0), .long v1]) (x_linkV (M := mX5_canTakeNet) (M' := mX5_netAmong) (As := [.int (σ.I 504 a0), .long v1]) (index := 63) (C := RX5) (T := TX5) (xE_6 c_1) rfl wd_299 wd_300 wd_298 xw_X5_netAmong rfl (by decide) rfl rfl dX5_canTakeNet_15) (ev_X5_netAmong hO hP h_5) xw_X5_netAmong rfl wd_274 dX5_canTakeNet_15 (by decide) (by decide) (by simp [x_cat, x_catI, x_catJ])
      refine x_callR z9 ?_
      refine ev_at (st' := [va_rf v_3]) rfl rfl ?_
      by_cases c_6 : v_3 = none
      · rw [if_pos c_6] at h
        refine ev_ifnonnull (x := v_3) (tgt := 25) dX5_canTakeNet_18 (by decide) (fun q9 => absurd c_6 q9) (fun _ => ?_)
        refine ev_iconst (v := 1) dX5_canTakeNet_21 (by decide) ?_
        refine ev_goto (tgt := 26) dX5_canTakeNet_22 (by decide) ?_
        exact ev_sub [] rfl (ev_X5_canTakeNet_p26 hO hP h)
      · rw [if_neg c_6] at h
        refine ev_ifnonnull (x := v_3) (tgt := 25) dX5_canTakeNet_18 (by decide) (fun _ => ?_) (fun q9 => absurd q9 c_6)
        exact ev_sub [] rfl (ev_X5_canTakeNet_p25 hO hP h)
    · have z9 := x_call (M := mX5_canTakeNet) (M' := mX5_netAmong) (pc := 15) (st := [.long v1, .int (σ.I 504 a0), va_rf (some a0)]) (rest := []) (av := [va_rf (some a0), .int (σ.I 504 a0), .long v1]) (x_linkV (M := mX5_canTakeNet) (M' := mX5_netAmong) (As := [.int (σ.I 504 a0), .long v1]) (index := 63) (C := RX5) (T := TX5) (xE_6 c_1) rfl wd_299 wd_300 wd_298 xw_X5_netAmong rfl (by decide) rfl rfl dX5_canTakeNet_15) (ev_X5_netAmong hO hP h_5) xw_X5_netAmong rfl wd_274 dX5_canTakeNet_15 (by decide) (by decide) (by simp [x_cat, x_catI, x_catJ])
      cases h
      exact x_callX z9 (evX_out rfl)
set_option maxHeartbeats 4000000 in
set_option maxRecDepth 100000 in
theorem ev_X4_init {l : Launch} {G : xG} (hO : x_OK l G) {P : xP} (hP : x_PG P G) {a0 : Nat} {v1 : Int64} {v3 : Int32} {v4 : Int32} {σ σ' : xS} {rr : Unit ⊕ String} (h : dm_X4_init P a0 v1 v3 v4 σ = some (rr, σ')) : EvM l G mX4_init [va_rf (some a0), .long v1, .int v3, .int v4] σ (xrV rr) σ' := by
  unfold dm_X4_init at h
  refine evM_of hO (by decide +kernel) (x_lenI (by simp [x_cat, x_catI, x_catJ, mX4_init, xM.maxL])) ?_
  refine Eq.mp (congrArg (fun z => Ev l G mX4_init 0 z [] σ (xrV rr) σ') (show [(0, va_rf (some a0)), (1, .long v1), (3, .int v3), (4, .int v4)] = lv_args 0 [va_rf (some a0), .long v1, .int v3, .int v4] by simp [lv_args, x_cat, x_catI, x_catJ])) ?_
  refine ev_aload_n (j := 0) (x := (some a0)) dX4_init_0 rfl rfl ?_
  refine ev_objInit wd_301 wd_85 wd_86 dX4_init_1 (by decide) (by decide) ?_
  refine ev_aload_n (j := 0) (x := (some a0)) dX4_init_4 rfl rfl ?_
  refine ev_iconst (v := 0) dX4_init_5 (by decide) ?_
  obtain ⟨c_1, h⟩ := x_chk_e h
  obtain ⟨σ_2, eσ_2, h⟩ := x_let_e h
  refine ev_put (σ2 := σ_2) (C := RX4) (T := TX4) (k := 3) inX4 tyX4 tyX4_ok nmX4 (xE_5 c_1.1) rfl (by decide) wd_302 (Or.inl rfl) rfl rfl rfl rfl (Nat.le_of_ble_eq_true rfl) (hP.2.2.2.1 ▸ c_1.2) (by rw [eσ_2]; exact xP_5_3 _ c_1.1) (by rw [eσ_2]; exact xPut_I) dX4_init_6 ?_
  refine ev_aload_n (j := 0) (x := (some a0)) dX4_init_9 rfl rfl ?_
  refine ev_lload_n (j := 1) (x := v1) dX4_init_10 rfl rfl ?_
  obtain ⟨c_3, h⟩ := x_chk_e h
  obtain ⟨σ_4, eσ_4, h⟩ := x_let_e h
  refine ev_putF (σ2 := σ_4) (C := RX4) (T := TX4) (k := 0) inX4 tyX4 tyX4_ok nmX4 (xE_5 c_3.1) rfl (by decide) wd_303 (Or.inl rfl) rfl rfl rfl rfl rfl rfl (Nat.le_of_ble_eq_true rfl) (hP.2.2.2.1 ▸ c_3.2) (by rw [eσ_4]; exact xP_5_0 _ c_3.1) (by rw [eσ_4]; exact xPut_J) dX4_init_11 ?_
  refine ev_aload_n (j := 0) (x := (some a0)) dX4_init_14 rfl rfl ?_
  refine ev_iload_n (j := 2) (x := v3) dX4_init_15 rfl rfl ?_
  obtain ⟨c_5, h⟩ := x_chk_e h
  obtain ⟨σ_6, eσ_6, h⟩ := x_let_e h
  refine ev_put (σ2 := σ_6) (C := RX4) (T := TX4) (k := 1) inX4 tyX4 tyX4_ok nmX4 (xE_5 c_5.1) rfl (by decide) wd_304 (Or.inl rfl) rfl rfl rfl rfl (Nat.le_of_ble_eq_true rfl) (hP.2.2.2.1 ▸ c_5.2) (by rw [eσ_6]; exact xP_5_1 _ c_5.1) (by rw [eσ_6]; exact xPut_I) dX4_init_16 ?_
  refine ev_aload_n (j := 0) (x := (some a0)) dX4_init_19 rfl rfl ?_
  refine ev_iload (j := 3) (x := v4) dX4_init_20 rfl ?_
  obtain ⟨c_7, h⟩ := x_chk_e h
  obtain ⟨σ_8, eσ_8, h⟩ := x_let_e h
  refine ev_put (σ2 := σ_8) (C := RX4) (T := TX4) (k := 2) inX4 tyX4 tyX4_ok nmX4 (xE_5 c_7.1) rfl (by decide) wd_305 (Or.inl rfl) rfl rfl rfl rfl (Nat.le_of_ble_eq_true rfl) (hP.2.2.2.1 ▸ c_7.2) (by rw [eσ_8]; exact xP_5_2 _ c_7.1) (by rw [eσ_8]; exact xPut_I) dX4_init_22 ?_
  cases h
  exact ev_vret rfl dX4_init_25
set_option maxHeartbeats 4000000 in
set_option maxRecDepth 100000 in
theorem ev_X5_addNet_p95 {l : Launch} {G : xG} (hO : x_OK l G) {P : xP} (hP : x_PG P G) {a0 : Nat} {s0 : Option Nat} {s1 : Int32} {s2 : Int32} {σ σ' : xS} {rr : Unit ⊕ String} (h : dm_X5_addNet_p95 P a0 s0 s1 s2 σ = some (rr, σ')) : Ev l G mX5_addNet 95 [] [.int s2, .int s1, va_rf s0] σ (xrV rr) σ' := by
  unfold dm_X5_addNet_p95 at h
  refine ev_iadd (x := s1) (y := s2) dX5_addNet_95 ?_
  obtain ⟨a_1, ea_1, h⟩ := x_some_e h
  refine ev_at (st' := [.int (s1 + s2), va_rf (some a_1)]) rfl (by rw [ea_1]) ?_
  obtain ⟨c_2, h⟩ := x_chk_e h
  obtain ⟨σ_3, eσ_3, h⟩ := x_let_e h
  refine ev_put (σ2 := σ_3) (C := RX5) (T := TX5) (k := 5) inX5 tyX5 tyX5_ok nmX5 (xE_6 c_2.1) rfl (by decide) wd_258 (Or.inl rfl) rfl rfl rfl rfl (Nat.le_of_ble_eq_true rfl) (hP.2.2.2.1 ▸ c_2.2) (by rw [eσ_3]; exact xP_6_5 _ c_2.1) (by rw [eσ_3]; exact xPut_I) dX5_addNet_96 ?_
  cases h
  exact ev_vret rfl dX5_addNet_99
set_option maxHeartbeats 4000000 in
set_option maxRecDepth 100000 in
theorem ev_X5_addNet_L35 {l : Launch} {G : xG} (hO : x_OK l G) {P : xP} (hP : x_PG P G) {a0 : Nat} : ∀ (n : Nat) {v1 : Option Nat} {v2 : Int32} {v3 : Int32} {σ σ' : xS} {rr : Unit ⊕ String}, dm_X5_addNet_L35 P a0 n v1 v2 v3 σ = some (rr, σ') → Ev l G mX5_addNet 35 [(0, va_rf (some a0)), (1, va_rf v1), (2, .int v2), (3, .int v3)] [] σ (xrV rr) σ' := by
  intro n
  induction n with
  | zero => intro v1 v2 v3 σ σ' rr h; cases h
  | succ n ih =>
    intro v1 v2 v3 σ σ' rr h
    rw [dm_X5_addNet_L35] at h
    refine ev_iload_n (j := 3) (x := v3) dX5_addNet_35 rfl rfl ?_
    refine ev_iload_n (j := 2) (x := v2) dX5_addNet_36 rfl rfl ?_
    by_cases c_1 : v3 ≤ v2
    · rw [if_pos c_1] at h
      refine ev_icmp_le (x := v3) (y := v2) (tgt := 60) dX5_addNet_37 (by decide) (fun _ => ?_) (fun q9 => absurd c_1 q9)
      refine ev_aload_n (j := 0) (x := (some a0)) dX5_addNet_60 rfl rfl ?_
      obtain ⟨c_2, h⟩ := x_chk_e h
      refine ev_get (C := RX5) (T := TX5) (k := 3) inX5 (xE_6 c_2) rfl (by decide) wd_256 (Or.inl rfl) rfl dX5_addNet_61 ?_
      refine ev_iload_n (j := 2) (x := v2) dX5_addNet_64 rfl rfl ?_
      refine ev_aload_n (j := 1) (x := v1) dX5_addNet_65 rfl rfl ?_
      obtain ⟨a_3, ea_3, h⟩ := x_some_e h
      refine ev_at (st' := [va_rf v1, .int v2, va_rf (some a_3)]) rfl (by rw [ea_3]) ?_
      obtain ⟨c_4, h⟩ := x_chk_e h
      obtain ⟨σ_5, eσ_5, h⟩ := x_let_e h
      refine ev_aast_26 c_4.1 c_4.2.1 (hP.2.2.2.1 ▸ c_4.2.2.1) (x_kind_e c_4.2.2.2) dX5_addNet_66 (eσ_5 ▸ ?_)
      refine ev_aload_n (j := 0) (x := (some a0)) dX5_addNet_67 rfl rfl ?_
      refine ev_dup dX5_addNet_68 (x_cat _) ?_
      obtain ⟨c_6, h⟩ := x_chk_e h
      refine ev_get (C := RX5) (T := TX5) (k := 4) inX5 (xE_6 c_6) rfl (by decide) wd_257 (Or.inl rfl) rfl dX5_addNet_69 ?_
      refine ev_iconst (v := 1) dX5_addNet_72 (by decide) ?_
      refine ev_iadd (x := (σ_5.I 504 a0)) (y := 1) dX5_addNet_73 ?_
      obtain ⟨c_7, h⟩ := x_chk_e h
      obtain ⟨σ_8, eσ_8, h⟩ := x_let_e h
      refine ev_put (σ2 := σ_8) (C := RX5) (T := TX5) (k := 4) inX5 tyX5 tyX5_ok nmX5 (xE_6 c_7.1) rfl (by decide) wd_257 (Or.inl rfl) rfl rfl rfl rfl (Nat.le_of_ble_eq_true rfl) (hP.2.2.2.1 ▸ c_7.2) (by rw [eσ_8]; exact xP_6_4 _ c_7.1) (by rw [eσ_8]; exact xPut_I) dX5_addNet_74 ?_
      refine ev_aload_n (j := 0) (x := (some a0)) dX5_addNet_77 rfl rfl ?_
      refine ev_dup dX5_addNet_78 (x_cat _) ?_
      obtain ⟨c_9, h⟩ := x_chk_e h
      refine ev_get (C := RX5) (T := TX5) (k := 5) inX5 (xE_6 c_9) rfl (by decide) wd_258 (Or.inl rfl) rfl dX5_addNet_79 ?_
      refine ev_aload_n (j := 1) (x := v1) dX5_addNet_82 rfl rfl ?_
      obtain ⟨a_10, ea_10, h⟩ := x_some_e h
      refine ev_at (st' := [va_rf (some a_10), .int (σ_8.I 505 a0), va_rf (some a0)]) rfl (by rw [ea_10]) ?_
      obtain ⟨c_11, h⟩ := x_chk_e h
      refine ev_get (C := RX4) (T := TX4) (k := 1) inX4 (xE_5 c_11) rfl (by decide) wd_306 (Or.inl rfl) rfl dX5_addNet_83 ?_
      refine ev_iconst (v := 2) dX5_addNet_86 (by decide) ?_
      by_cases c_12 : (σ_8.I 401 a_10) = 2
      · rw [if_pos c_12] at h
        refine ev_icmp_ne (x := (σ_8.I 401 a_10)) (y := 2) (tgt := 94) dX5_addNet_87 (by decide) (fun q9 => absurd c_12 q9) (fun _ => ?_)
        refine ev_iconst (v := 0) dX5_addNet_90 (by decide) ?_
        refine ev_goto (tgt := 95) dX5_addNet_91 (by decide) ?_
        exact ev_sub [] rfl (ev_X5_addNet_p95 hO hP h)
      · rw [if_neg c_12] at h
        refine ev_icmp_ne (x := (σ_8.I 401 a_10)) (y := 2) (tgt := 94) dX5_addNet_87 (by decide) (fun _ => ?_) (fun q9 => absurd q9 c_12)
        refine ev_iconst (v := 1) dX5_addNet_94 (by decide) ?_
        exact ev_sub [] rfl (ev_X5_addNet_p95 hO hP h)
    · rw [if_neg c_1] at h
      refine ev_icmp_le (x := v3) (y := v2) (tgt := 60) dX5_addNet_37 (by decide) (fun q9 => absurd q9 c_1) (fun _ => ?_)
      refine ev_aload_n (j := 0) (x := (some a0)) dX5_addNet_40 rfl rfl ?_
      obtain ⟨c_13, h⟩ := x_chk_e h
      refine ev_get (C := RX5) (T := TX5) (k := 3) inX5 (xE_6 c_13) rfl (by decide) wd_256 (Or.inl rfl) rfl dX5_addNet_41 ?_
      refine ev_iload_n (j := 3) (x := v3) dX5_addNet_44 rfl rfl ?_
      refine ev_aload_n (j := 0) (x := (some a0)) dX5_addNet_45 rfl rfl ?_
      refine ev_get (C := RX5) (T := TX5) (k := 3) inX5 (xE_6 c_13) rfl (by decide) wd_256 (Or.inl rfl) rfl dX5_addNet_46 ?_
      refine ev_iload_n (j := 3) (x := v3) dX5_addNet_49 rfl rfl ?_
      refine ev_iconst (v := 1) dX5_addNet_50 (by decide) ?_
      refine ev_isub (x := v3) (y := 1) dX5_addNet_51 ?_
      obtain ⟨a_14, ea_14, h⟩ := x_some_e h
      refine ev_at (st' := [.int (v3 - 1), va_rf (some a_14), .int v3, va_rf (σ.R 503 a0)]) rfl (by rw [ea_14]) ?_
      obtain ⟨c_15, h⟩ := x_chk_e h
      refine ev_aald_26 c_15.1 c_15.2 dX5_addNet_52 ?_
      refine ev_at (st' := [va_rf (σ.AR a_14 (Int32.toNatClampNeg (v3 - 1))), .int v3, va_rf (some a_14)]) rfl (by rw [ea_14]) ?_
      obtain ⟨c_16, h⟩ := x_chk_e h
      obtain ⟨σ_17, eσ_17, h⟩ := x_let_e h
      refine ev_aast_26 c_16.1 c_16.2.1 (hP.2.2.2.1 ▸ c_16.2.2.1) (x_kind_e c_16.2.2.2) dX5_addNet_53 (eσ_17 ▸ ?_)
      obtain ⟨v_18, ev_18, h⟩ := x_let_e h
      refine ev_iinc (j := 3) (x := v3) (v := v_18) (lv' := [(3, .int v_18), (0, va_rf (some a0)), (1, va_rf v1), (2, .int v2)]) dX5_addNet_54 rfl (by rw [ev_18]; rfl) (by decide) rfl ?_
      refine ev_goto (tgt := 35) dX5_addNet_57 (by decide) ?_
      exact ev_sub [1, 2, 3, 0] rfl (ih h)
set_option maxHeartbeats 4000000 in
set_option maxRecDepth 100000 in
theorem ev_X5_addNet_p29 {l : Launch} {G : xG} (hO : x_OK l G) {P : xP} (hP : x_PG P G) {a0 : Nat} {v1 : Option Nat} {s0 : Int32} {σ σ' : xS} {rr : Unit ⊕ String} (h : dm_X5_addNet_p29 P a0 v1 s0 σ = some (rr, σ')) : Ev l G mX5_addNet 29 [(0, va_rf (some a0)), (1, va_rf v1)] [.int s0] σ (xrV rr) σ' := by
  unfold dm_X5_addNet_p29 at h
  refine ev_istore_n (i := 2) (lv' := [(2, .int s0), (0, va_rf (some a0)), (1, va_rf v1)]) dX5_addNet_29 rfl (by decide) (by simp [x_cat, x_catI, x_catJ]) ?_
  refine ev_aload_n (j := 1) (x := (some a0)) dX5_addNet_30 rfl rfl ?_
  obtain ⟨c_1, h⟩ := x_chk_e h
  refine ev_get (C := RX5) (T := TX5) (k := 4) inX5 (xE_6 c_1) rfl (by decide) wd_257 (Or.inl rfl) rfl dX5_addNet_31 ?_
  obtain ⟨v_2, ev_2, h⟩ := x_let_e h
  rw [← ev_2]
  refine ev_istore_n (i := 3) (lv' := [(3, .int v_2), (2, .int s0), (0, va_rf (some a0)), (1, va_rf v1)]) dX5_addNet_34 rfl (by decide) rfl ?_
  exact ev_sub [2, 3, 1, 0] rfl (ev_X5_addNet_L35 hO hP P.N h)
set_option maxHeartbeats 4000000 in
set_option maxRecDepth 100000 in
theorem ev_X5_addNet {l : Launch} {G : xG} (hO : x_OK l G) {P : xP} (hP : x_PG P G) {a0 : Nat} {v1 : Option Nat} {σ σ' : xS} {rr : Unit ⊕ String} (h : dm_X5_addNet P a0 v1 σ = some (rr, σ')) : EvM l G mX5_addNet [va_rf (some a0), va_rf v1] σ (xrV rr) σ' := by
  unfold dm_X5_addNet at h
  refine evM_of hO (by decide +kernel) (x_lenI (by simp [x_cat, x_catI, x_catJ, mX5_addNet, xM.maxL])) ?_
  refine Eq.mp (congrArg (fun z => Ev l G mX5_addNet 0 z [] σ (xrV rr) σ') (show [(0, va_rf (some a0)), (1, va_rf v1)] = lv_args 0 [va_rf (some a0), va_rf v1] by simp [lv_args, x_cat, x_catI, x_catJ])) ?_
  refine ev_aload_n (j := 0) (x := (some a0)) dX5_addNet_0 rfl rfl ?_
  obtain ⟨c_1, h⟩ := x_chk_e h
  refine ev_get (C := RX5) (T := TX5) (k := 4) inX5 (xE_6 c_1) rfl (by decide) wd_257 (Or.inl rfl) rfl dX5_addNet_1 ?_
  refine ev_bipush (v := 16) dX5_addNet_4 (by decide) ?_
  by_cases c_2 : (σ.I 504 a0) < 16
  · rw [if_pos c_2] at h
    refine ev_icmp_lt (x := (σ.I 504 a0)) (y := 16) (tgt := 10) dX5_addNet_6 (by decide) (fun _ => ?_) (fun q9 => absurd c_2 q9)
    refine ev_aload_n (j := 1) (x := v1) dX5_addNet_10 rfl rfl ?_
    obtain ⟨a_3, ea_3, h⟩ := x_some_e h
    refine ev_at (st' := [va_rf (some a_3)]) rfl (by rw [ea_3]) ?_
    obtain ⟨c_4, h⟩ := x_chk_e h
    refine ev_get (C := RX4) (T := TX4) (k := 1) inX4 (xE_5 c_4) rfl (by decide) wd_306 (Or.inl rfl) rfl dX5_addNet_11 ?_
    refine ev_iconst (v := 2) dX5_addNet_14 (by decide) ?_
    by_cases c_5 : (σ.I 401 a_3) = 2
    · rw [if_pos c_5] at h
      refine ev_icmp_ne (x := (σ.I 401 a_3)) (y := 2) (tgt := 25) dX5_addNet_15 (by decide) (fun q9 => absurd c_5 q9) (fun _ => ?_)
      refine ev_aload_n (j := 0) (x := (some a0)) dX5_addNet_18 rfl rfl ?_
      refine ev_get (C := RX5) (T := TX5) (k := 4) inX5 (xE_6 c_1) rfl (by decide) wd_257 (Or.inl rfl) rfl dX5_addNet_19 ?_
      refine ev_goto (tgt := 29) dX5_addNet_22 (by decide) ?_
      exact ev_sub [0, 1] rfl (ev_X5_addNet_p29 hO hP h)
    · rw [if_neg c_5] at h
      refine ev_icmp_ne (x := (σ.I 401 a_3)) (y := 2) (tgt := 25) dX5_addNet_15 (by decide) (fun _ => ?_) (fun q9 => absurd q9 c_5)
      refine ev_aload_n (j := 0) (x := (some a0)) dX5_addNet_25 rfl rfl ?_
      refine ev_get (C := RX5) (T := TX5) (k := 5) inX5 (xE_6 c_1) rfl (by decide) wd_258 (Or.inl rfl) rfl dX5_addNet_26 ?_
      exact ev_sub [0, 1] rfl (ev_X5_addNet_p29 hO hP h)
  · rw [if_neg c_2] at h
    refine ev_icmp_lt (x := (σ.I 504 a0)) (y := 16) (tgt := 10) dX5_addNet_6 (by decide) (fun q9 => absurd q9 c_2) (fun _ => ?_)
    cases h
    exact ev_vret rfl dX5_addNet_9
set_option maxHeartbeats 4000000 in
set_option maxRecDepth 100000 in
theorem ev_X10_skips_p48 {l : Launch} {G : xG} (hO : x_OK l G) {P : xP} (hP : x_PG P G) {a0 : Nat} {v2 : Int32} {σ σ' : xS} {rr : Int32 ⊕ String} (h : dm_X10_skips_p48 P a0 v2 σ = some (rr, σ')) : Ev l G mX10_skips 48 [(2, .int v2)] [] σ (xrI rr) σ' := by
  unfold dm_X10_skips_p48 at h
  refine ev_iload_n (j := 0) (x := v2) dX10_skips_48 rfl rfl ?_
  obtain ⟨c_1, h⟩ := x_chk_e h
  cases h
  exact ev_iret rfl (x_boolN c_1) dX10_skips_49
set_option maxHeartbeats 4000000 in
set_option maxRecDepth 100000 in
theorem ev_X10_skips_p33 {l : Launch} {G : xG} (hO : x_OK l G) {P : xP} (hP : x_PG P G) {a0 : Nat} {s0 : Int32} {σ σ' : xS} {rr : Int32 ⊕ String} (h : dm_X10_skips_p33 P a0 s0 σ = some (rr, σ')) : Ev l G mX10_skips 33 [(0, va_rf (some a0))] [.int s0] σ (xrI rr) σ' := by
  unfold dm_X10_skips_p33 at h
  refine ev_istore_n (i := 2) (lv' := [(2, .int s0), (0, va_rf (some a0))]) dX10_skips_33 rfl (by decide) rfl ?_
  refine ev_iload_n (j := 0) (x := s0) dX10_skips_34 rfl rfl ?_
  by_cases c_1 : s0 = 0
  · rw [if_pos c_1] at h
    refine ev_if_eq (x := s0) (tgt := 48) dX10_skips_35 (by decide) (fun _ => ?_) (fun q9 => absurd c_1 q9)
    exact ev_sub [0] rfl (ev_X10_skips_p48 hO hP h)
  · rw [if_neg c_1] at h
    refine ev_if_eq (x := s0) (tgt := 48) dX10_skips_35 (by decide) (fun q9 => absurd q9 c_1) (fun _ => ?_)
    refine ev_aload_n (j := 1) (x := (some a0)) dX10_skips_38 rfl rfl ?_
    refine ev_dup dX10_skips_39 (x_cat _) ?_
    obtain ⟨c_2, h⟩ := x_chk_e h
    refine ev_get (C := RX10) (T := TX10) (k := 6) inX10 (xE_10 c_2) rfl (by decide) wd_96 (Or.inl rfl) rfl dX10_skips_40 ?_
    refine ev_iconst (v := 1) dX10_skips_43 (by decide) ?_
    refine ev_iadd (x := (σ.I 906 a0)) (y := 1) dX10_skips_44 ?_
    obtain ⟨c_3, h⟩ := x_chk_e h
    obtain ⟨σ_4, eσ_4, h⟩ := x_let_e h
    refine ev_put (σ2 := σ_4) (C := RX10) (T := TX10) (k := 6) inX10 tyX10 tyX10_ok nmX10 (xE_10 c_3.1) rfl (by decide) wd_96 (Or.inl rfl) rfl rfl rfl rfl (Nat.le_of_ble_eq_true rfl) (hP.2.2.2.1 ▸ c_3.2) (by rw [eσ_4]; exact xP_10_6 _ c_3.1) (by rw [eσ_4]; exact xPut_I) dX10_skips_45 ?_
    exact ev_sub [0] rfl (ev_X10_skips_p48 hO hP h)
set_option maxHeartbeats 4000000 in
set_option maxRecDepth 100000 in
theorem ev_X10_skips_p32 {l : Launch} {G : xG} (hO : x_OK l G) {P : xP} (hP : x_PG P G) {a0 : Nat} {σ σ' : xS} {rr : Int32 ⊕ String} (h : dm_X10_skips_p32 P a0 σ = some (rr, σ')) : Ev l G mX10_skips 32 [(0, va_rf (some a0))] [] σ (xrI rr) σ' := by
  unfold dm_X10_skips_p32 at h
  refine ev_iconst (v := 0) dX10_skips_32 (by decide) ?_
  exact ev_sub [0] rfl (ev_X10_skips_p33 hO hP h)
set_option maxHeartbeats 4000000 in
set_option maxRecDepth 100000 in
theorem ev_X10_skips {l : Launch} {G : xG} (hO : x_OK l G) {P : xP} (hP : x_PG P G) {a0 : Nat} {v1 : Int32} {σ σ' : xS} {rr : Int32 ⊕ String} (h : dm_X10_skips P a0 v1 σ = some (rr, σ')) : EvM l G mX10_skips [va_rf (some a0), .int v1] σ (xrI rr) σ' := by
  unfold dm_X10_skips at h
  refine evM_of hO (by decide +kernel) (x_lenI (by simp [x_cat, x_catI, x_catJ, mX10_skips, xM.maxL])) ?_
  refine Eq.mp (congrArg (fun z => Ev l G mX10_skips 0 z [] σ (xrI rr) σ') (show [(0, va_rf (some a0)), (1, .int v1)] = lv_args 0 [va_rf (some a0), .int v1] by simp [lv_args, x_cat, x_catI, x_catJ])) ?_
  refine ev_aload_n (j := 0) (x := (some a0)) dX10_skips_0 rfl rfl ?_
  obtain ⟨c_1, h⟩ := x_chk_e h
  refine ev_get (C := RX10) (T := TX10) (k := 3) inX10 (xE_10 c_1) rfl (by decide) wd_92 (Or.inl rfl) rfl dX10_skips_1 ?_
  refine ev_aload_n (j := 0) (x := (some a0)) dX10_skips_4 rfl rfl ?_
  refine ev_get (C := RX10) (T := TX10) (k := 6) inX10 (xE_10 c_1) rfl (by decide) wd_96 (Or.inl rfl) rfl dX10_skips_5 ?_
  obtain ⟨a_2, ea_2, h⟩ := x_some_e h
  refine ev_at (st' := [.int (σ.I 906 a0), va_rf (some a_2)]) rfl (by rw [ea_2]) ?_
  obtain ⟨c_3, h⟩ := x_chk_e h
  refine ev_iald c_3.1 c_3.2 dX10_skips_8 ?_
  refine ev_iconst (v := 3) dX10_skips_9 (by decide) ?_
  by_cases c_4 : (σ.AI a_2 (Int32.toNatClampNeg (σ.I 906 a0))) = 3
  · rw [if_pos c_4] at h
    refine ev_icmp_ne (x := (σ.AI a_2 (Int32.toNatClampNeg (σ.I 906 a0)))) (y := 3) (tgt := 32) dX10_skips_10 (by decide) (fun q9 => absurd c_4 q9) (fun _ => ?_)
    refine ev_aload_n (j := 0) (x := (some a0)) dX10_skips_13 rfl rfl ?_
    refine ev_get (C := RX10) (T := TX10) (k := 4) inX10 (xE_10 c_1) rfl (by decide) wd_94 (Or.inl rfl) rfl dX10_skips_14 ?_
    refine ev_aload_n (j := 0) (x := (some a0)) dX10_skips_17 rfl rfl ?_
    refine ev_get (C := RX10) (T := TX10) (k := 6) inX10 (xE_10 c_1) rfl (by decide) wd_96 (Or.inl rfl) rfl dX10_skips_18 ?_
    obtain ⟨a_5, ea_5, h⟩ := x_some_e h
    refine ev_at (st' := [.int (σ.I 906 a0), va_rf (some a_5)]) rfl (by rw [ea_5]) ?_
    obtain ⟨c_6, h⟩ := x_chk_e h
    refine ev_lald c_6.1 c_6.2 dX10_skips_21 ?_
    refine ev_iload_n (j := 1) (x := v1) dX10_skips_22 rfl rfl ?_
    refine ev_i2l (x := v1) dX10_skips_23 ?_
    refine ev_lcmp (x := (σ.AJ a_5 (Int32.toNatClampNeg (σ.I 906 a0)))) (y := (Int32.toInt64 v1)) dX10_skips_24 ?_
    by_cases c_7 : (lg_cmp (σ.AJ a_5 (Int32.toNatClampNeg (σ.I 906 a0))) (Int32.toInt64 v1)) = 0
    · rw [if_pos c_7] at h
      refine ev_if_ne (x := (lg_cmp (σ.AJ a_5 (Int32.toNatClampNeg (σ.I 906 a0))) (Int32.toInt64 v1))) (tgt := 32) dX10_skips_25 (by decide) (fun q9 => absurd c_7 q9) (fun _ => ?_)
      refine ev_iconst (v := 1) dX10_skips_28 (by decide) ?_
      refine ev_goto (tgt := 33) dX10_skips_29 (by decide) ?_
      exact ev_sub [0] rfl (ev_X10_skips_p33 hO hP h)
    · rw [if_neg c_7] at h
      refine ev_if_ne (x := (lg_cmp (σ.AJ a_5 (Int32.toNatClampNeg (σ.I 906 a0))) (Int32.toInt64 v1))) (tgt := 32) dX10_skips_25 (by decide) (fun _ => ?_) (fun q9 => absurd q9 c_7)
      exact ev_sub [0] rfl (ev_X10_skips_p32 hO hP h)
  · rw [if_neg c_4] at h
    refine ev_icmp_ne (x := (σ.AI a_2 (Int32.toNatClampNeg (σ.I 906 a0)))) (y := 3) (tgt := 32) dX10_skips_10 (by decide) (fun _ => ?_) (fun q9 => absurd q9 c_4)
    exact ev_sub [0] rfl (ev_X10_skips_p32 hO hP h)
set_option maxHeartbeats 4000000 in
set_option maxRecDepth 100000 in
theorem ev_X3_readHead_p80 {l : Launch} {G : xG} (hO : x_OK l G) {P : xP} (hP : x_PG P G) {a0 : Nat} {k42 : Int32 → Int32 → xS → xO Unit} (hk42 : ∀ {v1 : Int32} {v2 : Int32} {σ σ' : xS} {rr : Unit ⊕ String}, k42 v1 v2 σ = some (rr, σ') → Ev l G mX3_readHead 42 [(0, va_rf (some a0)), (1, .int v1), (2, .int v2)] [] σ (xrV rr) σ') {v2 : Int32} {v3 : Int64} {s0 : Option Nat} {s1 : Int32} {σ σ' : xS} {rr : Unit ⊕ String} (h : dm_X3_readHead_p80 P k42 a0 v2 v3 s0 s1 σ = some (rr, σ')) : Ev l G mX3_readHead 80 [(0, va_rf (some a0)), (2, .int v2), (3, .long v3)] [.int s1, va_rf s0] σ (xrV rr) σ' := by
  unfold dm_X3_readHead_p80 at h
  obtain ⟨a_1, ea_1, h⟩ := x_some_e h
  refine ev_at (st' := [.int s1, va_rf (some a_1)]) rfl (by rw [ea_1]) ?_
  obtain ⟨c_5, h⟩ := x_chk_e h
  rcases x_bind_e h with ⟨v_2, σ_3, h_4, h⟩ | ⟨E_34, σ_3, h_4, h⟩
  · have z9 := x_call (M := mX3_readHead) (M' := mX10_refuseIf) (pc := 80) (st := [.int s1, va_rf (some a_1)]) (rest := []) (av := [va_rf (some a_1), .int s1]) (x_linkV (M := mX3_readHead) (M' := mX10_refuseIf) (As := [.int s1]) (index := 55) (C := RX10) (T := TX10) (xE_10 c_5) rfl wd_333 wd_243 wd_241 xw_X10_refuseIf rfl (by decide) rfl rfl dX3_readHead_80) (ev_X10_refuseIf hO hP h_4) xw_X10_refuseIf rfl wd_118 dX3_readHead_80 (by decide) (by decide) (by simp [x_cat, x_catI, x_catJ])
    refine x_callR z9 ?_
    refine ev_at (st' := []) rfl rfl ?_
    refine ev_aload_n (j := 0) (x := (some a0)) dX3_readHead_83 rfl rfl ?_
    obtain ⟨c_6, h⟩ := x_chk_e h
    refine ev_get (C := RX3) (T := TX3) (k := 2) inX3 (xE_4 c_6) rfl (by decide) wd_328 (Or.inr wd_327) rfl dX3_readHead_84 ?_
    obtain ⟨c_7, h⟩ := x_chk_e h
    obtain ⟨σ_8, eσ_8, h⟩ := x_let_e h
    refine ev_new (C := RX4) (T := TX4) (N := 4) (ci := 4) inX4 tyX4 tyX4_ok rfl (by decide) wd_334 wd_335 wd_336 (hP.2.1 ▸ c_7.1) (hP.2.2.1 ▸ c_7.2) (nE_5 _ _) nF_5 dX3_readHead_87 (eσ_8 ▸ ?_)
    refine ev_dup dX3_readHead_90 (x_cat _) ?_
    refine ev_lload_n (j := 2) (x := v3) dX3_readHead_91 rfl rfl ?_
    refine ev_iconst (v := -1) dX3_readHead_92 (by decide) ?_
    refine ev_iconst (v := 0) dX3_readHead_93 (by decide) ?_
    rcases x_bind_e h with ⟨v_9, σ_10, h_11, h⟩ | ⟨E_33, σ_10, h_11, h⟩
    · have z9 := x_call (M := mX3_readHead) (M' := mX4_init) (pc := 94) (st := [.int 0, .int (-1), .long v3, va_rf (some σ_3.sz), va_rf (some σ_3.sz), va_rf (σ_3.R 302 a0)]) (rest := [va_rf (some σ_3.sz), va_rf (σ_3.R 302 a0)]) (av := [va_rf (some σ_3.sz), .long v3, .int (-1), .int 0]) (x_linkI (M := mX3_readHead) (M' := mX4_init) (As := [.long v3, .int (-1), .int 0]) (index := 92) (b := σ_3.sz) rfl wd_338 wd_339 wd_337 (by decide) rfl rfl dX3_readHead_94) (ev_X4_init hO hP h_11) xw_X4_init rfl wd_336 dX3_readHead_94 (by decide) (by decide) (by simp [x_cat, x_catI, x_catJ])
      refine x_callR z9 ?_
      refine ev_at (st' := [va_rf (some σ_3.sz), va_rf (σ_3.R 302 a0)]) rfl rfl ?_
      obtain ⟨a_12, ea_12, h⟩ := x_some_e h
      refine ev_at (st' := [va_rf (some σ_3.sz), va_rf (some a_12)]) rfl (by rw [ea_12]) ?_
      obtain ⟨c_16, h⟩ := x_chk_e h
      rcases x_bind_e h with ⟨v_13, σ_14, h_15, h⟩ | ⟨E_32, σ_14, h_15, h⟩
      · have z9 := x_call (M := mX3_readHead) (M' := mX5_addNet) (pc := 97) (st := [va_rf (some σ_3.sz), va_rf (some a_12)]) (rest := []) (av := [va_rf (some a_12), va_rf (some σ_3.sz)]) (x_linkV (M := mX3_readHead) (M' := mX5_addNet) (As := [va_rf (some σ_3.sz)]) (index := 95) (C := RX5) (T := TX5) (xE_6 c_16) rfl wd_342 wd_343 wd_341 xw_X5_addNet rfl (by decide) rfl rfl dX3_readHead_97) (ev_X5_addNet hO hP h_15) xw_X5_addNet rfl wd_274 dX3_readHead_97 (by decide) (by decide) (by simp [x_cat, x_catI, x_catJ])
        refine x_callR z9 ?_
        refine ev_at (st' := []) rfl rfl ?_
        refine ev_aload_n (j := 0) (x := (some a0)) dX3_readHead_100 rfl rfl ?_
        obtain ⟨c_17, h⟩ := x_chk_e h
        refine ev_get (C := RX3) (T := TX3) (k := 0) inX3 (xE_4 c_17) rfl (by decide) wd_308 (Or.inr wd_307) rfl dX3_readHead_101 ?_
        obtain ⟨a_18, ea_18, h⟩ := x_some_e h
        refine ev_at (st' := [va_rf (some a_18)]) rfl (by rw [ea_18]) ?_
        obtain ⟨c_22, h⟩ := x_chk_e h
        rcases x_bind_e h with ⟨v_19, σ_20, h_21, h⟩ | ⟨E_31, σ_20, h_21, h⟩
        · have z9 := x_call (M := mX3_readHead) (M' := mX10_step) (pc := 104) (st := [va_rf (some a_18)]) (rest := []) (av := [va_rf (some a_18)]) (x_linkV (M := mX3_readHead) (M' := mX10_step) (As := []) (index := 58) (C := RX10) (T := TX10) (xE_10 c_22) rfl wd_344 wd_247 wd_245 xw_X10_step rfl (by decide) rfl rfl dX3_readHead_104) (ev_X10_step hO hP h_21) xw_X10_step rfl wd_118 dX3_readHead_104 (by decide) (by decide) (by simp [x_cat, x_catI, x_catJ])
          refine x_callR z9 ?_
          refine ev_at (st' := []) rfl rfl ?_
          refine ev_aload_n (j := 0) (x := (some a0)) dX3_readHead_107 rfl rfl ?_
          obtain ⟨c_23, h⟩ := x_chk_e h
          refine ev_get (C := RX3) (T := TX3) (k := 0) inX3 (xE_4 c_23) rfl (by decide) wd_308 (Or.inr wd_307) rfl dX3_readHead_108 ?_
          refine ev_bipush (v := 44) dX3_readHead_111 (by decide) ?_
          obtain ⟨a_24, ea_24, h⟩ := x_some_e h
          refine ev_at (st' := [.int 44, va_rf (some a_24)]) rfl (by rw [ea_24]) ?_
          obtain ⟨c_28, h⟩ := x_chk_e h
          rcases x_bind_e h with ⟨v_25, σ_26, h_27, h⟩ | ⟨E_30, σ_26, h_27, h⟩
          · have z9 := x_call (M := mX3_readHead) (M' := mX10_skips) (pc := 113) (st := [.int 44, va_rf (some a_24)]) (rest := []) (av := [va_rf (some a_24), .int 44]) (x_linkV (M := mX3_readHead) (M' := mX10_skips) (As := [.int 44]) (index := 99) (C := RX10) (T := TX10) (xE_10 c_28) rfl wd_347 wd_348 wd_346 xw_X10_skips rfl (by decide) rfl rfl dX3_readHead_113) (ev_X10_skips hO hP h_27) xw_X10_skips rfl wd_118 dX3_readHead_113 (by decide) (by decide) (by simp [x_cat, x_catI, x_catJ])
            refine x_callR z9 ?_
            refine ev_at (st' := [.int v_25]) rfl rfl ?_
            refine ev_istore_n (i := 1) (lv' := [(1, .int v_25), (0, va_rf (some a0)), (2, .int v2), (3, .long v3)]) dX3_readHead_116 rfl (by decide) (by simp [x_cat, x_catI, x_catJ]) ?_
            obtain ⟨v_29, ev_29, h⟩ := x_let_e h
            refine ev_iinc (j := 2) (x := v2) (v := v_29) (lv' := [(2, .int v_29), (1, .int v_25), (0, va_rf (some a0)), (3, .long v3)]) dX3_readHead_117 rfl (by rw [ev_29]; rfl) (by decide) rfl ?_
            refine ev_goto (tgt := 42) dX3_readHead_120 (by decide) ?_
            exact ev_sub [2, 1, 0] rfl (hk42 h)
          · have z9 := x_call (M := mX3_readHead) (M' := mX10_skips) (pc := 113) (st := [.int 44, va_rf (some a_24)]) (rest := []) (av := [va_rf (some a_24), .int 44]) (x_linkV (M := mX3_readHead) (M' := mX10_skips) (As := [.int 44]) (index := 99) (C := RX10) (T := TX10) (xE_10 c_28) rfl wd_347 wd_348 wd_346 xw_X10_skips rfl (by decide) rfl rfl dX3_readHead_113) (ev_X10_skips hO hP h_27) xw_X10_skips rfl wd_118 dX3_readHead_113 (by decide) (by decide) (by simp [x_cat, x_catI, x_catJ])
            cases h
            exact x_callX z9 (evX_out rfl)
        · have z9 := x_call (M := mX3_readHead) (M' := mX10_step) (pc := 104) (st := [va_rf (some a_18)]) (rest := []) (av := [va_rf (some a_18)]) (x_linkV (M := mX3_readHead) (M' := mX10_step) (As := []) (index := 58) (C := RX10) (T := TX10) (xE_10 c_22) rfl wd_344 wd_247 wd_245 xw_X10_step rfl (by decide) rfl rfl dX3_readHead_104) (ev_X10_step hO hP h_21) xw_X10_step rfl wd_118 dX3_readHead_104 (by decide) (by decide) (by simp [x_cat, x_catI, x_catJ])
          cases h
          exact x_callX z9 (evX_out rfl)
      · have z9 := x_call (M := mX3_readHead) (M' := mX5_addNet) (pc := 97) (st := [va_rf (some σ_3.sz), va_rf (some a_12)]) (rest := []) (av := [va_rf (some a_12), va_rf (some σ_3.sz)]) (x_linkV (M := mX3_readHead) (M' := mX5_addNet) (As := [va_rf (some σ_3.sz)]) (index := 95) (C := RX5) (T := TX5) (xE_6 c_16) rfl wd_342 wd_343 wd_341 xw_X5_addNet rfl (by decide) rfl rfl dX3_readHead_97) (ev_X5_addNet hO hP h_15) xw_X5_addNet rfl wd_274 dX3_readHead_97 (by decide) (by decide) (by simp [x_cat, x_catI, x_catJ])
        cases h
        exact x_callX z9 (evX_out rfl)
    · have z9 := x_call (M := mX3_readHead) (M' := mX4_init) (pc := 94) (st := [.int 0, .int (-1), .long v3, va_rf (some σ_3.sz), va_rf (some σ_3.sz), va_rf (σ_3.R 302 a0)]) (rest := [va_rf (some σ_3.sz), va_rf (σ_3.R 302 a0)]) (av := [va_rf (some σ_3.sz), .long v3, .int (-1), .int 0]) (x_linkI (M := mX3_readHead) (M' := mX4_init) (As := [.long v3, .int (-1), .int 0]) (index := 92) (b := σ_3.sz) rfl wd_338 wd_339 wd_337 (by decide) rfl rfl dX3_readHead_94) (ev_X4_init hO hP h_11) xw_X4_init rfl wd_336 dX3_readHead_94 (by decide) (by decide) (by simp [x_cat, x_catI, x_catJ])
      cases h
      exact x_callX z9 (evX_out rfl)
  · have z9 := x_call (M := mX3_readHead) (M' := mX10_refuseIf) (pc := 80) (st := [.int s1, va_rf (some a_1)]) (rest := []) (av := [va_rf (some a_1), .int s1]) (x_linkV (M := mX3_readHead) (M' := mX10_refuseIf) (As := [.int s1]) (index := 55) (C := RX10) (T := TX10) (xE_10 c_5) rfl wd_333 wd_243 wd_241 xw_X10_refuseIf rfl (by decide) rfl rfl dX3_readHead_80) (ev_X10_refuseIf hO hP h_4) xw_X10_refuseIf rfl wd_118 dX3_readHead_80 (by decide) (by decide) (by simp [x_cat, x_catI, x_catJ])
    cases h
    exact x_callX z9 (evX_out rfl)
set_option maxHeartbeats 4000000 in
set_option maxRecDepth 100000 in
theorem ev_X3_readHead_p123 {l : Launch} {G : xG} (hO : x_OK l G) {P : xP} (hP : x_PG P G) {a0 : Nat} {σ σ' : xS} {rr : Unit ⊕ String} (h : dm_X3_readHead_p123 P a0 σ = some (rr, σ')) : Ev l G mX3_readHead 123 [(0, va_rf (some a0))] [] σ (xrV rr) σ' := by
  unfold dm_X3_readHead_p123 at h
  refine ev_aload_n (j := 0) (x := (some a0)) dX3_readHead_123 rfl rfl ?_
  obtain ⟨c_1, h⟩ := x_chk_e h
  refine ev_get (C := RX3) (T := TX3) (k := 0) inX3 (xE_4 c_1) rfl (by decide) wd_308 (Or.inr wd_307) rfl dX3_readHead_124 ?_
  refine ev_bipush (v := 41) dX3_readHead_127 (by decide) ?_
  obtain ⟨a_2, ea_2, h⟩ := x_some_e h
  refine ev_at (st' := [.int 41, va_rf (some a_2)]) rfl (by rw [ea_2]) ?_
  obtain ⟨c_6, h⟩ := x_chk_e h
  rcases x_bind_e h with ⟨v_3, σ_4, h_5, h⟩ | ⟨E_14, σ_4, h_5, h⟩
  · have z9 := x_call (M := mX3_readHead) (M' := mX10_takeSign) (pc := 129) (st := [.int 41, va_rf (some a_2)]) (rest := []) (av := [va_rf (some a_2), .int 41]) (x_linkV (M := mX3_readHead) (M' := mX10_takeSign) (As := [.int 41]) (index := 76) (C := RX10) (T := TX10) (xE_10 c_6) rfl wd_320 wd_321 wd_319 xw_X10_takeSign rfl (by decide) rfl rfl dX3_readHead_129) (ev_X10_takeSign hO hP h_5) xw_X10_takeSign rfl wd_118 dX3_readHead_129 (by decide) (by decide) (by simp [x_cat, x_catI, x_catJ])
    refine x_callR z9 ?_
    refine ev_at (st' := []) rfl rfl ?_
    refine ev_aload_n (j := 0) (x := (some a0)) dX3_readHead_132 rfl rfl ?_
    obtain ⟨c_7, h⟩ := x_chk_e h
    refine ev_get (C := RX3) (T := TX3) (k := 0) inX3 (xE_4 c_7) rfl (by decide) wd_308 (Or.inr wd_307) rfl dX3_readHead_133 ?_
    refine ev_bipush (v := 59) dX3_readHead_136 (by decide) ?_
    obtain ⟨a_8, ea_8, h⟩ := x_some_e h
    refine ev_at (st' := [.int 59, va_rf (some a_8)]) rfl (by rw [ea_8]) ?_
    obtain ⟨c_12, h⟩ := x_chk_e h
    rcases x_bind_e h with ⟨v_9, σ_10, h_11, h⟩ | ⟨E_13, σ_10, h_11, h⟩
    · have z9 := x_call (M := mX3_readHead) (M' := mX10_takeSign) (pc := 138) (st := [.int 59, va_rf (some a_8)]) (rest := []) (av := [va_rf (some a_8), .int 59]) (x_linkV (M := mX3_readHead) (M' := mX10_takeSign) (As := [.int 59]) (index := 76) (C := RX10) (T := TX10) (xE_10 c_12) rfl wd_320 wd_321 wd_319 xw_X10_takeSign rfl (by decide) rfl rfl dX3_readHead_138) (ev_X10_takeSign hO hP h_11) xw_X10_takeSign rfl wd_118 dX3_readHead_138 (by decide) (by decide) (by simp [x_cat, x_catI, x_catJ])
      refine x_callR z9 ?_
      refine ev_at (st' := []) rfl rfl ?_
      cases h
      exact ev_vret rfl dX3_readHead_141
    · have z9 := x_call (M := mX3_readHead) (M' := mX10_takeSign) (pc := 138) (st := [.int 59, va_rf (some a_8)]) (rest := []) (av := [va_rf (some a_8), .int 59]) (x_linkV (M := mX3_readHead) (M' := mX10_takeSign) (As := [.int 59]) (index := 76) (C := RX10) (T := TX10) (xE_10 c_12) rfl wd_320 wd_321 wd_319 xw_X10_takeSign rfl (by decide) rfl rfl dX3_readHead_138) (ev_X10_takeSign hO hP h_11) xw_X10_takeSign rfl wd_118 dX3_readHead_138 (by decide) (by decide) (by simp [x_cat, x_catI, x_catJ])
      cases h
      exact x_callX z9 (evX_out rfl)
  · have z9 := x_call (M := mX3_readHead) (M' := mX10_takeSign) (pc := 129) (st := [.int 41, va_rf (some a_2)]) (rest := []) (av := [va_rf (some a_2), .int 41]) (x_linkV (M := mX3_readHead) (M' := mX10_takeSign) (As := [.int 41]) (index := 76) (C := RX10) (T := TX10) (xE_10 c_6) rfl wd_320 wd_321 wd_319 xw_X10_takeSign rfl (by decide) rfl rfl dX3_readHead_129) (ev_X10_takeSign hO hP h_5) xw_X10_takeSign rfl wd_118 dX3_readHead_129 (by decide) (by decide) (by simp [x_cat, x_catI, x_catJ])
    cases h
    exact x_callX z9 (evX_out rfl)
set_option maxHeartbeats 4000000 in
set_option maxRecDepth 100000 in
theorem ev_X3_readHead_L42 {l : Launch} {G : xG} (hO : x_OK l G) {P : xP} (hP : x_PG P G) {a0 : Nat} : ∀ (n : Nat) {v1 : Int32} {v2 : Int32} {σ σ' : xS} {rr : Unit ⊕ String}, dm_X3_readHead_L42 P a0 n v1 v2 σ = some (rr, σ') → Ev l G mX3_readHead 42 [(0, va_rf (some a0)), (1, .int v1), (2, .int v2)] [] σ (xrV rr) σ' := by
  intro n
  induction n with
  | zero => intro v1 v2 σ σ' rr h; cases h
  | succ n ih =>
    intro v1 v2 σ σ' rr h
    rw [dm_X3_readHead_L42] at h
    refine ev_iload_n (j := 1) (x := v1) dX3_readHead_42 rfl rfl ?_
    by_cases c_1 : v1 = 0
    · rw [if_pos c_1] at h
      refine ev_if_eq (x := v1) (tgt := 123) dX3_readHead_43 (by decide) (fun _ => ?_) (fun q9 => absurd c_1 q9)
      exact ev_sub [0] rfl (ev_X3_readHead_p123 hO hP h)
    · rw [if_neg c_1] at h
      refine ev_if_eq (x := v1) (tgt := 123) dX3_readHead_43 (by decide) (fun q9 => absurd q9 c_1) (fun _ => ?_)
      refine ev_iload_n (j := 2) (x := v2) dX3_readHead_46 rfl rfl ?_
      refine ev_bipush (v := 16) dX3_readHead_47 (by decide) ?_
      by_cases c_2 : 16 < v2
      · rw [if_pos c_2] at h
        refine ev_icmp_gt (x := v2) (y := 16) (tgt := 123) dX3_readHead_49 (by decide) (fun _ => ?_) (fun q9 => absurd c_2 q9)
        exact ev_sub [0] rfl (ev_X3_readHead_p123 hO hP h)
      · rw [if_neg c_2] at h
        refine ev_icmp_gt (x := v2) (y := 16) (tgt := 123) dX3_readHead_49 (by decide) (fun q9 => absurd q9 c_2) (fun _ => ?_)
        refine ev_aload_n (j := 0) (x := (some a0)) dX3_readHead_52 rfl rfl ?_
        obtain ⟨c_3, h⟩ := x_chk_e h
        refine ev_get (C := RX3) (T := TX3) (k := 0) inX3 (xE_4 c_3) rfl (by decide) wd_308 (Or.inr wd_307) rfl dX3_readHead_53 ?_
        obtain ⟨a_4, ea_4, h⟩ := x_some_e h
        refine ev_at (st' := [va_rf (some a_4)]) rfl (by rw [ea_4]) ?_
        obtain ⟨c_8, h⟩ := x_chk_e h
        rcases x_bind_e h with ⟨v_5, σ_6, h_7, h⟩ | ⟨E_17, σ_6, h_7, h⟩
        · have z9 := x_call (M := mX3_readHead) (M' := mX10_name) (pc := 56) (st := [va_rf (some a_4)]) (rest := []) (av := [va_rf (some a_4)]) (x_linkV (M := mX3_readHead) (M' := mX10_name) (As := []) (index := 84) (C := RX10) (T := TX10) (xE_10 c_8) rfl wd_326 wd_281 wd_279 xw_X10_name rfl (by decide) rfl rfl dX3_readHead_56) (ev_X10_name hO hP h_7) xw_X10_name rfl wd_118 dX3_readHead_56 (by decide) (by decide) (by simp [x_cat, x_catI, x_catJ])
          refine x_callR z9 ?_
          refine ev_at (st' := [.long v_5]) rfl rfl ?_
          refine ev_lstore_n (i := 3) (lv' := [(3, .long v_5), (0, va_rf (some a0)), (1, .int v1), (2, .int v2)]) dX3_readHead_59 rfl (by decide) rfl ?_
          refine ev_aload_n (j := 1) (x := (some a0)) dX3_readHead_60 rfl rfl ?_
          obtain ⟨c_9, h⟩ := x_chk_e h
          refine ev_get (C := RX3) (T := TX3) (k := 0) inX3 (xE_4 c_9) rfl (by decide) wd_308 (Or.inr wd_307) rfl dX3_readHead_61 ?_
          refine ev_aload_n (j := 1) (x := (some a0)) dX3_readHead_64 rfl rfl ?_
          refine ev_get (C := RX3) (T := TX3) (k := 2) inX3 (xE_4 c_9) rfl (by decide) wd_328 (Or.inr wd_327) rfl dX3_readHead_65 ?_
          refine ev_lload_n (j := 0) (x := v_5) dX3_readHead_68 rfl rfl ?_
          obtain ⟨a_10, ea_10, h⟩ := x_some_e h
          refine ev_at (st' := [.long v_5, va_rf (some a_10), va_rf (σ_6.R 300 a0)]) rfl (by rw [ea_10]) ?_
          obtain ⟨c_14, h⟩ := x_chk_e h
          rcases x_bind_e h with ⟨v_11, σ_12, h_13, h⟩ | ⟨E_16, σ_12, h_13, h⟩
          · have z9 := x_call (M := mX3_readHead) (M' := mX5_canTakeNet) (pc := 69) (st := [.long v_5, va_rf (some a_10), va_rf (σ_6.R 300 a0)]) (rest := [va_rf (σ_6.R 300 a0)]) (av := [va_rf (some a_10), .long v_5]) (x_linkV (M := mX3_readHead) (M' := mX5_canTakeNet) (As := [.long v_5]) (index := 88) (C := RX5) (T := TX5) (xE_6 c_14) rfl wd_331 wd_332 wd_330 xw_X5_canTakeNet rfl (by decide) rfl rfl dX3_readHead_69) (ev_X5_canTakeNet hO hP h_13) xw_X5_canTakeNet rfl wd_274 dX3_readHead_69 (by decide) (by decide) (by simp [x_cat, x_catI, x_catJ])
            refine x_callR z9 ?_
            refine ev_at (st' := [.int v_11, va_rf (σ_6.R 300 a0)]) rfl rfl ?_
            by_cases c_15 : v_11 = 0
            · rw [if_pos c_15] at h
              refine ev_if_ne (x := v_11) (tgt := 79) dX3_readHead_72 (by decide) (fun q9 => absurd c_15 q9) (fun _ => ?_)
              refine ev_iconst (v := 1) dX3_readHead_75 (by decide) ?_
              refine ev_goto (tgt := 80) dX3_readHead_76 (by decide) ?_
              exact ev_sub [1, 3, 0] rfl (ev_X3_readHead_p80 hO hP ih h)
            · rw [if_neg c_15] at h
              refine ev_if_ne (x := v_11) (tgt := 79) dX3_readHead_72 (by decide) (fun _ => ?_) (fun q9 => absurd q9 c_15)
              refine ev_iconst (v := 0) dX3_readHead_79 (by decide) ?_
              exact ev_sub [1, 3, 0] rfl (ev_X3_readHead_p80 hO hP ih h)
          · have z9 := x_call (M := mX3_readHead) (M' := mX5_canTakeNet) (pc := 69) (st := [.long v_5, va_rf (some a_10), va_rf (σ_6.R 300 a0)]) (rest := [va_rf (σ_6.R 300 a0)]) (av := [va_rf (some a_10), .long v_5]) (x_linkV (M := mX3_readHead) (M' := mX5_canTakeNet) (As := [.long v_5]) (index := 88) (C := RX5) (T := TX5) (xE_6 c_14) rfl wd_331 wd_332 wd_330 xw_X5_canTakeNet rfl (by decide) rfl rfl dX3_readHead_69) (ev_X5_canTakeNet hO hP h_13) xw_X5_canTakeNet rfl wd_274 dX3_readHead_69 (by decide) (by decide) (by simp [x_cat, x_catI, x_catJ])
            cases h
            exact x_callX z9 (evX_out rfl)
        · have z9 := x_call (M := mX3_readHead) (M' := mX10_name) (pc := 56) (st := [va_rf (some a_4)]) (rest := []) (av := [va_rf (some a_4)]) (x_linkV (M := mX3_readHead) (M' := mX10_name) (As := []) (index := 84) (C := RX10) (T := TX10) (xE_10 c_8) rfl wd_326 wd_281 wd_279 xw_X10_name rfl (by decide) rfl rfl dX3_readHead_56) (ev_X10_name hO hP h_7) xw_X10_name rfl wd_118 dX3_readHead_56 (by decide) (by decide) (by simp [x_cat, x_catI, x_catJ])
          cases h
          exact x_callX z9 (evX_out rfl)
set_option maxHeartbeats 4000000 in
set_option maxRecDepth 100000 in
theorem ev_X3_readHead_p39 {l : Launch} {G : xG} (hO : x_OK l G) {P : xP} (hP : x_PG P G) {a0 : Nat} {s0 : Int32} {σ σ' : xS} {rr : Unit ⊕ String} (h : dm_X3_readHead_p39 P a0 s0 σ = some (rr, σ')) : Ev l G mX3_readHead 39 [(0, va_rf (some a0))] [.int s0] σ (xrV rr) σ' := by
  unfold dm_X3_readHead_p39 at h
  refine ev_istore_n (i := 1) (lv' := [(1, .int s0), (0, va_rf (some a0))]) dX3_readHead_39 rfl (by decide) (by simp [x_cat, x_catI, x_catJ]) ?_
  refine ev_iconst (v := 0) dX3_readHead_40 (by decide) ?_
  refine ev_istore_n (i := 2) (lv' := [(2, .int 0), (1, .int s0), (0, va_rf (some a0))]) dX3_readHead_41 rfl (by decide) rfl ?_
  exact ev_sub [2, 1, 0] rfl (ev_X3_readHead_L42 hO hP P.N h)
set_option maxHeartbeats 4000000 in
set_option maxRecDepth 100000 in
theorem ev_X3_readHead {l : Launch} {G : xG} (hO : x_OK l G) {P : xP} (hP : x_PG P G) {a0 : Nat} {σ σ' : xS} {rr : Unit ⊕ String} (h : dm_X3_readHead P a0 σ = some (rr, σ')) : EvM l G mX3_readHead [va_rf (some a0)] σ (xrV rr) σ' := by
  unfold dm_X3_readHead at h
  refine evM_of hO (by decide +kernel) (x_lenI (by simp [x_cat, x_catI, x_catJ, mX3_readHead, xM.maxL])) ?_
  refine Eq.mp (congrArg (fun z => Ev l G mX3_readHead 0 z [] σ (xrV rr) σ') (show [(0, va_rf (some a0))] = lv_args 0 [va_rf (some a0)] by simp [lv_args, x_cat, x_catI, x_catJ])) ?_
  refine ev_aload_n (j := 0) (x := (some a0)) dX3_readHead_0 rfl rfl ?_
  obtain ⟨c_1, h⟩ := x_chk_e h
  refine ev_get (C := RX3) (T := TX3) (k := 0) inX3 (xE_4 c_1) rfl (by decide) wd_308 (Or.inr wd_307) rfl dX3_readHead_1 ?_
  refine ev_ldcS (q := ("NetlistForms$LongReader", 67, "module", 19)) hP (List.mem_of_getElem? (i := 5) rfl) rfl dX3_readHead_4 ?_
  obtain ⟨a_2, ea_2, h⟩ := x_some_e h
  refine ev_at (st' := [va_rf (some (P.ad 19)), va_rf (some a_2)]) rfl (by rw [ea_2]) ?_
  obtain ⟨c_6, h⟩ := x_chk_e h
  rcases x_bind_e h with ⟨v_3, σ_4, h_5, h⟩ | ⟨E_27, σ_4, h_5, h⟩
  · have z9 := x_call (M := mX3_readHead) (M' := mX10_takeText) (pc := 6) (st := [va_rf (some (P.ad 19)), va_rf (some a_2)]) (rest := []) (av := [va_rf (some a_2), va_rf (some (P.ad 19))]) (x_linkV (M := mX3_readHead) (M' := mX10_takeText) (As := [va_rf (some (P.ad 19))]) (index := 69) (C := RX10) (T := TX10) (xE_10 c_6) rfl wd_311 wd_312 wd_310 xw_X10_takeText rfl (by decide) rfl rfl dX3_readHead_6) (ev_X10_takeText hO hP h_5) xw_X10_takeText rfl wd_118 dX3_readHead_6 (by decide) (by decide) (by simp [x_cat, x_catI, x_catJ])
    refine x_callR z9 ?_
    refine ev_at (st' := []) rfl rfl ?_
    refine ev_aload_n (j := 0) (x := (some a0)) dX3_readHead_9 rfl rfl ?_
    obtain ⟨c_10, h⟩ := x_chk_e h
    rcases x_bind_e h with ⟨v_7, σ_8, h_9, h⟩ | ⟨E_26, σ_8, h_9, h⟩
    · have z9 := x_call (M := mX3_readHead) (M' := mX8_startModule) (pc := 10) (st := [va_rf (some a0)]) (rest := []) (av := [va_rf (some a0)]) (x_linkU (M := mX3_readHead) (M' := mX8_startModule) (As := []) (index := 73) (C := RX3) (T := TX3) (owner := "NetlistForms$Reader") (x := ⟨"NetlistForms$LongReader", "startModule", "()V"⟩) (xE_4 c_10) rfl wd_314 wd_315 (Or.inr rfl) wd_316 wd_317 xw_X8_startModule rfl (by decide) rfl rfl dX3_readHead_10) (ev_X8_startModule hO hP h_9) xw_X8_startModule rfl wd_104 dX3_readHead_10 (by decide) (by decide) (by simp [x_cat, x_catI, x_catJ])
      refine x_callR z9 ?_
      refine ev_at (st' := []) rfl rfl ?_
      refine ev_aload_n (j := 0) (x := (some a0)) dX3_readHead_13 rfl rfl ?_
      obtain ⟨c_11, h⟩ := x_chk_e h
      refine ev_get (C := RX3) (T := TX3) (k := 0) inX3 (xE_4 c_11) rfl (by decide) wd_308 (Or.inr wd_307) rfl dX3_readHead_14 ?_
      refine ev_bipush (v := 40) dX3_readHead_17 (by decide) ?_
      obtain ⟨a_12, ea_12, h⟩ := x_some_e h
      refine ev_at (st' := [.int 40, va_rf (some a_12)]) rfl (by rw [ea_12]) ?_
      obtain ⟨c_16, h⟩ := x_chk_e h
      rcases x_bind_e h with ⟨v_13, σ_14, h_15, h⟩ | ⟨E_25, σ_14, h_15, h⟩
      · have z9 := x_call (M := mX3_readHead) (M' := mX10_takeSign) (pc := 19) (st := [.int 40, va_rf (some a_12)]) (rest := []) (av := [va_rf (some a_12), .int 40]) (x_linkV (M := mX3_readHead) (M' := mX10_takeSign) (As := [.int 40]) (index := 76) (C := RX10) (T := TX10) (xE_10 c_16) rfl wd_320 wd_321 wd_319 xw_X10_takeSign rfl (by decide) rfl rfl dX3_readHead_19) (ev_X10_takeSign hO hP h_15) xw_X10_takeSign rfl wd_118 dX3_readHead_19 (by decide) (by decide) (by simp [x_cat, x_catI, x_catJ])
        refine x_callR z9 ?_
        refine ev_at (st' := []) rfl rfl ?_
        refine ev_aload_n (j := 0) (x := (some a0)) dX3_readHead_22 rfl rfl ?_
        obtain ⟨c_17, h⟩ := x_chk_e h
        refine ev_get (C := RX3) (T := TX3) (k := 0) inX3 (xE_4 c_17) rfl (by decide) wd_308 (Or.inr wd_307) rfl dX3_readHead_23 ?_
        refine ev_bipush (v := 41) dX3_readHead_26 (by decide) ?_
        obtain ⟨a_18, ea_18, h⟩ := x_some_e h
        refine ev_at (st' := [.int 41, va_rf (some a_18)]) rfl (by rw [ea_18]) ?_
        obtain ⟨c_22, h⟩ := x_chk_e h
        rcases x_bind_e h with ⟨v_19, σ_20, h_21, h⟩ | ⟨E_24, σ_20, h_21, h⟩
        · have z9 := x_call (M := mX3_readHead) (M' := mX10_isSign) (pc := 28) (st := [.int 41, va_rf (some a_18)]) (rest := []) (av := [va_rf (some a_18), .int 41]) (x_linkV (M := mX3_readHead) (M' := mX10_isSign) (As := [.int 41]) (index := 80) (C := RX10) (T := TX10) (xE_10 c_22) rfl wd_324 wd_325 wd_323 xw_X10_isSign rfl (by decide) rfl rfl dX3_readHead_28) (ev_X10_isSign hO hP h_21) xw_X10_isSign rfl wd_118 dX3_readHead_28 (by decide) (by decide) (by simp [x_cat, x_catI, x_catJ])
          refine x_callR z9 ?_
          refine ev_at (st' := [.int v_19]) rfl rfl ?_
          by_cases c_23 : v_19 = 0
          · rw [if_pos c_23] at h
            refine ev_if_ne (x := v_19) (tgt := 38) dX3_readHead_31 (by decide) (fun q9 => absurd c_23 q9) (fun _ => ?_)
            refine ev_iconst (v := 1) dX3_readHead_34 (by decide) ?_
            refine ev_goto (tgt := 39) dX3_readHead_35 (by decide) ?_
            exact ev_sub [0] rfl (ev_X3_readHead_p39 hO hP h)
          · rw [if_neg c_23] at h
            refine ev_if_ne (x := v_19) (tgt := 38) dX3_readHead_31 (by decide) (fun _ => ?_) (fun q9 => absurd q9 c_23)
            refine ev_iconst (v := 0) dX3_readHead_38 (by decide) ?_
            exact ev_sub [0] rfl (ev_X3_readHead_p39 hO hP h)
        · have z9 := x_call (M := mX3_readHead) (M' := mX10_isSign) (pc := 28) (st := [.int 41, va_rf (some a_18)]) (rest := []) (av := [va_rf (some a_18), .int 41]) (x_linkV (M := mX3_readHead) (M' := mX10_isSign) (As := [.int 41]) (index := 80) (C := RX10) (T := TX10) (xE_10 c_22) rfl wd_324 wd_325 wd_323 xw_X10_isSign rfl (by decide) rfl rfl dX3_readHead_28) (ev_X10_isSign hO hP h_21) xw_X10_isSign rfl wd_118 dX3_readHead_28 (by decide) (by decide) (by simp [x_cat, x_catI, x_catJ])
          cases h
          exact x_callX z9 (evX_out rfl)
      · have z9 := x_call (M := mX3_readHead) (M' := mX10_takeSign) (pc := 19) (st := [.int 40, va_rf (some a_12)]) (rest := []) (av := [va_rf (some a_12), .int 40]) (x_linkV (M := mX3_readHead) (M' := mX10_takeSign) (As := [.int 40]) (index := 76) (C := RX10) (T := TX10) (xE_10 c_16) rfl wd_320 wd_321 wd_319 xw_X10_takeSign rfl (by decide) rfl rfl dX3_readHead_19) (ev_X10_takeSign hO hP h_15) xw_X10_takeSign rfl wd_118 dX3_readHead_19 (by decide) (by decide) (by simp [x_cat, x_catI, x_catJ])
        cases h
        exact x_callX z9 (evX_out rfl)
    · have z9 := x_call (M := mX3_readHead) (M' := mX8_startModule) (pc := 10) (st := [va_rf (some a0)]) (rest := []) (av := [va_rf (some a0)]) (x_linkU (M := mX3_readHead) (M' := mX8_startModule) (As := []) (index := 73) (C := RX3) (T := TX3) (owner := "NetlistForms$Reader") (x := ⟨"NetlistForms$LongReader", "startModule", "()V"⟩) (xE_4 c_10) rfl wd_314 wd_315 (Or.inr rfl) wd_316 wd_317 xw_X8_startModule rfl (by decide) rfl rfl dX3_readHead_10) (ev_X8_startModule hO hP h_9) xw_X8_startModule rfl wd_104 dX3_readHead_10 (by decide) (by decide) (by simp [x_cat, x_catI, x_catJ])
      cases h
      exact x_callX z9 (evX_out rfl)
  · have z9 := x_call (M := mX3_readHead) (M' := mX10_takeText) (pc := 6) (st := [va_rf (some (P.ad 19)), va_rf (some a_2)]) (rest := []) (av := [va_rf (some a_2), va_rf (some (P.ad 19))]) (x_linkV (M := mX3_readHead) (M' := mX10_takeText) (As := [va_rf (some (P.ad 19))]) (index := 69) (C := RX10) (T := TX10) (xE_10 c_6) rfl wd_311 wd_312 wd_310 xw_X10_takeText rfl (by decide) rfl rfl dX3_readHead_6) (ev_X10_takeText hO hP h_5) xw_X10_takeText rfl wd_118 dX3_readHead_6 (by decide) (by decide) (by simp [x_cat, x_catI, x_catJ])
    cases h
    exact x_callX z9 (evX_out rfl)
set_option maxHeartbeats 4000000 in
set_option maxRecDepth 100000 in
theorem ev_X10_takeNumber_p43 {l : Launch} {G : xG} (hO : x_OK l G) {P : xP} (hP : x_PG P G) {a0 : Nat} {σ σ' : xS} {rr : Int32 ⊕ String} (h : dm_X10_takeNumber_p43 P a0 σ = some (rr, σ')) : Ev l G mX10_takeNumber 43 [] [] σ (xrI rr) σ' := by
  unfold dm_X10_takeNumber_p43 at h
  obtain ⟨c_1, h⟩ := x_chk_e h
  cases h
  exact ev_throw (names := x_ex) (by decide +kernel) x_exf th_X10_91_93 dX10_takeNumber_43 dX10_takeNumber_46 dX10_takeNumber_47 dX10_takeNumber_50 rfl (by decide) (by decide) (hP.2.1 ▸ c_1.1) (hP.2.2.1 ▸ c_1.2)
set_option maxHeartbeats 4000000 in
set_option maxRecDepth 100000 in
theorem ev_X10_takeNumber {l : Launch} {G : xG} (hO : x_OK l G) {P : xP} (hP : x_PG P G) {a0 : Nat} {v1 : Int32} {v2 : Int32} {σ σ' : xS} {rr : Int32 ⊕ String} (h : dm_X10_takeNumber P a0 v1 v2 σ = some (rr, σ')) : EvM l G mX10_takeNumber [va_rf (some a0), .int v1, .int v2] σ (xrI rr) σ' := by
  unfold dm_X10_takeNumber at h
  refine evM_of hO (by decide +kernel) (x_lenI (by simp [x_cat, x_catI, x_catJ, mX10_takeNumber, xM.maxL])) ?_
  refine Eq.mp (congrArg (fun z => Ev l G mX10_takeNumber 0 z [] σ (xrI rr) σ') (show [(0, va_rf (some a0)), (1, .int v1), (2, .int v2)] = lv_args 0 [va_rf (some a0), .int v1, .int v2] by simp [lv_args, x_cat, x_catI, x_catJ])) ?_
  refine ev_aload_n (j := 0) (x := (some a0)) dX10_takeNumber_0 rfl rfl ?_
  obtain ⟨c_1, h⟩ := x_chk_e h
  refine ev_get (C := RX10) (T := TX10) (k := 3) inX10 (xE_10 c_1) rfl (by decide) wd_92 (Or.inl rfl) rfl dX10_takeNumber_1 ?_
  refine ev_aload_n (j := 0) (x := (some a0)) dX10_takeNumber_4 rfl rfl ?_
  refine ev_get (C := RX10) (T := TX10) (k := 6) inX10 (xE_10 c_1) rfl (by decide) wd_96 (Or.inl rfl) rfl dX10_takeNumber_5 ?_
  obtain ⟨a_2, ea_2, h⟩ := x_some_e h
  refine ev_at (st' := [.int (σ.I 906 a0), va_rf (some a_2)]) rfl (by rw [ea_2]) ?_
  obtain ⟨c_3, h⟩ := x_chk_e h
  refine ev_iald c_3.1 c_3.2 dX10_takeNumber_8 ?_
  refine ev_iconst (v := 2) dX10_takeNumber_9 (by decide) ?_
  by_cases c_4 : (σ.AI a_2 (Int32.toNatClampNeg (σ.I 906 a0))) = 2
  · rw [if_pos c_4] at h
    refine ev_icmp_ne (x := (σ.AI a_2 (Int32.toNatClampNeg (σ.I 906 a0)))) (y := 2) (tgt := 43) dX10_takeNumber_10 (by decide) (fun q9 => absurd c_4 q9) (fun _ => ?_)
    refine ev_aload_n (j := 0) (x := (some a0)) dX10_takeNumber_13 rfl rfl ?_
    refine ev_get (C := RX10) (T := TX10) (k := 4) inX10 (xE_10 c_1) rfl (by decide) wd_94 (Or.inl rfl) rfl dX10_takeNumber_14 ?_
    refine ev_aload_n (j := 0) (x := (some a0)) dX10_takeNumber_17 rfl rfl ?_
    refine ev_get (C := RX10) (T := TX10) (k := 6) inX10 (xE_10 c_1) rfl (by decide) wd_96 (Or.inl rfl) rfl dX10_takeNumber_18 ?_
    obtain ⟨a_5, ea_5, h⟩ := x_some_e h
    refine ev_at (st' := [.int (σ.I 906 a0), va_rf (some a_5)]) rfl (by rw [ea_5]) ?_
    obtain ⟨c_6, h⟩ := x_chk_e h
    refine ev_lald c_6.1 c_6.2 dX10_takeNumber_21 ?_
    refine ev_iload_n (j := 1) (x := v1) dX10_takeNumber_22 rfl rfl ?_
    refine ev_i2l (x := v1) dX10_takeNumber_23 ?_
    refine ev_lcmp (x := (σ.AJ a_5 (Int32.toNatClampNeg (σ.I 906 a0)))) (y := (Int32.toInt64 v1)) dX10_takeNumber_24 ?_
    by_cases c_7 : (lg_cmp (σ.AJ a_5 (Int32.toNatClampNeg (σ.I 906 a0))) (Int32.toInt64 v1)) < 0
    · rw [if_pos c_7] at h
      refine ev_if_lt (x := (lg_cmp (σ.AJ a_5 (Int32.toNatClampNeg (σ.I 906 a0))) (Int32.toInt64 v1))) (tgt := 43) dX10_takeNumber_25 (by decide) (fun _ => ?_) (fun q9 => absurd c_7 q9)
      exact ev_sub [] rfl (ev_X10_takeNumber_p43 hO hP h)
    · rw [if_neg c_7] at h
      refine ev_if_lt (x := (lg_cmp (σ.AJ a_5 (Int32.toNatClampNeg (σ.I 906 a0))) (Int32.toInt64 v1))) (tgt := 43) dX10_takeNumber_25 (by decide) (fun q9 => absurd q9 c_7) (fun _ => ?_)
      refine ev_aload_n (j := 0) (x := (some a0)) dX10_takeNumber_28 rfl rfl ?_
      refine ev_get (C := RX10) (T := TX10) (k := 4) inX10 (xE_10 c_1) rfl (by decide) wd_94 (Or.inl rfl) rfl dX10_takeNumber_29 ?_
      refine ev_aload_n (j := 0) (x := (some a0)) dX10_takeNumber_32 rfl rfl ?_
      refine ev_get (C := RX10) (T := TX10) (k := 6) inX10 (xE_10 c_1) rfl (by decide) wd_96 (Or.inl rfl) rfl dX10_takeNumber_33 ?_
      refine ev_at (st' := [.int (σ.I 906 a0), va_rf (some a_5)]) rfl (by rw [ea_5]) ?_
      refine ev_lald c_6.1 c_6.2 dX10_takeNumber_36 ?_
      refine ev_iload_n (j := 2) (x := v2) dX10_takeNumber_37 rfl rfl ?_
      refine ev_i2l (x := v2) dX10_takeNumber_38 ?_
      refine ev_lcmp (x := (σ.AJ a_5 (Int32.toNatClampNeg (σ.I 906 a0)))) (y := (Int32.toInt64 v2)) dX10_takeNumber_39 ?_
      by_cases c_8 : (lg_cmp (σ.AJ a_5 (Int32.toNatClampNeg (σ.I 906 a0))) (Int32.toInt64 v2)) ≤ 0
      · rw [if_pos c_8] at h
        refine ev_if_le (x := (lg_cmp (σ.AJ a_5 (Int32.toNatClampNeg (σ.I 906 a0))) (Int32.toInt64 v2))) (tgt := 51) dX10_takeNumber_40 (by decide) (fun _ => ?_) (fun q9 => absurd c_8 q9)
        refine ev_aload_n (j := 0) (x := (some a0)) dX10_takeNumber_51 rfl rfl ?_
        refine ev_get (C := RX10) (T := TX10) (k := 4) inX10 (xE_10 c_1) rfl (by decide) wd_94 (Or.inl rfl) rfl dX10_takeNumber_52 ?_
        refine ev_aload_n (j := 0) (x := (some a0)) dX10_takeNumber_55 rfl rfl ?_
        refine ev_get (C := RX10) (T := TX10) (k := 6) inX10 (xE_10 c_1) rfl (by decide) wd_96 (Or.inl rfl) rfl dX10_takeNumber_56 ?_
        refine ev_at (st' := [.int (σ.I 906 a0), va_rf (some a_5)]) rfl (by rw [ea_5]) ?_
        refine ev_lald c_6.1 c_6.2 dX10_takeNumber_59 ?_
        refine ev_l2i (x := (σ.AJ a_5 (Int32.toNatClampNeg (σ.I 906 a0)))) dX10_takeNumber_60 ?_
        obtain ⟨v_9, ev_9, h⟩ := x_let_e h
        rw [← ev_9]
        refine ev_istore_n (i := 3) (lv' := [(3, .int v_9), (0, va_rf (some a0)), (1, .int v1), (2, .int v2)]) dX10_takeNumber_61 rfl (by decide) rfl ?_
        refine ev_aload_n (j := 1) (x := (some a0)) dX10_takeNumber_62 rfl rfl ?_
        refine ev_dup dX10_takeNumber_63 (x_cat _) ?_
        refine ev_get (C := RX10) (T := TX10) (k := 6) inX10 (xE_10 c_1) rfl (by decide) wd_96 (Or.inl rfl) rfl dX10_takeNumber_64 ?_
        refine ev_iconst (v := 1) dX10_takeNumber_67 (by decide) ?_
        refine ev_iadd (x := (σ.I 906 a0)) (y := 1) dX10_takeNumber_68 ?_
        obtain ⟨c_10, h⟩ := x_chk_e h
        obtain ⟨σ_11, eσ_11, h⟩ := x_let_e h
        refine ev_put (σ2 := σ_11) (C := RX10) (T := TX10) (k := 6) inX10 tyX10 tyX10_ok nmX10 (xE_10 c_10.1) rfl (by decide) wd_96 (Or.inl rfl) rfl rfl rfl rfl (Nat.le_of_ble_eq_true rfl) (hP.2.2.2.1 ▸ c_10.2) (by rw [eσ_11]; exact xP_10_6 _ c_10.1) (by rw [eσ_11]; exact xPut_I) dX10_takeNumber_69 ?_
        refine ev_iload_n (j := 0) (x := v_9) dX10_takeNumber_72 rfl rfl ?_
        cases h
        exact ev_iret rfl rfl dX10_takeNumber_73
      · rw [if_neg c_8] at h
        refine ev_if_le (x := (lg_cmp (σ.AJ a_5 (Int32.toNatClampNeg (σ.I 906 a0))) (Int32.toInt64 v2))) (tgt := 51) dX10_takeNumber_40 (by decide) (fun q9 => absurd q9 c_8) (fun _ => ?_)
        exact ev_sub [] rfl (ev_X10_takeNumber_p43 hO hP h)
  · rw [if_neg c_4] at h
    refine ev_icmp_ne (x := (σ.AI a_2 (Int32.toNatClampNeg (σ.I 906 a0)))) (y := 2) (tgt := 43) dX10_takeNumber_10 (by decide) (fun _ => ?_) (fun q9 => absurd q9 c_4)
    exact ev_sub [] rfl (ev_X10_takeNumber_p43 hO hP h)
set_option maxHeartbeats 4000000 in
set_option maxRecDepth 100000 in
theorem ev_X3_readRange {l : Launch} {G : xG} (hO : x_OK l G) {P : xP} (hP : x_PG P G) {a0 : Nat} {σ σ' : xS} {rr : Int32 ⊕ String} (h : dm_X3_readRange P a0 σ = some (rr, σ')) : EvM l G mX3_readRange [va_rf (some a0)] σ (xrI rr) σ' := by
  unfold dm_X3_readRange at h
  refine evM_of hO (by decide +kernel) (x_lenI (by simp [x_cat, x_catI, x_catJ, mX3_readRange, xM.maxL])) ?_
  refine Eq.mp (congrArg (fun z => Ev l G mX3_readRange 0 z [] σ (xrI rr) σ') (show [(0, va_rf (some a0))] = lv_args 0 [va_rf (some a0)] by simp [lv_args, x_cat, x_catI, x_catJ])) ?_
  refine ev_aload_n (j := 0) (x := (some a0)) dX3_readRange_0 rfl rfl ?_
  obtain ⟨c_1, h⟩ := x_chk_e h
  refine ev_get (C := RX3) (T := TX3) (k := 0) inX3 (xE_4 c_1) rfl (by decide) wd_308 (Or.inr wd_307) rfl dX3_readRange_1 ?_
  refine ev_bipush (v := 91) dX3_readRange_4 (by decide) ?_
  obtain ⟨a_2, ea_2, h⟩ := x_some_e h
  refine ev_at (st' := [.int 91, va_rf (some a_2)]) rfl (by rw [ea_2]) ?_
  obtain ⟨c_6, h⟩ := x_chk_e h
  rcases x_bind_e h with ⟨v_3, σ_4, h_5, h⟩ | ⟨E_36, σ_4, h_5, h⟩
  · have z9 := x_call (M := mX3_readRange) (M' := mX10_skips) (pc := 6) (st := [.int 91, va_rf (some a_2)]) (rest := []) (av := [va_rf (some a_2), .int 91]) (x_linkV (M := mX3_readRange) (M' := mX10_skips) (As := [.int 91]) (index := 99) (C := RX10) (T := TX10) (xE_10 c_6) rfl wd_347 wd_348 wd_346 xw_X10_skips rfl (by decide) rfl rfl dX3_readRange_6) (ev_X10_skips hO hP h_5) xw_X10_skips rfl wd_118 dX3_readRange_6 (by decide) (by decide) (by simp [x_cat, x_catI, x_catJ])
    refine x_callR z9 ?_
    refine ev_at (st' := [.int v_3]) rfl rfl ?_
    by_cases c_7 : v_3 = 0
    · rw [if_pos c_7] at h
      refine ev_if_ne (x := v_3) (tgt := 14) dX3_readRange_9 (by decide) (fun q9 => absurd c_7 q9) (fun _ => ?_)
      refine ev_iconst (v := 1) dX3_readRange_12 (by decide) ?_
      cases h
      exact ev_iret rfl rfl dX3_readRange_13
    · rw [if_neg c_7] at h
      refine ev_if_ne (x := v_3) (tgt := 14) dX3_readRange_9 (by decide) (fun _ => ?_) (fun q9 => absurd q9 c_7)
      refine ev_aload_n (j := 0) (x := (some a0)) dX3_readRange_14 rfl rfl ?_
      obtain ⟨c_8, h⟩ := x_chk_e h
      refine ev_get (C := RX3) (T := TX3) (k := 0) inX3 (xE_4 c_8) rfl (by decide) wd_308 (Or.inr wd_307) rfl dX3_readRange_15 ?_
      refine ev_iconst (v := 0) dX3_readRange_18 (by decide) ?_
      refine ev_bipush (v := 7) dX3_readRange_19 (by decide) ?_
      obtain ⟨a_9, ea_9, h⟩ := x_some_e h
      refine ev_at (st' := [.int 7, .int 0, va_rf (some a_9)]) rfl (by rw [ea_9]) ?_
      obtain ⟨c_13, h⟩ := x_chk_e h
      rcases x_bind_e h with ⟨v_10, σ_11, h_12, h⟩ | ⟨E_35, σ_11, h_12, h⟩
      · have z9 := x_call (M := mX3_readRange) (M' := mX10_takeNumber) (pc := 21) (st := [.int 7, .int 0, va_rf (some a_9)]) (rest := []) (av := [va_rf (some a_9), .int 0, .int 7]) (x_linkV (M := mX3_readRange) (M' := mX10_takeNumber) (As := [.int 0, .int 7]) (index := 113) (C := RX10) (T := TX10) (xE_10 c_13) rfl wd_351 wd_352 wd_350 xw_X10_takeNumber rfl (by decide) rfl rfl dX3_readRange_21) (ev_X10_takeNumber hO hP h_12) xw_X10_takeNumber rfl wd_118 dX3_readRange_21 (by decide) (by decide) (by simp [x_cat, x_catI, x_catJ])
        refine x_callR z9 ?_
        refine ev_at (st' := [.int v_10]) rfl rfl ?_
        refine ev_istore_n (i := 1) (lv' := [(1, .int v_10), (0, va_rf (some a0))]) dX3_readRange_24 rfl (by decide) (by simp [x_cat, x_catI, x_catJ]) ?_
        refine ev_aload_n (j := 1) (x := (some a0)) dX3_readRange_25 rfl rfl ?_
        obtain ⟨c_14, h⟩ := x_chk_e h
        refine ev_get (C := RX3) (T := TX3) (k := 0) inX3 (xE_4 c_14) rfl (by decide) wd_308 (Or.inr wd_307) rfl dX3_readRange_26 ?_
        refine ev_bipush (v := 58) dX3_readRange_29 (by decide) ?_
        obtain ⟨a_15, ea_15, h⟩ := x_some_e h
        refine ev_at (st' := [.int 58, va_rf (some a_15)]) rfl (by rw [ea_15]) ?_
        obtain ⟨c_19, h⟩ := x_chk_e h
        rcases x_bind_e h with ⟨v_16, σ_17, h_18, h⟩ | ⟨E_34, σ_17, h_18, h⟩
        · have z9 := x_call (M := mX3_readRange) (M' := mX10_takeSign) (pc := 31) (st := [.int 58, va_rf (some a_15)]) (rest := []) (av := [va_rf (some a_15), .int 58]) (x_linkV (M := mX3_readRange) (M' := mX10_takeSign) (As := [.int 58]) (index := 76) (C := RX10) (T := TX10) (xE_10 c_19) rfl wd_320 wd_321 wd_319 xw_X10_takeSign rfl (by decide) rfl rfl dX3_readRange_31) (ev_X10_takeSign hO hP h_18) xw_X10_takeSign rfl wd_118 dX3_readRange_31 (by decide) (by decide) (by simp [x_cat, x_catI, x_catJ])
          refine x_callR z9 ?_
          refine ev_at (st' := []) rfl rfl ?_
          refine ev_aload_n (j := 1) (x := (some a0)) dX3_readRange_34 rfl rfl ?_
          obtain ⟨c_20, h⟩ := x_chk_e h
          refine ev_get (C := RX3) (T := TX3) (k := 0) inX3 (xE_4 c_20) rfl (by decide) wd_308 (Or.inr wd_307) rfl dX3_readRange_35 ?_
          refine ev_iconst (v := 0) dX3_readRange_38 (by decide) ?_
          refine ev_iconst (v := 0) dX3_readRange_39 (by decide) ?_
          obtain ⟨a_21, ea_21, h⟩ := x_some_e h
          refine ev_at (st' := [.int 0, .int 0, va_rf (some a_21)]) rfl (by rw [ea_21]) ?_
          obtain ⟨c_25, h⟩ := x_chk_e h
          rcases x_bind_e h with ⟨v_22, σ_23, h_24, h⟩ | ⟨E_33, σ_23, h_24, h⟩
          · have z9 := x_call (M := mX3_readRange) (M' := mX10_takeNumber) (pc := 40) (st := [.int 0, .int 0, va_rf (some a_21)]) (rest := []) (av := [va_rf (some a_21), .int 0, .int 0]) (x_linkV (M := mX3_readRange) (M' := mX10_takeNumber) (As := [.int 0, .int 0]) (index := 113) (C := RX10) (T := TX10) (xE_10 c_25) rfl wd_351 wd_352 wd_350 xw_X10_takeNumber rfl (by decide) rfl rfl dX3_readRange_40) (ev_X10_takeNumber hO hP h_24) xw_X10_takeNumber rfl wd_118 dX3_readRange_40 (by decide) (by decide) (by simp [x_cat, x_catI, x_catJ])
            refine x_callR z9 ?_
            refine ev_at (st' := [.int v_22]) rfl rfl ?_
            refine ev_pop dX3_readRange_43 rfl ?_
            refine ev_aload_n (j := 1) (x := (some a0)) dX3_readRange_44 rfl rfl ?_
            obtain ⟨c_26, h⟩ := x_chk_e h
            refine ev_get (C := RX3) (T := TX3) (k := 0) inX3 (xE_4 c_26) rfl (by decide) wd_308 (Or.inr wd_307) rfl dX3_readRange_45 ?_
            refine ev_bipush (v := 93) dX3_readRange_48 (by decide) ?_
            obtain ⟨a_27, ea_27, h⟩ := x_some_e h
            refine ev_at (st' := [.int 93, va_rf (some a_27)]) rfl (by rw [ea_27]) ?_
            obtain ⟨c_31, h⟩ := x_chk_e h
            rcases x_bind_e h with ⟨v_28, σ_29, h_30, h⟩ | ⟨E_32, σ_29, h_30, h⟩
            · have z9 := x_call (M := mX3_readRange) (M' := mX10_takeSign) (pc := 50) (st := [.int 93, va_rf (some a_27)]) (rest := []) (av := [va_rf (some a_27), .int 93]) (x_linkV (M := mX3_readRange) (M' := mX10_takeSign) (As := [.int 93]) (index := 76) (C := RX10) (T := TX10) (xE_10 c_31) rfl wd_320 wd_321 wd_319 xw_X10_takeSign rfl (by decide) rfl rfl dX3_readRange_50) (ev_X10_takeSign hO hP h_30) xw_X10_takeSign rfl wd_118 dX3_readRange_50 (by decide) (by decide) (by simp [x_cat, x_catI, x_catJ])
              refine x_callR z9 ?_
              refine ev_at (st' := []) rfl rfl ?_
              refine ev_iload_n (j := 0) (x := v_10) dX3_readRange_53 rfl rfl ?_
              refine ev_iconst (v := 1) dX3_readRange_54 (by decide) ?_
              refine ev_iadd (x := v_10) (y := 1) dX3_readRange_55 ?_
              cases h
              exact ev_iret rfl rfl dX3_readRange_56
            · have z9 := x_call (M := mX3_readRange) (M' := mX10_takeSign) (pc := 50) (st := [.int 93, va_rf (some a_27)]) (rest := []) (av := [va_rf (some a_27), .int 93]) (x_linkV (M := mX3_readRange) (M' := mX10_takeSign) (As := [.int 93]) (index := 76) (C := RX10) (T := TX10) (xE_10 c_31) rfl wd_320 wd_321 wd_319 xw_X10_takeSign rfl (by decide) rfl rfl dX3_readRange_50) (ev_X10_takeSign hO hP h_30) xw_X10_takeSign rfl wd_118 dX3_readRange_50 (by decide) (by decide) (by simp [x_cat, x_catI, x_catJ])
              cases h
              exact x_callX z9 (evX_out rfl)
          · have z9 := x_call (M := mX3_readRange) (M' := mX10_takeNumber) (pc := 40) (st := [.int 0, .int 0, va_rf (some a_21)]) (rest := []) (av := [va_rf (some a_21), .int 0, .int 0]) (x_linkV (M := mX3_readRange) (M' := mX10_takeNumber) (As := [.int 0, .int 0]) (index := 113) (C := RX10) (T := TX10) (xE_10 c_25) rfl wd_351 wd_352 wd_350 xw_X10_takeNumber rfl (by decide) rfl rfl dX3_readRange_40) (ev_X10_takeNumber hO hP h_24) xw_X10_takeNumber rfl wd_118 dX3_readRange_40 (by decide) (by decide) (by simp [x_cat, x_catI, x_catJ])
            cases h
            exact x_callX z9 (evX_out rfl)
        · have z9 := x_call (M := mX3_readRange) (M' := mX10_takeSign) (pc := 31) (st := [.int 58, va_rf (some a_15)]) (rest := []) (av := [va_rf (some a_15), .int 58]) (x_linkV (M := mX3_readRange) (M' := mX10_takeSign) (As := [.int 58]) (index := 76) (C := RX10) (T := TX10) (xE_10 c_19) rfl wd_320 wd_321 wd_319 xw_X10_takeSign rfl (by decide) rfl rfl dX3_readRange_31) (ev_X10_takeSign hO hP h_18) xw_X10_takeSign rfl wd_118 dX3_readRange_31 (by decide) (by decide) (by simp [x_cat, x_catI, x_catJ])
          cases h
          exact x_callX z9 (evX_out rfl)
      · have z9 := x_call (M := mX3_readRange) (M' := mX10_takeNumber) (pc := 21) (st := [.int 7, .int 0, va_rf (some a_9)]) (rest := []) (av := [va_rf (some a_9), .int 0, .int 7]) (x_linkV (M := mX3_readRange) (M' := mX10_takeNumber) (As := [.int 0, .int 7]) (index := 113) (C := RX10) (T := TX10) (xE_10 c_13) rfl wd_351 wd_352 wd_350 xw_X10_takeNumber rfl (by decide) rfl rfl dX3_readRange_21) (ev_X10_takeNumber hO hP h_12) xw_X10_takeNumber rfl wd_118 dX3_readRange_21 (by decide) (by decide) (by simp [x_cat, x_catI, x_catJ])
        cases h
        exact x_callX z9 (evX_out rfl)
  · have z9 := x_call (M := mX3_readRange) (M' := mX10_skips) (pc := 6) (st := [.int 91, va_rf (some a_2)]) (rest := []) (av := [va_rf (some a_2), .int 91]) (x_linkV (M := mX3_readRange) (M' := mX10_skips) (As := [.int 91]) (index := 99) (C := RX10) (T := TX10) (xE_10 c_6) rfl wd_347 wd_348 wd_346 xw_X10_skips rfl (by decide) rfl rfl dX3_readRange_6) (ev_X10_skips hO hP h_5) xw_X10_skips rfl wd_118 dX3_readRange_6 (by decide) (by decide) (by simp [x_cat, x_catI, x_catJ])
    cases h
    exact x_callX z9 (evX_out rfl)
set_option maxHeartbeats 4000000 in
set_option maxRecDepth 100000 in
theorem ev_X3_tellWire_p28 {l : Launch} {G : xG} (hO : x_OK l G) {P : xP} (hP : x_PG P G) {a0 : Nat} {v1 : Int32} {v2 : Int64} {s0 : Option Nat} {s1 : Int32} {σ σ' : xS} {rr : Unit ⊕ String} (h : dm_X3_tellWire_p28 P a0 v1 v2 s0 s1 σ = some (rr, σ')) : Ev l G mX3_tellWire 28 [(0, va_rf (some a0)), (1, .int v1), (2, .long v2)] [.int s1, va_rf s0] σ (xrV rr) σ' := by
  unfold dm_X3_tellWire_p28 at h
  obtain ⟨a_1, ea_1, h⟩ := x_some_e h
  refine ev_at (st' := [.int s1, va_rf (some a_1)]) rfl (by rw [ea_1]) ?_
  obtain ⟨c_5, h⟩ := x_chk_e h
  rcases x_bind_e h with ⟨v_2, σ_3, h_4, h⟩ | ⟨E_26, σ_3, h_4, h⟩
  · have z9 := x_call (M := mX3_tellWire) (M' := mX10_refuseIf) (pc := 28) (st := [.int s1, va_rf (some a_1)]) (rest := []) (av := [va_rf (some a_1), .int s1]) (x_linkV (M := mX3_tellWire) (M' := mX10_refuseIf) (As := [.int s1]) (index := 55) (C := RX10) (T := TX10) (xE_10 c_5) rfl wd_333 wd_243 wd_241 xw_X10_refuseIf rfl (by decide) rfl rfl dX3_tellWire_28) (ev_X10_refuseIf hO hP h_4) xw_X10_refuseIf rfl wd_118 dX3_tellWire_28 (by decide) (by decide) (by simp [x_cat, x_catI, x_catJ])
    refine x_callR z9 ?_
    refine ev_at (st' := []) rfl rfl ?_
    refine ev_aload_n (j := 0) (x := (some a0)) dX3_tellWire_31 rfl rfl ?_
    obtain ⟨c_6, h⟩ := x_chk_e h
    refine ev_get (C := RX3) (T := TX3) (k := 2) inX3 (xE_4 c_6) rfl (by decide) wd_328 (Or.inr wd_327) rfl dX3_tellWire_32 ?_
    obtain ⟨c_7, h⟩ := x_chk_e h
    obtain ⟨σ_8, eσ_8, h⟩ := x_let_e h
    refine ev_new (C := RX4) (T := TX4) (N := 4) (ci := 4) inX4 tyX4 tyX4_ok rfl (by decide) wd_334 wd_335 wd_336 (hP.2.1 ▸ c_7.1) (hP.2.2.1 ▸ c_7.2) (nE_5 _ _) nF_5 dX3_tellWire_35 (eσ_8 ▸ ?_)
    refine ev_dup dX3_tellWire_38 (x_cat _) ?_
    refine ev_lload_n (j := 2) (x := v2) dX3_tellWire_39 rfl rfl ?_
    refine ev_iconst (v := 2) dX3_tellWire_40 (by decide) ?_
    refine ev_iload_n (j := 1) (x := v1) dX3_tellWire_41 rfl rfl ?_
    rcases x_bind_e h with ⟨v_9, σ_10, h_11, h⟩ | ⟨E_25, σ_10, h_11, h⟩
    · have z9 := x_call (M := mX3_tellWire) (M' := mX4_init) (pc := 42) (st := [.int v1, .int 2, .long v2, va_rf (some σ_3.sz), va_rf (some σ_3.sz), va_rf (σ_3.R 302 a0)]) (rest := [va_rf (some σ_3.sz), va_rf (σ_3.R 302 a0)]) (av := [va_rf (some σ_3.sz), .long v2, .int 2, .int v1]) (x_linkI (M := mX3_tellWire) (M' := mX4_init) (As := [.long v2, .int 2, .int v1]) (index := 92) (b := σ_3.sz) rfl wd_338 wd_339 wd_337 (by decide) rfl rfl dX3_tellWire_42) (ev_X4_init hO hP h_11) xw_X4_init rfl wd_336 dX3_tellWire_42 (by decide) (by decide) (by simp [x_cat, x_catI, x_catJ])
      refine x_callR z9 ?_
      refine ev_at (st' := [va_rf (some σ_3.sz), va_rf (σ_3.R 302 a0)]) rfl rfl ?_
      obtain ⟨a_12, ea_12, h⟩ := x_some_e h
      refine ev_at (st' := [va_rf (some σ_3.sz), va_rf (some a_12)]) rfl (by rw [ea_12]) ?_
      obtain ⟨c_16, h⟩ := x_chk_e h
      rcases x_bind_e h with ⟨v_13, σ_14, h_15, h⟩ | ⟨E_24, σ_14, h_15, h⟩
      · have z9 := x_call (M := mX3_tellWire) (M' := mX5_addNet) (pc := 45) (st := [va_rf (some σ_3.sz), va_rf (some a_12)]) (rest := []) (av := [va_rf (some a_12), va_rf (some σ_3.sz)]) (x_linkV (M := mX3_tellWire) (M' := mX5_addNet) (As := [va_rf (some σ_3.sz)]) (index := 95) (C := RX5) (T := TX5) (xE_6 c_16) rfl wd_342 wd_343 wd_341 xw_X5_addNet rfl (by decide) rfl rfl dX3_tellWire_45) (ev_X5_addNet hO hP h_15) xw_X5_addNet rfl wd_274 dX3_tellWire_45 (by decide) (by decide) (by simp [x_cat, x_catI, x_catJ])
        refine x_callR z9 ?_
        refine ev_at (st' := []) rfl rfl ?_
        refine ev_aload_n (j := 0) (x := (some a0)) dX3_tellWire_48 rfl rfl ?_
        obtain ⟨c_17, h⟩ := x_chk_e h
        refine ev_get (C := RX3) (T := TX3) (k := 0) inX3 (xE_4 c_17) rfl (by decide) wd_308 (Or.inr wd_307) rfl dX3_tellWire_49 ?_
        obtain ⟨a_18, ea_18, h⟩ := x_some_e h
        refine ev_at (st' := [va_rf (some a_18)]) rfl (by rw [ea_18]) ?_
        obtain ⟨c_22, h⟩ := x_chk_e h
        rcases x_bind_e h with ⟨v_19, σ_20, h_21, h⟩ | ⟨E_23, σ_20, h_21, h⟩
        · have z9 := x_call (M := mX3_tellWire) (M' := mX10_step) (pc := 52) (st := [va_rf (some a_18)]) (rest := []) (av := [va_rf (some a_18)]) (x_linkV (M := mX3_tellWire) (M' := mX10_step) (As := []) (index := 58) (C := RX10) (T := TX10) (xE_10 c_22) rfl wd_344 wd_247 wd_245 xw_X10_step rfl (by decide) rfl rfl dX3_tellWire_52) (ev_X10_step hO hP h_21) xw_X10_step rfl wd_118 dX3_tellWire_52 (by decide) (by decide) (by simp [x_cat, x_catI, x_catJ])
          refine x_callR z9 ?_
          refine ev_at (st' := []) rfl rfl ?_
          cases h
          exact ev_vret rfl dX3_tellWire_55
        · have z9 := x_call (M := mX3_tellWire) (M' := mX10_step) (pc := 52) (st := [va_rf (some a_18)]) (rest := []) (av := [va_rf (some a_18)]) (x_linkV (M := mX3_tellWire) (M' := mX10_step) (As := []) (index := 58) (C := RX10) (T := TX10) (xE_10 c_22) rfl wd_344 wd_247 wd_245 xw_X10_step rfl (by decide) rfl rfl dX3_tellWire_52) (ev_X10_step hO hP h_21) xw_X10_step rfl wd_118 dX3_tellWire_52 (by decide) (by decide) (by simp [x_cat, x_catI, x_catJ])
          cases h
          exact x_callX z9 (evX_out rfl)
      · have z9 := x_call (M := mX3_tellWire) (M' := mX5_addNet) (pc := 45) (st := [va_rf (some σ_3.sz), va_rf (some a_12)]) (rest := []) (av := [va_rf (some a_12), va_rf (some σ_3.sz)]) (x_linkV (M := mX3_tellWire) (M' := mX5_addNet) (As := [va_rf (some σ_3.sz)]) (index := 95) (C := RX5) (T := TX5) (xE_6 c_16) rfl wd_342 wd_343 wd_341 xw_X5_addNet rfl (by decide) rfl rfl dX3_tellWire_45) (ev_X5_addNet hO hP h_15) xw_X5_addNet rfl wd_274 dX3_tellWire_45 (by decide) (by decide) (by simp [x_cat, x_catI, x_catJ])
        cases h
        exact x_callX z9 (evX_out rfl)
    · have z9 := x_call (M := mX3_tellWire) (M' := mX4_init) (pc := 42) (st := [.int v1, .int 2, .long v2, va_rf (some σ_3.sz), va_rf (some σ_3.sz), va_rf (σ_3.R 302 a0)]) (rest := [va_rf (some σ_3.sz), va_rf (σ_3.R 302 a0)]) (av := [va_rf (some σ_3.sz), .long v2, .int 2, .int v1]) (x_linkI (M := mX3_tellWire) (M' := mX4_init) (As := [.long v2, .int 2, .int v1]) (index := 92) (b := σ_3.sz) rfl wd_338 wd_339 wd_337 (by decide) rfl rfl dX3_tellWire_42) (ev_X4_init hO hP h_11) xw_X4_init rfl wd_336 dX3_tellWire_42 (by decide) (by decide) (by simp [x_cat, x_catI, x_catJ])
      cases h
      exact x_callX z9 (evX_out rfl)
  · have z9 := x_call (M := mX3_tellWire) (M' := mX10_refuseIf) (pc := 28) (st := [.int s1, va_rf (some a_1)]) (rest := []) (av := [va_rf (some a_1), .int s1]) (x_linkV (M := mX3_tellWire) (M' := mX10_refuseIf) (As := [.int s1]) (index := 55) (C := RX10) (T := TX10) (xE_10 c_5) rfl wd_333 wd_243 wd_241 xw_X10_refuseIf rfl (by decide) rfl rfl dX3_tellWire_28) (ev_X10_refuseIf hO hP h_4) xw_X10_refuseIf rfl wd_118 dX3_tellWire_28 (by decide) (by decide) (by simp [x_cat, x_catI, x_catJ])
    cases h
    exact x_callX z9 (evX_out rfl)
set_option maxHeartbeats 4000000 in
set_option maxRecDepth 100000 in
theorem ev_X3_tellWire {l : Launch} {G : xG} (hO : x_OK l G) {P : xP} (hP : x_PG P G) {a0 : Nat} {v1 : Int32} {σ σ' : xS} {rr : Unit ⊕ String} (h : dm_X3_tellWire P a0 v1 σ = some (rr, σ')) : EvM l G mX3_tellWire [va_rf (some a0), .int v1] σ (xrV rr) σ' := by
  unfold dm_X3_tellWire at h
  refine evM_of hO (by decide +kernel) (x_lenI (by simp [x_cat, x_catI, x_catJ, mX3_tellWire, xM.maxL])) ?_
  refine Eq.mp (congrArg (fun z => Ev l G mX3_tellWire 0 z [] σ (xrV rr) σ') (show [(0, va_rf (some a0)), (1, .int v1)] = lv_args 0 [va_rf (some a0), .int v1] by simp [lv_args, x_cat, x_catI, x_catJ])) ?_
  refine ev_aload_n (j := 0) (x := (some a0)) dX3_tellWire_0 rfl rfl ?_
  obtain ⟨c_1, h⟩ := x_chk_e h
  refine ev_get (C := RX3) (T := TX3) (k := 0) inX3 (xE_4 c_1) rfl (by decide) wd_308 (Or.inr wd_307) rfl dX3_tellWire_1 ?_
  obtain ⟨a_2, ea_2, h⟩ := x_some_e h
  refine ev_at (st' := [va_rf (some a_2)]) rfl (by rw [ea_2]) ?_
  obtain ⟨c_6, h⟩ := x_chk_e h
  rcases x_bind_e h with ⟨v_3, σ_4, h_5, h⟩ | ⟨E_15, σ_4, h_5, h⟩
  · have z9 := x_call (M := mX3_tellWire) (M' := mX10_name) (pc := 4) (st := [va_rf (some a_2)]) (rest := []) (av := [va_rf (some a_2)]) (x_linkV (M := mX3_tellWire) (M' := mX10_name) (As := []) (index := 84) (C := RX10) (T := TX10) (xE_10 c_6) rfl wd_326 wd_281 wd_279 xw_X10_name rfl (by decide) rfl rfl dX3_tellWire_4) (ev_X10_name hO hP h_5) xw_X10_name rfl wd_118 dX3_tellWire_4 (by decide) (by decide) (by simp [x_cat, x_catI, x_catJ])
    refine x_callR z9 ?_
    refine ev_at (st' := [.long v_3]) rfl rfl ?_
    refine ev_lstore_n (i := 2) (lv' := [(2, .long v_3), (0, va_rf (some a0)), (1, .int v1)]) dX3_tellWire_7 rfl (by decide) rfl ?_
    refine ev_aload_n (j := 1) (x := (some a0)) dX3_tellWire_8 rfl rfl ?_
    obtain ⟨c_7, h⟩ := x_chk_e h
    refine ev_get (C := RX3) (T := TX3) (k := 0) inX3 (xE_4 c_7) rfl (by decide) wd_308 (Or.inr wd_307) rfl dX3_tellWire_9 ?_
    refine ev_aload_n (j := 1) (x := (some a0)) dX3_tellWire_12 rfl rfl ?_
    refine ev_get (C := RX3) (T := TX3) (k := 2) inX3 (xE_4 c_7) rfl (by decide) wd_328 (Or.inr wd_327) rfl dX3_tellWire_13 ?_
    refine ev_lload_n (j := 0) (x := v_3) dX3_tellWire_16 rfl rfl ?_
    obtain ⟨a_8, ea_8, h⟩ := x_some_e h
    refine ev_at (st' := [.long v_3, va_rf (some a_8), va_rf (σ_4.R 300 a0)]) rfl (by rw [ea_8]) ?_
    obtain ⟨c_12, h⟩ := x_chk_e h
    rcases x_bind_e h with ⟨v_9, σ_10, h_11, h⟩ | ⟨E_14, σ_10, h_11, h⟩
    · have z9 := x_call (M := mX3_tellWire) (M' := mX5_canTakeNet) (pc := 17) (st := [.long v_3, va_rf (some a_8), va_rf (σ_4.R 300 a0)]) (rest := [va_rf (σ_4.R 300 a0)]) (av := [va_rf (some a_8), .long v_3]) (x_linkV (M := mX3_tellWire) (M' := mX5_canTakeNet) (As := [.long v_3]) (index := 88) (C := RX5) (T := TX5) (xE_6 c_12) rfl wd_331 wd_332 wd_330 xw_X5_canTakeNet rfl (by decide) rfl rfl dX3_tellWire_17) (ev_X5_canTakeNet hO hP h_11) xw_X5_canTakeNet rfl wd_274 dX3_tellWire_17 (by decide) (by decide) (by simp [x_cat, x_catI, x_catJ])
      refine x_callR z9 ?_
      refine ev_at (st' := [.int v_9, va_rf (σ_4.R 300 a0)]) rfl rfl ?_
      by_cases c_13 : v_9 = 0
      · rw [if_pos c_13] at h
        refine ev_if_ne (x := v_9) (tgt := 27) dX3_tellWire_20 (by decide) (fun q9 => absurd c_13 q9) (fun _ => ?_)
        refine ev_iconst (v := 1) dX3_tellWire_23 (by decide) ?_
        refine ev_goto (tgt := 28) dX3_tellWire_24 (by decide) ?_
        exact ev_sub [1, 2, 0] rfl (ev_X3_tellWire_p28 hO hP h)
      · rw [if_neg c_13] at h
        refine ev_if_ne (x := v_9) (tgt := 27) dX3_tellWire_20 (by decide) (fun _ => ?_) (fun q9 => absurd q9 c_13)
        refine ev_iconst (v := 0) dX3_tellWire_27 (by decide) ?_
        exact ev_sub [1, 2, 0] rfl (ev_X3_tellWire_p28 hO hP h)
    · have z9 := x_call (M := mX3_tellWire) (M' := mX5_canTakeNet) (pc := 17) (st := [.long v_3, va_rf (some a_8), va_rf (σ_4.R 300 a0)]) (rest := [va_rf (σ_4.R 300 a0)]) (av := [va_rf (some a_8), .long v_3]) (x_linkV (M := mX3_tellWire) (M' := mX5_canTakeNet) (As := [.long v_3]) (index := 88) (C := RX5) (T := TX5) (xE_6 c_12) rfl wd_331 wd_332 wd_330 xw_X5_canTakeNet rfl (by decide) rfl rfl dX3_tellWire_17) (ev_X5_canTakeNet hO hP h_11) xw_X5_canTakeNet rfl wd_274 dX3_tellWire_17 (by decide) (by decide) (by simp [x_cat, x_catI, x_catJ])
      cases h
      exact x_callX z9 (evX_out rfl)
  · have z9 := x_call (M := mX3_tellWire) (M' := mX10_name) (pc := 4) (st := [va_rf (some a_2)]) (rest := []) (av := [va_rf (some a_2)]) (x_linkV (M := mX3_tellWire) (M' := mX10_name) (As := []) (index := 84) (C := RX10) (T := TX10) (xE_10 c_6) rfl wd_326 wd_281 wd_279 xw_X10_name rfl (by decide) rfl rfl dX3_tellWire_4) (ev_X10_name hO hP h_5) xw_X10_name rfl wd_118 dX3_tellWire_4 (by decide) (by decide) (by simp [x_cat, x_catI, x_catJ])
    cases h
    exact x_callX z9 (evX_out rfl)
set_option maxHeartbeats 4000000 in
set_option maxRecDepth 100000 in
theorem ev_X3_tellPort_p43 {l : Launch} {G : xG} (hO : x_OK l G) {P : xP} (hP : x_PG P G) {a0 : Nat} {v1 : Int32} {v2 : Int32} {v3 : Option Nat} {s0 : Option Nat} {s1 : Int32} {σ σ' : xS} {rr : Unit ⊕ String} (h : dm_X3_tellPort_p43 P a0 v1 v2 v3 s0 s1 σ = some (rr, σ')) : Ev l G mX3_tellPort 43 [(0, va_rf (some a0)), (1, .int v1), (2, .int v2), (3, va_rf v3)] [.int s1, va_rf s0] σ (xrV rr) σ' := by
  unfold dm_X3_tellPort_p43 at h
  obtain ⟨a_1, ea_1, h⟩ := x_some_e h
  refine ev_at (st' := [.int s1, va_rf (some a_1)]) rfl (by rw [ea_1]) ?_
  obtain ⟨c_5, h⟩ := x_chk_e h
  rcases x_bind_e h with ⟨v_2, σ_3, h_4, h⟩ | ⟨E_18, σ_3, h_4, h⟩
  · have z9 := x_call (M := mX3_tellPort) (M' := mX10_refuseIf) (pc := 43) (st := [.int s1, va_rf (some a_1)]) (rest := []) (av := [va_rf (some a_1), .int s1]) (x_linkV (M := mX3_tellPort) (M' := mX10_refuseIf) (As := [.int s1]) (index := 55) (C := RX10) (T := TX10) (xE_10 c_5) rfl wd_333 wd_243 wd_241 xw_X10_refuseIf rfl (by decide) rfl rfl dX3_tellPort_43) (ev_X10_refuseIf hO hP h_4) xw_X10_refuseIf rfl wd_118 dX3_tellPort_43 (by decide) (by decide) (by simp [x_cat, x_catI, x_catJ])
    refine x_callR z9 ?_
    refine ev_at (st' := []) rfl rfl ?_
    refine ev_aload_n (j := 3) (x := v3) dX3_tellPort_46 rfl rfl ?_
    refine ev_iload_n (j := 1) (x := v1) dX3_tellPort_47 rfl rfl ?_
    obtain ⟨a_6, ea_6, h⟩ := x_some_e h
    refine ev_at (st' := [.int v1, va_rf (some a_6)]) rfl (by rw [ea_6]) ?_
    obtain ⟨c_7, h⟩ := x_chk_e h
    obtain ⟨σ_8, eσ_8, h⟩ := x_let_e h
    refine ev_put (σ2 := σ_8) (C := RX4) (T := TX4) (k := 1) inX4 tyX4 tyX4_ok nmX4 (xE_5 c_7.1) rfl (by decide) wd_355 (Or.inl rfl) rfl rfl rfl rfl (Nat.le_of_ble_eq_true rfl) (hP.2.2.2.1 ▸ c_7.2) (by rw [eσ_8]; exact xP_5_1 _ c_7.1) (by rw [eσ_8]; exact xPut_I) dX3_tellPort_48 ?_
    refine ev_aload_n (j := 3) (x := v3) dX3_tellPort_51 rfl rfl ?_
    refine ev_iload_n (j := 2) (x := v2) dX3_tellPort_52 rfl rfl ?_
    refine ev_at (st' := [.int v2, va_rf (some a_6)]) rfl (by rw [ea_6]) ?_
    obtain ⟨c_9, h⟩ := x_chk_e h
    obtain ⟨σ_10, eσ_10, h⟩ := x_let_e h
    refine ev_put (σ2 := σ_10) (C := RX4) (T := TX4) (k := 2) inX4 tyX4 tyX4_ok nmX4 (xE_5 c_9.1) rfl (by decide) wd_356 (Or.inl rfl) rfl rfl rfl rfl (Nat.le_of_ble_eq_true rfl) (hP.2.2.2.1 ▸ c_9.2) (by rw [eσ_10]; exact xP_5_2 _ c_9.1) (by rw [eσ_10]; exact xPut_I) dX3_tellPort_53 ?_
    refine ev_aload_n (j := 0) (x := (some a0)) dX3_tellPort_56 rfl rfl ?_
    obtain ⟨c_11, h⟩ := x_chk_e h
    refine ev_get (C := RX3) (T := TX3) (k := 0) inX3 (xE_4 c_11) rfl (by decide) wd_308 (Or.inr wd_307) rfl dX3_tellPort_57 ?_
    obtain ⟨a_12, ea_12, h⟩ := x_some_e h
    refine ev_at (st' := [va_rf (some a_12)]) rfl (by rw [ea_12]) ?_
    obtain ⟨c_16, h⟩ := x_chk_e h
    rcases x_bind_e h with ⟨v_13, σ_14, h_15, h⟩ | ⟨E_17, σ_14, h_15, h⟩
    · have z9 := x_call (M := mX3_tellPort) (M' := mX10_step) (pc := 60) (st := [va_rf (some a_12)]) (rest := []) (av := [va_rf (some a_12)]) (x_linkV (M := mX3_tellPort) (M' := mX10_step) (As := []) (index := 58) (C := RX10) (T := TX10) (xE_10 c_16) rfl wd_344 wd_247 wd_245 xw_X10_step rfl (by decide) rfl rfl dX3_tellPort_60) (ev_X10_step hO hP h_15) xw_X10_step rfl wd_118 dX3_tellPort_60 (by decide) (by decide) (by simp [x_cat, x_catI, x_catJ])
      refine x_callR z9 ?_
      refine ev_at (st' := []) rfl rfl ?_
      cases h
      exact ev_vret rfl dX3_tellPort_63
    · have z9 := x_call (M := mX3_tellPort) (M' := mX10_step) (pc := 60) (st := [va_rf (some a_12)]) (rest := []) (av := [va_rf (some a_12)]) (x_linkV (M := mX3_tellPort) (M' := mX10_step) (As := []) (index := 58) (C := RX10) (T := TX10) (xE_10 c_16) rfl wd_344 wd_247 wd_245 xw_X10_step rfl (by decide) rfl rfl dX3_tellPort_60) (ev_X10_step hO hP h_15) xw_X10_step rfl wd_118 dX3_tellPort_60 (by decide) (by decide) (by simp [x_cat, x_catI, x_catJ])
      cases h
      exact x_callX z9 (evX_out rfl)
  · have z9 := x_call (M := mX3_tellPort) (M' := mX10_refuseIf) (pc := 43) (st := [.int s1, va_rf (some a_1)]) (rest := []) (av := [va_rf (some a_1), .int s1]) (x_linkV (M := mX3_tellPort) (M' := mX10_refuseIf) (As := [.int s1]) (index := 55) (C := RX10) (T := TX10) (xE_10 c_5) rfl wd_333 wd_243 wd_241 xw_X10_refuseIf rfl (by decide) rfl rfl dX3_tellPort_43) (ev_X10_refuseIf hO hP h_4) xw_X10_refuseIf rfl wd_118 dX3_tellPort_43 (by decide) (by decide) (by simp [x_cat, x_catI, x_catJ])
    cases h
    exact x_callX z9 (evX_out rfl)
set_option maxHeartbeats 4000000 in
set_option maxRecDepth 100000 in
theorem ev_X3_tellPort_p38 {l : Launch} {G : xG} (hO : x_OK l G) {P : xP} (hP : x_PG P G) {a0 : Nat} {v1 : Int32} {v2 : Int32} {v3 : Option Nat} {s0 : Option Nat} {σ σ' : xS} {rr : Unit ⊕ String} (h : dm_X3_tellPort_p38 P a0 v1 v2 v3 s0 σ = some (rr, σ')) : Ev l G mX3_tellPort 38 [(0, va_rf (some a0)), (1, .int v1), (2, .int v2), (3, va_rf v3)] [va_rf s0] σ (xrV rr) σ' := by
  unfold dm_X3_tellPort_p38 at h
  refine ev_iconst (v := 1) dX3_tellPort_38 (by decide) ?_
  refine ev_goto (tgt := 43) dX3_tellPort_39 (by decide) ?_
  exact ev_sub [0, 1, 2, 3] rfl (ev_X3_tellPort_p43 hO hP h)
set_option maxHeartbeats 4000000 in
set_option maxRecDepth 100000 in
theorem ev_X3_tellPort {l : Launch} {G : xG} (hO : x_OK l G) {P : xP} (hP : x_PG P G) {a0 : Nat} {v1 : Int32} {v2 : Int32} {σ σ' : xS} {rr : Unit ⊕ String} (h : dm_X3_tellPort P a0 v1 v2 σ = some (rr, σ')) : EvM l G mX3_tellPort [va_rf (some a0), .int v1, .int v2] σ (xrV rr) σ' := by
  unfold dm_X3_tellPort at h
  refine evM_of hO (by decide +kernel) (x_lenI (by simp [x_cat, x_catI, x_catJ, mX3_tellPort, xM.maxL])) ?_
  refine Eq.mp (congrArg (fun z => Ev l G mX3_tellPort 0 z [] σ (xrV rr) σ') (show [(0, va_rf (some a0)), (1, .int v1), (2, .int v2)] = lv_args 0 [va_rf (some a0), .int v1, .int v2] by simp [lv_args, x_cat, x_catI, x_catJ])) ?_
  refine ev_aload_n (j := 0) (x := (some a0)) dX3_tellPort_0 rfl rfl ?_
  obtain ⟨c_1, h⟩ := x_chk_e h
  refine ev_get (C := RX3) (T := TX3) (k := 2) inX3 (xE_4 c_1) rfl (by decide) wd_328 (Or.inr wd_327) rfl dX3_tellPort_1 ?_
  refine ev_aload_n (j := 0) (x := (some a0)) dX3_tellPort_4 rfl rfl ?_
  refine ev_get (C := RX3) (T := TX3) (k := 2) inX3 (xE_4 c_1) rfl (by decide) wd_328 (Or.inr wd_327) rfl dX3_tellPort_5 ?_
  obtain ⟨a_2, ea_2, h⟩ := x_some_e h
  refine ev_at (st' := [va_rf (some a_2), va_rf (σ.R 302 a0)]) rfl (by rw [ea_2]) ?_
  obtain ⟨c_3, h⟩ := x_chk_e h
  refine ev_get (C := RX5) (T := TX5) (k := 4) inX5 (xE_6 c_3) rfl (by decide) wd_353 (Or.inl rfl) rfl dX3_tellPort_8 ?_
  refine ev_aload_n (j := 0) (x := (some a0)) dX3_tellPort_11 rfl rfl ?_
  refine ev_get (C := RX3) (T := TX3) (k := 0) inX3 (xE_4 c_1) rfl (by decide) wd_308 (Or.inr wd_307) rfl dX3_tellPort_12 ?_
  obtain ⟨a_4, ea_4, h⟩ := x_some_e h
  refine ev_at (st' := [va_rf (some a_4), .int (σ.I 504 a_2), va_rf (σ.R 302 a0)]) rfl (by rw [ea_4]) ?_
  obtain ⟨c_8, h⟩ := x_chk_e h
  rcases x_bind_e h with ⟨v_5, σ_6, h_7, h⟩ | ⟨E_19, σ_6, h_7, h⟩
  · have z9 := x_call (M := mX3_tellPort) (M' := mX10_name) (pc := 15) (st := [va_rf (some a_4), .int (σ.I 504 a_2), va_rf (σ.R 302 a0)]) (rest := [.int (σ.I 504 a_2), va_rf (σ.R 302 a0)]) (av := [va_rf (some a_4)]) (x_linkV (M := mX3_tellPort) (M' := mX10_name) (As := []) (index := 84) (C := RX10) (T := TX10) (xE_10 c_8) rfl wd_326 wd_281 wd_279 xw_X10_name rfl (by decide) rfl rfl dX3_tellPort_15) (ev_X10_name hO hP h_7) xw_X10_name rfl wd_118 dX3_tellPort_15 (by decide) (by decide) (by simp [x_cat, x_catI, x_catJ])
    refine x_callR z9 ?_
    refine ev_at (st' := [.long v_5, .int (σ.I 504 a_2), va_rf (σ.R 302 a0)]) rfl rfl ?_
    refine ev_at (st' := [.long v_5, .int (σ.I 504 a_2), va_rf (some a_2)]) rfl (by rw [ea_2]) ?_
    obtain ⟨c_12, h⟩ := x_chk_e h
    rcases x_bind_e h with ⟨v_9, σ_10, h_11, h⟩ | ⟨E_18, σ_10, h_11, h⟩
    · have z9 := x_call (M := mX3_tellPort) (M' := mX5_netAmong) (pc := 18) (st := [.long v_5, .int (σ.I 504 a_2), va_rf (some a_2)]) (rest := []) (av := [va_rf (some a_2), .int (σ.I 504 a_2), .long v_5]) (x_linkV (M := mX3_tellPort) (M' := mX5_netAmong) (As := [.int (σ.I 504 a_2), .long v_5]) (index := 121) (C := RX5) (T := TX5) (xE_6 c_12) rfl wd_354 wd_300 wd_298 xw_X5_netAmong rfl (by decide) rfl rfl dX3_tellPort_18) (ev_X5_netAmong hO hP h_11) xw_X5_netAmong rfl wd_274 dX3_tellPort_18 (by decide) (by decide) (by simp [x_cat, x_catI, x_catJ])
      refine x_callR z9 ?_
      refine ev_at (st' := [va_rf v_9]) rfl rfl ?_
      refine ev_astore_n (i := 3) (lv' := [(3, va_rf v_9), (0, va_rf (some a0)), (1, .int v1), (2, .int v2)]) dX3_tellPort_21 rfl (by decide) rfl ?_
      refine ev_aload_n (j := 1) (x := (some a0)) dX3_tellPort_22 rfl rfl ?_
      obtain ⟨c_13, h⟩ := x_chk_e h
      refine ev_get (C := RX3) (T := TX3) (k := 0) inX3 (xE_4 c_13) rfl (by decide) wd_308 (Or.inr wd_307) rfl dX3_tellPort_23 ?_
      refine ev_aload_n (j := 0) (x := v_9) dX3_tellPort_26 rfl rfl ?_
      by_cases c_14 : v_9 = none
      · rw [if_pos c_14] at h
        refine ev_ifnull (x := v_9) (tgt := 38) dX3_tellPort_27 (by decide) (fun _ => ?_) (fun q9 => absurd c_14 q9)
        exact ev_sub [1, 2, 3, 0] rfl (ev_X3_tellPort_p38 hO hP h)
      · rw [if_neg c_14] at h
        refine ev_ifnull (x := v_9) (tgt := 38) dX3_tellPort_27 (by decide) (fun q9 => absurd q9 c_14) (fun _ => ?_)
        refine ev_aload_n (j := 0) (x := v_9) dX3_tellPort_30 rfl rfl ?_
        obtain ⟨a_15, ea_15, h⟩ := x_some_e h
        refine ev_at (st' := [va_rf (some a_15), va_rf (σ_10.R 300 a0)]) rfl (by rw [ea_15]) ?_
        obtain ⟨c_16, h⟩ := x_chk_e h
        refine ev_get (C := RX4) (T := TX4) (k := 1) inX4 (xE_5 c_16) rfl (by decide) wd_355 (Or.inl rfl) rfl dX3_tellPort_31 ?_
        refine ev_iconst (v := -1) dX3_tellPort_34 (by decide) ?_
        by_cases c_17 : (σ_10.I 401 a_15) = (-1)
        · rw [if_pos c_17] at h
          refine ev_icmp_eq (x := (σ_10.I 401 a_15)) (y := (-1)) (tgt := 42) dX3_tellPort_35 (by decide) (fun _ => ?_) (fun q9 => absurd c_17 q9)
          refine ev_iconst (v := 0) dX3_tellPort_42 (by decide) ?_
          exact ev_sub [1, 2, 3, 0] rfl (ev_X3_tellPort_p43 hO hP h)
        · rw [if_neg c_17] at h
          refine ev_icmp_eq (x := (σ_10.I 401 a_15)) (y := (-1)) (tgt := 42) dX3_tellPort_35 (by decide) (fun q9 => absurd q9 c_17) (fun _ => ?_)
          exact ev_sub [1, 2, 3, 0] rfl (ev_X3_tellPort_p38 hO hP h)
    · have z9 := x_call (M := mX3_tellPort) (M' := mX5_netAmong) (pc := 18) (st := [.long v_5, .int (σ.I 504 a_2), va_rf (some a_2)]) (rest := []) (av := [va_rf (some a_2), .int (σ.I 504 a_2), .long v_5]) (x_linkV (M := mX3_tellPort) (M' := mX5_netAmong) (As := [.int (σ.I 504 a_2), .long v_5]) (index := 121) (C := RX5) (T := TX5) (xE_6 c_12) rfl wd_354 wd_300 wd_298 xw_X5_netAmong rfl (by decide) rfl rfl dX3_tellPort_18) (ev_X5_netAmong hO hP h_11) xw_X5_netAmong rfl wd_274 dX3_tellPort_18 (by decide) (by decide) (by simp [x_cat, x_catI, x_catJ])
      cases h
      exact x_callX z9 (evX_out rfl)
  · have z9 := x_call (M := mX3_tellPort) (M' := mX10_name) (pc := 15) (st := [va_rf (some a_4), .int (σ.I 504 a_2), va_rf (σ.R 302 a0)]) (rest := [.int (σ.I 504 a_2), va_rf (σ.R 302 a0)]) (av := [va_rf (some a_4)]) (x_linkV (M := mX3_tellPort) (M' := mX10_name) (As := []) (index := 84) (C := RX10) (T := TX10) (xE_10 c_8) rfl wd_326 wd_281 wd_279 xw_X10_name rfl (by decide) rfl rfl dX3_tellPort_15) (ev_X10_name hO hP h_7) xw_X10_name rfl wd_118 dX3_tellPort_15 (by decide) (by decide) (by simp [x_cat, x_catI, x_catJ])
    cases h
    exact x_callX z9 (evX_out rfl)
set_option maxHeartbeats 4000000 in
set_option maxRecDepth 100000 in
theorem ev_X3_readNets_p47 {l : Launch} {G : xG} (hO : x_OK l G) {P : xP} (hP : x_PG P G) {a0 : Nat} {k17 : Int32 → Int32 → Int32 → Int32 → xS → xO Unit} (hk17 : ∀ {v1 : Int32} {v2 : Int32} {v3 : Int32} {v4 : Int32} {σ σ' : xS} {rr : Unit ⊕ String}, k17 v1 v2 v3 v4 σ = some (rr, σ') → Ev l G mX3_readNets 17 [(0, va_rf (some a0)), (1, .int v1), (2, .int v2), (3, .int v3), (4, .int v4)] [] σ (xrV rr) σ') {v1 : Int32} {v2 : Int32} {v4 : Int32} {σ σ' : xS} {rr : Unit ⊕ String} (h : dm_X3_readNets_p47 P k17 a0 v1 v2 v4 σ = some (rr, σ')) : Ev l G mX3_readNets 47 [(0, va_rf (some a0)), (1, .int v1), (2, .int v2), (4, .int v4)] [] σ (xrV rr) σ' := by
  unfold dm_X3_readNets_p47 at h
  refine ev_aload_n (j := 0) (x := (some a0)) dX3_readNets_47 rfl rfl ?_
  obtain ⟨c_1, h⟩ := x_chk_e h
  refine ev_get (C := RX3) (T := TX3) (k := 0) inX3 (xE_4 c_1) rfl (by decide) wd_308 (Or.inr wd_307) rfl dX3_readNets_48 ?_
  refine ev_bipush (v := 44) dX3_readNets_51 (by decide) ?_
  obtain ⟨a_2, ea_2, h⟩ := x_some_e h
  refine ev_at (st' := [.int 44, va_rf (some a_2)]) rfl (by rw [ea_2]) ?_
  obtain ⟨c_6, h⟩ := x_chk_e h
  rcases x_bind_e h with ⟨v_3, σ_4, h_5, h⟩ | ⟨E_8, σ_4, h_5, h⟩
  · have z9 := x_call (M := mX3_readNets) (M' := mX10_skips) (pc := 53) (st := [.int 44, va_rf (some a_2)]) (rest := []) (av := [va_rf (some a_2), .int 44]) (x_linkV (M := mX3_readNets) (M' := mX10_skips) (As := [.int 44]) (index := 99) (C := RX10) (T := TX10) (xE_10 c_6) rfl wd_347 wd_348 wd_346 xw_X10_skips rfl (by decide) rfl rfl dX3_readNets_53) (ev_X10_skips hO hP h_5) xw_X10_skips rfl wd_118 dX3_readNets_53 (by decide) (by decide) (by simp [x_cat, x_catI, x_catJ])
    refine x_callR z9 ?_
    refine ev_at (st' := [.int v_3]) rfl rfl ?_
    refine ev_istore_n (i := 3) (lv' := [(3, .int v_3), (0, va_rf (some a0)), (1, .int v1), (2, .int v2), (4, .int v4)]) dX3_readNets_56 rfl (by decide) rfl ?_
    obtain ⟨v_7, ev_7, h⟩ := x_let_e h
    refine ev_iinc (j := 4) (x := v4) (v := v_7) (lv' := [(4, .int v_7), (3, .int v_3), (0, va_rf (some a0)), (1, .int v1), (2, .int v2)]) dX3_readNets_57 rfl (by rw [ev_7]; rfl) (by decide) rfl ?_
    refine ev_goto (tgt := 17) dX3_readNets_60 (by decide) ?_
    exact ev_sub [2, 3, 4, 1, 0] rfl (hk17 h)
  · have z9 := x_call (M := mX3_readNets) (M' := mX10_skips) (pc := 53) (st := [.int 44, va_rf (some a_2)]) (rest := []) (av := [va_rf (some a_2), .int 44]) (x_linkV (M := mX3_readNets) (M' := mX10_skips) (As := [.int 44]) (index := 99) (C := RX10) (T := TX10) (xE_10 c_6) rfl wd_347 wd_348 wd_346 xw_X10_skips rfl (by decide) rfl rfl dX3_readNets_53) (ev_X10_skips hO hP h_5) xw_X10_skips rfl wd_118 dX3_readNets_53 (by decide) (by decide) (by simp [x_cat, x_catI, x_catJ])
    cases h
    exact x_callX z9 (evX_out rfl)
set_option maxHeartbeats 4000000 in
set_option maxRecDepth 100000 in
theorem ev_X3_readNets_p63 {l : Launch} {G : xG} (hO : x_OK l G) {P : xP} (hP : x_PG P G) {a0 : Nat} {σ σ' : xS} {rr : Unit ⊕ String} (h : dm_X3_readNets_p63 P a0 σ = some (rr, σ')) : Ev l G mX3_readNets 63 [(0, va_rf (some a0))] [] σ (xrV rr) σ' := by
  unfold dm_X3_readNets_p63 at h
  refine ev_aload_n (j := 0) (x := (some a0)) dX3_readNets_63 rfl rfl ?_
  obtain ⟨c_1, h⟩ := x_chk_e h
  refine ev_get (C := RX3) (T := TX3) (k := 0) inX3 (xE_4 c_1) rfl (by decide) wd_308 (Or.inr wd_307) rfl dX3_readNets_64 ?_
  refine ev_bipush (v := 59) dX3_readNets_67 (by decide) ?_
  obtain ⟨a_2, ea_2, h⟩ := x_some_e h
  refine ev_at (st' := [.int 59, va_rf (some a_2)]) rfl (by rw [ea_2]) ?_
  obtain ⟨c_6, h⟩ := x_chk_e h
  rcases x_bind_e h with ⟨v_3, σ_4, h_5, h⟩ | ⟨E_7, σ_4, h_5, h⟩
  · have z9 := x_call (M := mX3_readNets) (M' := mX10_takeSign) (pc := 69) (st := [.int 59, va_rf (some a_2)]) (rest := []) (av := [va_rf (some a_2), .int 59]) (x_linkV (M := mX3_readNets) (M' := mX10_takeSign) (As := [.int 59]) (index := 76) (C := RX10) (T := TX10) (xE_10 c_6) rfl wd_320 wd_321 wd_319 xw_X10_takeSign rfl (by decide) rfl rfl dX3_readNets_69) (ev_X10_takeSign hO hP h_5) xw_X10_takeSign rfl wd_118 dX3_readNets_69 (by decide) (by decide) (by simp [x_cat, x_catI, x_catJ])
    refine x_callR z9 ?_
    refine ev_at (st' := []) rfl rfl ?_
    cases h
    exact ev_vret rfl dX3_readNets_72
  · have z9 := x_call (M := mX3_readNets) (M' := mX10_takeSign) (pc := 69) (st := [.int 59, va_rf (some a_2)]) (rest := []) (av := [va_rf (some a_2), .int 59]) (x_linkV (M := mX3_readNets) (M' := mX10_takeSign) (As := [.int 59]) (index := 76) (C := RX10) (T := TX10) (xE_10 c_6) rfl wd_320 wd_321 wd_319 xw_X10_takeSign rfl (by decide) rfl rfl dX3_readNets_69) (ev_X10_takeSign hO hP h_5) xw_X10_takeSign rfl wd_118 dX3_readNets_69 (by decide) (by decide) (by simp [x_cat, x_catI, x_catJ])
    cases h
    exact x_callX z9 (evX_out rfl)
set_option maxHeartbeats 4000000 in
set_option maxRecDepth 100000 in
theorem ev_X3_readNets_L17 {l : Launch} {G : xG} (hO : x_OK l G) {P : xP} (hP : x_PG P G) {a0 : Nat} : ∀ (n : Nat) {v1 : Int32} {v2 : Int32} {v3 : Int32} {v4 : Int32} {σ σ' : xS} {rr : Unit ⊕ String}, dm_X3_readNets_L17 P a0 n v1 v2 v3 v4 σ = some (rr, σ') → Ev l G mX3_readNets 17 [(0, va_rf (some a0)), (1, .int v1), (2, .int v2), (3, .int v3), (4, .int v4)] [] σ (xrV rr) σ' := by
  intro n
  induction n with
  | zero => intro v1 v2 v3 v4 σ σ' rr h; cases h
  | succ n ih =>
    intro v1 v2 v3 v4 σ σ' rr h
    rw [dm_X3_readNets_L17] at h
    refine ev_iload_n (j := 3) (x := v3) dX3_readNets_17 rfl rfl ?_
    by_cases c_1 : v3 = 0
    · rw [if_pos c_1] at h
      refine ev_if_eq (x := v3) (tgt := 63) dX3_readNets_18 (by decide) (fun _ => ?_) (fun q9 => absurd c_1 q9)
      exact ev_sub [0] rfl (ev_X3_readNets_p63 hO hP h)
    · rw [if_neg c_1] at h
      refine ev_if_eq (x := v3) (tgt := 63) dX3_readNets_18 (by decide) (fun q9 => absurd q9 c_1) (fun _ => ?_)
      refine ev_iload (j := 4) (x := v4) dX3_readNets_21 rfl ?_
      refine ev_bipush (v := 16) dX3_readNets_23 (by decide) ?_
      by_cases c_2 : 16 < v4
      · rw [if_pos c_2] at h
        refine ev_icmp_gt (x := v4) (y := 16) (tgt := 63) dX3_readNets_25 (by decide) (fun _ => ?_) (fun q9 => absurd c_2 q9)
        exact ev_sub [0] rfl (ev_X3_readNets_p63 hO hP h)
      · rw [if_neg c_2] at h
        refine ev_icmp_gt (x := v4) (y := 16) (tgt := 63) dX3_readNets_25 (by decide) (fun q9 => absurd q9 c_2) (fun _ => ?_)
        refine ev_iload_n (j := 1) (x := v1) dX3_readNets_28 rfl rfl ?_
        refine ev_iconst (v := 2) dX3_readNets_29 (by decide) ?_
        by_cases c_3 : v1 = 2
        · rw [if_pos c_3] at h
          refine ev_icmp_ne (x := v1) (y := 2) (tgt := 41) dX3_readNets_30 (by decide) (fun q9 => absurd c_3 q9) (fun _ => ?_)
          refine ev_aload_n (j := 0) (x := (some a0)) dX3_readNets_33 rfl rfl ?_
          refine ev_iload_n (j := 2) (x := v2) dX3_readNets_34 rfl rfl ?_
          obtain ⟨c_12, h⟩ := x_chk_e h
          rcases x_bind_e h with ⟨v_9, σ_10, h_11, h⟩ | ⟨E_13, σ_10, h_11, h⟩
          · have z9 := x_call (M := mX3_readNets) (M' := mX3_tellWire) (pc := 35) (st := [.int v2, va_rf (some a0)]) (rest := []) (av := [va_rf (some a0), .int v2]) (x_linkV (M := mX3_readNets) (M' := mX3_tellWire) (As := [.int v2]) (index := 106) (C := RX3) (T := TX3) (xE_4 c_12) rfl wd_364 wd_365 (wG_in (List.mem_append_left _ (List.mem_of_getElem? (i := 9) rfl)) rfl) xw_X3_tellWire rfl (by decide) rfl rfl dX3_readNets_35) (ev_X3_tellWire hO hP h_11) xw_X3_tellWire rfl wd_124 dX3_readNets_35 (by decide) (by decide) (by simp [x_cat, x_catI, x_catJ])
            refine x_callR z9 ?_
            refine ev_at (st' := []) rfl rfl ?_
            refine ev_goto (tgt := 47) dX3_readNets_38 (by decide) ?_
            exact ev_sub [0, 1, 2, 4] rfl (ev_X3_readNets_p47 hO hP ih h)
          · have z9 := x_call (M := mX3_readNets) (M' := mX3_tellWire) (pc := 35) (st := [.int v2, va_rf (some a0)]) (rest := []) (av := [va_rf (some a0), .int v2]) (x_linkV (M := mX3_readNets) (M' := mX3_tellWire) (As := [.int v2]) (index := 106) (C := RX3) (T := TX3) (xE_4 c_12) rfl wd_364 wd_365 (wG_in (List.mem_append_left _ (List.mem_of_getElem? (i := 9) rfl)) rfl) xw_X3_tellWire rfl (by decide) rfl rfl dX3_readNets_35) (ev_X3_tellWire hO hP h_11) xw_X3_tellWire rfl wd_124 dX3_readNets_35 (by decide) (by decide) (by simp [x_cat, x_catI, x_catJ])
            cases h
            exact x_callX z9 (evX_out rfl)
        · rw [if_neg c_3] at h
          refine ev_icmp_ne (x := v1) (y := 2) (tgt := 41) dX3_readNets_30 (by decide) (fun _ => ?_) (fun q9 => absurd q9 c_3)
          refine ev_aload_n (j := 0) (x := (some a0)) dX3_readNets_41 rfl rfl ?_
          refine ev_iload_n (j := 1) (x := v1) dX3_readNets_42 rfl rfl ?_
          refine ev_iload_n (j := 2) (x := v2) dX3_readNets_43 rfl rfl ?_
          obtain ⟨c_7, h⟩ := x_chk_e h
          rcases x_bind_e h with ⟨v_4, σ_5, h_6, h⟩ | ⟨E_8, σ_5, h_6, h⟩
          · have z9 := x_call (M := mX3_readNets) (M' := mX3_tellPort) (pc := 44) (st := [.int v2, .int v1, va_rf (some a0)]) (rest := []) (av := [va_rf (some a0), .int v1, .int v2]) (x_linkV (M := mX3_readNets) (M' := mX3_tellPort) (As := [.int v1, .int v2]) (index := 109) (C := RX3) (T := TX3) (xE_4 c_7) rfl wd_361 wd_362 (wG_in (List.mem_append_left _ (List.mem_of_getElem? (i := 10) rfl)) rfl) xw_X3_tellPort rfl (by decide) rfl rfl dX3_readNets_44) (ev_X3_tellPort hO hP h_6) xw_X3_tellPort rfl wd_124 dX3_readNets_44 (by decide) (by decide) (by simp [x_cat, x_catI, x_catJ])
            refine x_callR z9 ?_
            refine ev_at (st' := []) rfl rfl ?_
            exact ev_sub [0, 1, 2, 4] rfl (ev_X3_readNets_p47 hO hP ih h)
          · have z9 := x_call (M := mX3_readNets) (M' := mX3_tellPort) (pc := 44) (st := [.int v2, .int v1, va_rf (some a0)]) (rest := []) (av := [va_rf (some a0), .int v1, .int v2]) (x_linkV (M := mX3_readNets) (M' := mX3_tellPort) (As := [.int v1, .int v2]) (index := 109) (C := RX3) (T := TX3) (xE_4 c_7) rfl wd_361 wd_362 (wG_in (List.mem_append_left _ (List.mem_of_getElem? (i := 10) rfl)) rfl) xw_X3_tellPort rfl (by decide) rfl rfl dX3_readNets_44) (ev_X3_tellPort hO hP h_6) xw_X3_tellPort rfl wd_124 dX3_readNets_44 (by decide) (by decide) (by simp [x_cat, x_catI, x_catJ])
            cases h
            exact x_callX z9 (evX_out rfl)
set_option maxHeartbeats 4000000 in
set_option maxRecDepth 100000 in
theorem ev_X3_readNets {l : Launch} {G : xG} (hO : x_OK l G) {P : xP} (hP : x_PG P G) {a0 : Nat} {v1 : Int32} {σ σ' : xS} {rr : Unit ⊕ String} (h : dm_X3_readNets P a0 v1 σ = some (rr, σ')) : EvM l G mX3_readNets [va_rf (some a0), .int v1] σ (xrV rr) σ' := by
  unfold dm_X3_readNets at h
  refine evM_of hO (by decide +kernel) (x_lenI (by simp [x_cat, x_catI, x_catJ, mX3_readNets, xM.maxL])) ?_
  refine Eq.mp (congrArg (fun z => Ev l G mX3_readNets 0 z [] σ (xrV rr) σ') (show [(0, va_rf (some a0)), (1, .int v1)] = lv_args 0 [va_rf (some a0), .int v1] by simp [lv_args, x_cat, x_catI, x_catJ])) ?_
  refine ev_aload_n (j := 0) (x := (some a0)) dX3_readNets_0 rfl rfl ?_
  obtain ⟨c_1, h⟩ := x_chk_e h
  refine ev_get (C := RX3) (T := TX3) (k := 0) inX3 (xE_4 c_1) rfl (by decide) wd_308 (Or.inr wd_307) rfl dX3_readNets_1 ?_
  obtain ⟨a_2, ea_2, h⟩ := x_some_e h
  refine ev_at (st' := [va_rf (some a_2)]) rfl (by rw [ea_2]) ?_
  obtain ⟨c_6, h⟩ := x_chk_e h
  rcases x_bind_e h with ⟨v_3, σ_4, h_5, h⟩ | ⟨E_12, σ_4, h_5, h⟩
  · have z9 := x_call (M := mX3_readNets) (M' := mX10_step) (pc := 4) (st := [va_rf (some a_2)]) (rest := []) (av := [va_rf (some a_2)]) (x_linkV (M := mX3_readNets) (M' := mX10_step) (As := []) (index := 58) (C := RX10) (T := TX10) (xE_10 c_6) rfl wd_344 wd_247 wd_245 xw_X10_step rfl (by decide) rfl rfl dX3_readNets_4) (ev_X10_step hO hP h_5) xw_X10_step rfl wd_118 dX3_readNets_4 (by decide) (by decide) (by simp [x_cat, x_catI, x_catJ])
    refine x_callR z9 ?_
    refine ev_at (st' := []) rfl rfl ?_
    refine ev_aload_n (j := 0) (x := (some a0)) dX3_readNets_7 rfl rfl ?_
    obtain ⟨c_10, h⟩ := x_chk_e h
    rcases x_bind_e h with ⟨v_7, σ_8, h_9, h⟩ | ⟨E_11, σ_8, h_9, h⟩
    · have z9 := x_call (M := mX3_readNets) (M' := mX3_readRange) (pc := 8) (st := [va_rf (some a0)]) (rest := []) (av := [va_rf (some a0)]) (x_linkV (M := mX3_readNets) (M' := mX3_readRange) (As := []) (index := 102) (C := RX3) (T := TX3) (xE_4 c_10) rfl wd_358 wd_359 (wG_in (List.mem_append_left _ (List.mem_of_getElem? (i := 8) rfl)) rfl) xw_X3_readRange rfl (by decide) rfl rfl dX3_readNets_8) (ev_X3_readRange hO hP h_9) xw_X3_readRange rfl wd_124 dX3_readNets_8 (by decide) (by decide) (by simp [x_cat, x_catI, x_catJ])
      refine x_callR z9 ?_
      refine ev_at (st' := [.int v_7]) rfl rfl ?_
      refine ev_istore_n (i := 2) (lv' := [(2, .int v_7), (0, va_rf (some a0)), (1, .int v1)]) dX3_readNets_11 rfl (by decide) rfl ?_
      refine ev_iconst (v := 1) dX3_readNets_12 (by decide) ?_
      refine ev_istore_n (i := 3) (lv' := [(3, .int 1), (2, .int v_7), (0, va_rf (some a0)), (1, .int v1)]) dX3_readNets_13 rfl (by decide) rfl ?_
      refine ev_iconst (v := 0) dX3_readNets_14 (by decide) ?_
      refine ev_istore (i := 4) (lv' := [(4, .int 0), (3, .int 1), (2, .int v_7), (0, va_rf (some a0)), (1, .int v1)]) dX3_readNets_15 (by decide) rfl ?_
      exact ev_sub [3, 4, 2, 1, 0] rfl (ev_X3_readNets_L17 hO hP P.N h)
    · have z9 := x_call (M := mX3_readNets) (M' := mX3_readRange) (pc := 8) (st := [va_rf (some a0)]) (rest := []) (av := [va_rf (some a0)]) (x_linkV (M := mX3_readNets) (M' := mX3_readRange) (As := []) (index := 102) (C := RX3) (T := TX3) (xE_4 c_10) rfl wd_358 wd_359 (wG_in (List.mem_append_left _ (List.mem_of_getElem? (i := 8) rfl)) rfl) xw_X3_readRange rfl (by decide) rfl rfl dX3_readNets_8) (ev_X3_readRange hO hP h_9) xw_X3_readRange rfl wd_124 dX3_readNets_8 (by decide) (by decide) (by simp [x_cat, x_catI, x_catJ])
      cases h
      exact x_callX z9 (evX_out rfl)
  · have z9 := x_call (M := mX3_readNets) (M' := mX10_step) (pc := 4) (st := [va_rf (some a_2)]) (rest := []) (av := [va_rf (some a_2)]) (x_linkV (M := mX3_readNets) (M' := mX10_step) (As := []) (index := 58) (C := RX10) (T := TX10) (xE_10 c_6) rfl wd_344 wd_247 wd_245 xw_X10_step rfl (by decide) rfl rfl dX3_readNets_4) (ev_X10_step hO hP h_5) xw_X10_step rfl wd_118 dX3_readNets_4 (by decide) (by decide) (by simp [x_cat, x_catI, x_catJ])
    cases h
    exact x_callX z9 (evX_out rfl)
set_option maxHeartbeats 4000000 in
set_option maxRecDepth 100000 in
theorem ev_X10_isNumber_p18 {l : Launch} {G : xG} (hO : x_OK l G) {P : xP} (hP : x_PG P G) {a0 : Nat} {s0 : Int32} {σ σ' : xS} {rr : Int32 ⊕ String} (h : dm_X10_isNumber_p18 P a0 s0 σ = some (rr, σ')) : Ev l G mX10_isNumber 18 [] [.int s0] σ (xrI rr) σ' := by
  unfold dm_X10_isNumber_p18 at h
  obtain ⟨c_1, h⟩ := x_chk_e h
  cases h
  exact ev_iret rfl (x_boolN c_1) dX10_isNumber_18
set_option maxHeartbeats 4000000 in
set_option maxRecDepth 100000 in
theorem ev_X10_isNumber {l : Launch} {G : xG} (hO : x_OK l G) {P : xP} (hP : x_PG P G) {a0 : Nat} {σ σ' : xS} {rr : Int32 ⊕ String} (h : dm_X10_isNumber P a0 σ = some (rr, σ')) : EvM l G mX10_isNumber [va_rf (some a0)] σ (xrI rr) σ' := by
  unfold dm_X10_isNumber at h
  refine evM_of hO (by decide +kernel) (x_lenI (by simp [x_cat, x_catI, x_catJ, mX10_isNumber, xM.maxL])) ?_
  refine Eq.mp (congrArg (fun z => Ev l G mX10_isNumber 0 z [] σ (xrI rr) σ') (show [(0, va_rf (some a0))] = lv_args 0 [va_rf (some a0)] by simp [lv_args, x_cat, x_catI, x_catJ])) ?_
  refine ev_aload_n (j := 0) (x := (some a0)) dX10_isNumber_0 rfl rfl ?_
  obtain ⟨c_1, h⟩ := x_chk_e h
  refine ev_get (C := RX10) (T := TX10) (k := 3) inX10 (xE_10 c_1) rfl (by decide) wd_92 (Or.inl rfl) rfl dX10_isNumber_1 ?_
  refine ev_aload_n (j := 0) (x := (some a0)) dX10_isNumber_4 rfl rfl ?_
  refine ev_get (C := RX10) (T := TX10) (k := 6) inX10 (xE_10 c_1) rfl (by decide) wd_96 (Or.inl rfl) rfl dX10_isNumber_5 ?_
  obtain ⟨a_2, ea_2, h⟩ := x_some_e h
  refine ev_at (st' := [.int (σ.I 906 a0), va_rf (some a_2)]) rfl (by rw [ea_2]) ?_
  obtain ⟨c_3, h⟩ := x_chk_e h
  refine ev_iald c_3.1 c_3.2 dX10_isNumber_8 ?_
  refine ev_iconst (v := 2) dX10_isNumber_9 (by decide) ?_
  by_cases c_4 : (σ.AI a_2 (Int32.toNatClampNeg (σ.I 906 a0))) = 2
  · rw [if_pos c_4] at h
    refine ev_icmp_ne (x := (σ.AI a_2 (Int32.toNatClampNeg (σ.I 906 a0)))) (y := 2) (tgt := 17) dX10_isNumber_10 (by decide) (fun q9 => absurd c_4 q9) (fun _ => ?_)
    refine ev_iconst (v := 1) dX10_isNumber_13 (by decide) ?_
    refine ev_goto (tgt := 18) dX10_isNumber_14 (by decide) ?_
    exact ev_sub [] rfl (ev_X10_isNumber_p18 hO hP h)
  · rw [if_neg c_4] at h
    refine ev_icmp_ne (x := (σ.AI a_2 (Int32.toNatClampNeg (σ.I 906 a0)))) (y := 2) (tgt := 17) dX10_isNumber_10 (by decide) (fun _ => ?_) (fun q9 => absurd q9 c_4)
    refine ev_iconst (v := 0) dX10_isNumber_17 (by decide) ?_
    exact ev_sub [] rfl (ev_X10_isNumber_p18 hO hP h)
set_option maxHeartbeats 4000000 in
set_option maxRecDepth 100000 in
theorem ev_X10_letterOf_p28 {l : Launch} {G : xG} (hO : x_OK l G) {P : xP} (hP : x_PG P G) {s0 : Int32} {σ σ' : xS} {rr : Int32 ⊕ String} (h : dm_X10_letterOf_p28 P s0 σ = some (rr, σ')) : Ev l G mX10_letterOf 28 [] [.int s0] σ (xrI rr) σ' := by
  unfold dm_X10_letterOf_p28 at h
  cases h
  exact ev_iret rfl rfl dX10_letterOf_28
set_option maxHeartbeats 4000000 in
set_option maxRecDepth 100000 in
theorem ev_X10_letterOf_p10 {l : Launch} {G : xG} (hO : x_OK l G) {P : xP} (hP : x_PG P G) {σ σ' : xS} {rr : Int32 ⊕ String} (h : dm_X10_letterOf_p10 P σ = some (rr, σ')) : Ev l G mX10_letterOf 10 [] [] σ (xrI rr) σ' := by
  unfold dm_X10_letterOf_p10 at h
  refine ev_iconst (v := 0) dX10_letterOf_10 (by decide) ?_
  refine ev_goto (tgt := 28) dX10_letterOf_11 (by decide) ?_
  exact ev_sub [] rfl (ev_X10_letterOf_p28 hO hP h)
set_option maxHeartbeats 4000000 in
set_option maxRecDepth 100000 in
theorem ev_X10_letterOf {l : Launch} {G : xG} (hO : x_OK l G) {P : xP} (hP : x_PG P G) {v0 : Int64} {v2 : Int32} {σ σ' : xS} {rr : Int32 ⊕ String} (h : dm_X10_letterOf P v0 v2 σ = some (rr, σ')) : EvM l G mX10_letterOf [.long v0, .int v2] σ (xrI rr) σ' := by
  unfold dm_X10_letterOf at h
  refine evM_of hO (by decide +kernel) (x_lenI (by simp [x_cat, x_catI, x_catJ, mX10_letterOf, xM.maxL])) ?_
  refine Eq.mp (congrArg (fun z => Ev l G mX10_letterOf 0 z [] σ (xrI rr) σ') (show [(0, .long v0), (2, .int v2)] = lv_args 0 [.long v0, .int v2] by simp [lv_args, x_cat, x_catI, x_catJ])) ?_
  refine ev_iload_n (j := 1) (x := v2) dX10_letterOf_0 rfl rfl ?_
  by_cases c_1 : v2 < 0
  · rw [if_pos c_1] at h
    refine ev_if_lt (x := v2) (tgt := 10) dX10_letterOf_1 (by decide) (fun _ => ?_) (fun q9 => absurd c_1 q9)
    exact ev_sub [] rfl (ev_X10_letterOf_p10 hO hP h)
  · rw [if_neg c_1] at h
    refine ev_if_lt (x := v2) (tgt := 10) dX10_letterOf_1 (by decide) (fun q9 => absurd q9 c_1) (fun _ => ?_)
    refine ev_iload_n (j := 1) (x := v2) dX10_letterOf_4 rfl rfl ?_
    refine ev_bipush (v := 8) dX10_letterOf_5 (by decide) ?_
    by_cases c_2 : v2 < 8
    · rw [if_pos c_2] at h
      refine ev_icmp_lt (x := v2) (y := 8) (tgt := 14) dX10_letterOf_7 (by decide) (fun _ => ?_) (fun q9 => absurd c_2 q9)
      refine ev_lload_n (j := 0) (x := v0) dX10_letterOf_14 rfl rfl ?_
      refine ev_bipush (v := 56) dX10_letterOf_15 (by decide) ?_
      refine ev_bipush (v := 8) dX10_letterOf_17 (by decide) ?_
      refine ev_iload_n (j := 1) (x := v2) dX10_letterOf_19 rfl rfl ?_
      refine ev_imul (x := 8) (y := v2) dX10_letterOf_20 ?_
      refine ev_isub (x := 56) (y := (8 * v2)) dX10_letterOf_21 ?_
      refine ev_lushr (x := v0) (y := (56 - (8 * v2))) dX10_letterOf_22 ?_
      refine ev_l2i (x := (UInt64.toInt64 (Int64.toUInt64 v0 >>> (Int64.toUInt64 (Int32.toInt64 (56 - (8 * v2))) &&& Int64.toUInt64 63)))) dX10_letterOf_23 ?_
      refine ev_sipush (v := 255) dX10_letterOf_24 (by decide) ?_
      refine ev_iand (x := (Int64.toInt32 (UInt64.toInt64 (Int64.toUInt64 v0 >>> (Int64.toUInt64 (Int32.toInt64 (56 - (8 * v2))) &&& Int64.toUInt64 63))))) (y := 255) dX10_letterOf_27 ?_
      exact ev_sub [] rfl (ev_X10_letterOf_p28 hO hP h)
    · rw [if_neg c_2] at h
      refine ev_icmp_lt (x := v2) (y := 8) (tgt := 14) dX10_letterOf_7 (by decide) (fun q9 => absurd q9 c_2) (fun _ => ?_)
      exact ev_sub [] rfl (ev_X10_letterOf_p10 hO hP h)
set_option maxHeartbeats 4000000 in
set_option maxRecDepth 100000 in
theorem ev_X6_init_ {l : Launch} {G : xG} (hO : x_OK l G) {P : xP} (hP : x_PG P G) {a0 : Nat} {v1 : Int32} {v2 : Int32} {v3 : Int32} {σ σ' : xS} {rr : Unit ⊕ String} (h : dm_X6_init_ P a0 v1 v2 v3 σ = some (rr, σ')) : EvM l G mX6_init_ [va_rf (some a0), .int v1, .int v2, .int v3] σ (xrV rr) σ' := by
  unfold dm_X6_init_ at h
  refine evM_of hO (by decide +kernel) (x_lenI (by simp [x_cat, x_catI, x_catJ, mX6_init_, xM.maxL])) ?_
  refine Eq.mp (congrArg (fun z => Ev l G mX6_init_ 0 z [] σ (xrV rr) σ') (show [(0, va_rf (some a0)), (1, .int v1), (2, .int v2), (3, .int v3)] = lv_args 0 [va_rf (some a0), .int v1, .int v2, .int v3] by simp [lv_args, x_cat, x_catI, x_catJ])) ?_
  refine ev_aload_n (j := 0) (x := (some a0)) dX6_init__0 rfl rfl ?_
  refine ev_objInit wd_366 wd_85 wd_86 dX6_init__1 (by decide) (by decide) ?_
  refine ev_aload_n (j := 0) (x := (some a0)) dX6_init__4 rfl rfl ?_
  refine ev_iconst (v := 3) dX6_init__5 (by decide) ?_
  obtain ⟨c_1, h⟩ := x_chk_e h
  obtain ⟨σ_2, eσ_2, h⟩ := x_let_e h
  refine ev_putF (σ2 := σ_2) (C := RX6) (T := TX6) (k := 0) inX6 tyX6 tyX6_ok nmX6 (xE_7 c_1.1) rfl (by decide) wd_367 (Or.inl rfl) rfl rfl rfl rfl rfl rfl (Nat.le_of_ble_eq_true rfl) (hP.2.2.2.1 ▸ c_1.2) (by rw [eσ_2]; exact xP_7_0 _ c_1.1) (by rw [eσ_2]; exact xPut_I) dX6_init__6 ?_
  refine ev_aload_n (j := 0) (x := (some a0)) dX6_init__9 rfl rfl ?_
  refine ev_iload_n (j := 1) (x := v1) dX6_init__10 rfl rfl ?_
  obtain ⟨c_3, h⟩ := x_chk_e h
  obtain ⟨σ_4, eσ_4, h⟩ := x_let_e h
  refine ev_putF (σ2 := σ_4) (C := RX6) (T := TX6) (k := 1) inX6 tyX6 tyX6_ok nmX6 (xE_7 c_3.1) rfl (by decide) wd_368 (Or.inl rfl) rfl rfl rfl rfl rfl rfl (Nat.le_of_ble_eq_true rfl) (hP.2.2.2.1 ▸ c_3.2) (by rw [eσ_4]; exact xP_7_1 _ c_3.1) (by rw [eσ_4]; exact xPut_I) dX6_init__11 ?_
  refine ev_aload_n (j := 0) (x := (some a0)) dX6_init__14 rfl rfl ?_
  refine ev_null dX6_init__15 ?_
  obtain ⟨c_5, h⟩ := x_chk_e h
  obtain ⟨σ_6, eσ_6, h⟩ := x_let_e h
  refine ev_putF (σ2 := σ_6) (C := RX6) (T := TX6) (k := 2) inX6 tyX6 tyX6_ok nmX6 (xE_7 c_5.1) rfl (by decide) wd_9 (Or.inl rfl) rfl rfl rfl rfl (x_refN _) (x_refF _) (Nat.le_of_ble_eq_true rfl) (hP.2.2.2.1 ▸ c_5.2) (by rw [eσ_6]; exact xP_7_2 _ c_5.1) (by rw [eσ_6]; exact xPut_R) dX6_init__16 ?_
  refine ev_aload_n (j := 0) (x := (some a0)) dX6_init__19 rfl rfl ?_
  refine ev_iload_n (j := 2) (x := v2) dX6_init__20 rfl rfl ?_
  refine ev_iconst (v := 1) dX6_init__21 (by decide) ?_
  refine ev_isub (x := v2) (y := 1) dX6_init__22 ?_
  obtain ⟨c_7, h⟩ := x_chk_e h
  obtain ⟨σ_8, eσ_8, h⟩ := x_let_e h
  refine ev_putF (σ2 := σ_8) (C := RX6) (T := TX6) (k := 3) inX6 tyX6 tyX6_ok nmX6 (xE_7 c_7.1) rfl (by decide) wd_7 (Or.inl rfl) rfl rfl rfl rfl rfl rfl (Nat.le_of_ble_eq_true rfl) (hP.2.2.2.1 ▸ c_7.2) (by rw [eσ_8]; exact xP_7_3 _ c_7.1) (by rw [eσ_8]; exact xPut_I) dX6_init__23 ?_
  refine ev_aload_n (j := 0) (x := (some a0)) dX6_init__26 rfl rfl ?_
  refine ev_iconst (v := 0) dX6_init__27 (by decide) ?_
  obtain ⟨c_9, h⟩ := x_chk_e h
  obtain ⟨σ_10, eσ_10, h⟩ := x_let_e h
  refine ev_putF (σ2 := σ_10) (C := RX6) (T := TX6) (k := 4) inX6 tyX6 tyX6_ok nmX6 (xE_7 c_9.1) rfl (by decide) wd_8 (Or.inl rfl) rfl rfl rfl rfl rfl rfl (Nat.le_of_ble_eq_true rfl) (hP.2.2.2.1 ▸ c_9.2) (by rw [eσ_10]; exact xP_7_4 _ c_9.1) (by rw [eσ_10]; exact xPut_I) dX6_init__28 ?_
  refine ev_aload_n (j := 0) (x := (some a0)) dX6_init__31 rfl rfl ?_
  refine ev_iload_n (j := 3) (x := v3) dX6_init__32 rfl rfl ?_
  obtain ⟨c_11, h⟩ := x_chk_e h
  obtain ⟨σ_12, eσ_12, h⟩ := x_let_e h
  refine ev_putF (σ2 := σ_12) (C := RX6) (T := TX6) (k := 5) inX6 tyX6 tyX6_ok nmX6 (xE_7 c_11.1) rfl (by decide) wd_11 (Or.inl rfl) rfl rfl rfl rfl rfl rfl (Nat.le_of_ble_eq_true rfl) (hP.2.2.2.1 ▸ c_11.2) (by rw [eσ_12]; exact xP_7_5 _ c_11.1) (by rw [eσ_12]; exact xPut_I) dX6_init__33 ?_
  cases h
  exact ev_vret rfl dX6_init__36
set_option maxHeartbeats 4000000 in
set_option maxRecDepth 100000 in
theorem ev_X8_readDigits_p90 {l : Launch} {G : xG} (hO : x_OK l G) {P : xP} (hP : x_PG P G) {a0 : Nat} {k41 : Int32 → Int32 → Int32 → Int64 → Int32 → Int32 → Int32 → xS → xO (Option Nat)} (hk41 : ∀ {v1 : Int32} {v2 : Int32} {v3 : Int32} {v4 : Int64} {v6 : Int32} {v7 : Int32} {v8 : Int32} {σ σ' : xS} {rr : Option Nat ⊕ String}, k41 v1 v2 v3 v4 v6 v7 v8 σ = some (rr, σ') → Ev l G mX8_readDigits 41 [(0, va_rf (some a0)), (1, .int v1), (2, .int v2), (3, .int v3), (4, .long v4), (6, .int v6), (7, .int v7), (8, .int v8)] [] σ (xrR rr) σ') {v1 : Int32} {v2 : Int32} {v3 : Int32} {v4 : Int64} {v6 : Int32} {v7 : Int32} {v8 : Int32} {v9 : Int32} {s0 : Option Nat} {s1 : Int32} {σ σ' : xS} {rr : Option Nat ⊕ String} (h : dm_X8_readDigits_p90 P k41 a0 v1 v2 v3 v4 v6 v7 v8 v9 s0 s1 σ = some (rr, σ')) : Ev l G mX8_readDigits 90 [(0, va_rf (some a0)), (1, .int v1), (2, .int v2), (3, .int v3), (4, .long v4), (6, .int v6), (7, .int v7), (8, .int v8), (9, .int v9)] [.int s1, va_rf s0] σ (xrR rr) σ' := by
  unfold dm_X8_readDigits_p90 at h
  obtain ⟨a_1, ea_1, h⟩ := x_some_e h
  refine ev_at (st' := [.int s1, va_rf (some a_1)]) rfl (by rw [ea_1]) ?_
  obtain ⟨c_5, h⟩ := x_chk_e h
  rcases x_bind_e h with ⟨v_2, σ_3, h_4, h⟩ | ⟨E_9, σ_3, h_4, h⟩
  · have z9 := x_call (M := mX8_readDigits) (M' := mX10_refuseIf) (pc := 90) (st := [.int s1, va_rf (some a_1)]) (rest := []) (av := [va_rf (some a_1), .int s1]) (x_linkV (M := mX8_readDigits) (M' := mX10_refuseIf) (As := [.int s1]) (index := 51) (C := RX10) (T := TX10) (xE_10 c_5) rfl wd_286 wd_243 wd_241 xw_X10_refuseIf rfl (by decide) rfl rfl dX8_readDigits_90) (ev_X10_refuseIf hO hP h_4) xw_X10_refuseIf rfl wd_118 dX8_readDigits_90 (by decide) (by decide) (by simp [x_cat, x_catI, x_catJ])
    refine x_callR z9 ?_
    refine ev_at (st' := []) rfl rfl ?_
    refine ev_iload (j := 6) (x := v7) dX8_readDigits_93 rfl ?_
    refine ev_iconst (v := 2) dX8_readDigits_95 (by decide) ?_
    refine ev_imul (x := v7) (y := 2) dX8_readDigits_96 ?_
    refine ev_iload (j := 8) (x := v9) dX8_readDigits_97 rfl ?_
    refine ev_iadd (x := (v7 * 2)) (y := v9) dX8_readDigits_99 ?_
    obtain ⟨v_6, ev_6, h⟩ := x_let_e h
    rw [← ev_6]
    refine ev_istore (i := 7) (lv' := [(7, .int v_6), (0, va_rf (some a0)), (1, .int v1), (2, .int v2), (3, .int v3), (4, .long v4), (6, .int v6), (8, .int v8), (9, .int v9)]) dX8_readDigits_100 (by decide) rfl ?_
    obtain ⟨v_7, ev_7, h⟩ := x_let_e h
    refine ev_iinc (j := 6) (x := v6) (v := v_7) (lv' := [(6, .int v_7), (7, .int v_6), (0, va_rf (some a0)), (1, .int v1), (2, .int v2), (3, .int v3), (4, .long v4), (8, .int v8), (9, .int v9)]) dX8_readDigits_102 rfl (by rw [ev_7]; rfl) (by decide) rfl ?_
    obtain ⟨v_8, ev_8, h⟩ := x_let_e h
    refine ev_iinc (j := 7) (x := v8) (v := v_8) (lv' := [(8, .int v_8), (6, .int v_7), (7, .int v_6), (0, va_rf (some a0)), (1, .int v1), (2, .int v2), (3, .int v3), (4, .long v4), (9, .int v9)]) dX8_readDigits_105 rfl (by rw [ev_8]; rfl) (by decide) rfl ?_
    refine ev_goto (tgt := 41) dX8_readDigits_108 (by decide) ?_
    exact ev_sub [3, 4, 5, 6, 7, 1, 2, 0] rfl (hk41 h)
  · have z9 := x_call (M := mX8_readDigits) (M' := mX10_refuseIf) (pc := 90) (st := [.int s1, va_rf (some a_1)]) (rest := []) (av := [va_rf (some a_1), .int s1]) (x_linkV (M := mX8_readDigits) (M' := mX10_refuseIf) (As := [.int s1]) (index := 51) (C := RX10) (T := TX10) (xE_10 c_5) rfl wd_286 wd_243 wd_241 xw_X10_refuseIf rfl (by decide) rfl rfl dX8_readDigits_90) (ev_X10_refuseIf hO hP h_4) xw_X10_refuseIf rfl wd_118 dX8_readDigits_90 (by decide) (by decide) (by simp [x_cat, x_catI, x_catJ])
    cases h
    exact x_callX z9 (evX_out rfl)
set_option maxHeartbeats 4000000 in
set_option maxRecDepth 100000 in
theorem ev_X8_readDigits_p89 {l : Launch} {G : xG} (hO : x_OK l G) {P : xP} (hP : x_PG P G) {a0 : Nat} {k41 : Int32 → Int32 → Int32 → Int64 → Int32 → Int32 → Int32 → xS → xO (Option Nat)} (hk41 : ∀ {v1 : Int32} {v2 : Int32} {v3 : Int32} {v4 : Int64} {v6 : Int32} {v7 : Int32} {v8 : Int32} {σ σ' : xS} {rr : Option Nat ⊕ String}, k41 v1 v2 v3 v4 v6 v7 v8 σ = some (rr, σ') → Ev l G mX8_readDigits 41 [(0, va_rf (some a0)), (1, .int v1), (2, .int v2), (3, .int v3), (4, .long v4), (6, .int v6), (7, .int v7), (8, .int v8)] [] σ (xrR rr) σ') {v1 : Int32} {v2 : Int32} {v3 : Int32} {v4 : Int64} {v6 : Int32} {v7 : Int32} {v8 : Int32} {v9 : Int32} {s0 : Option Nat} {σ σ' : xS} {rr : Option Nat ⊕ String} (h : dm_X8_readDigits_p89 P k41 a0 v1 v2 v3 v4 v6 v7 v8 v9 s0 σ = some (rr, σ')) : Ev l G mX8_readDigits 89 [(0, va_rf (some a0)), (1, .int v1), (2, .int v2), (3, .int v3), (4, .long v4), (6, .int v6), (7, .int v7), (8, .int v8), (9, .int v9)] [va_rf s0] σ (xrR rr) σ' := by
  unfold dm_X8_readDigits_p89 at h
  refine ev_iconst (v := 0) dX8_readDigits_89 (by decide) ?_
  exact ev_sub [0, 1, 2, 3, 4, 5, 6, 7, 8] rfl (ev_X8_readDigits_p90 hO hP hk41 h)
set_option maxHeartbeats 4000000 in
set_option maxRecDepth 100000 in
theorem ev_X8_readDigits_p132 {l : Launch} {G : xG} (hO : x_OK l G) {P : xP} (hP : x_PG P G) {a0 : Nat} {v1 : Int32} {v6 : Int32} {v7 : Int32} {s0 : Option Nat} {s1 : Int32} {σ σ' : xS} {rr : Option Nat ⊕ String} (h : dm_X8_readDigits_p132 P a0 v1 v6 v7 s0 s1 σ = some (rr, σ')) : Ev l G mX8_readDigits 132 [(0, va_rf (some a0)), (1, .int v1), (6, .int v6), (7, .int v7)] [.int s1, va_rf s0] σ (xrR rr) σ' := by
  unfold dm_X8_readDigits_p132 at h
  obtain ⟨a_1, ea_1, h⟩ := x_some_e h
  refine ev_at (st' := [.int s1, va_rf (some a_1)]) rfl (by rw [ea_1]) ?_
  obtain ⟨c_5, h⟩ := x_chk_e h
  rcases x_bind_e h with ⟨v_2, σ_3, h_4, h⟩ | ⟨E_19, σ_3, h_4, h⟩
  · have z9 := x_call (M := mX8_readDigits) (M' := mX10_refuseIf) (pc := 132) (st := [.int s1, va_rf (some a_1)]) (rest := []) (av := [va_rf (some a_1), .int s1]) (x_linkV (M := mX8_readDigits) (M' := mX10_refuseIf) (As := [.int s1]) (index := 51) (C := RX10) (T := TX10) (xE_10 c_5) rfl wd_286 wd_243 wd_241 xw_X10_refuseIf rfl (by decide) rfl rfl dX8_readDigits_132) (ev_X10_refuseIf hO hP h_4) xw_X10_refuseIf rfl wd_118 dX8_readDigits_132 (by decide) (by decide) (by simp [x_cat, x_catI, x_catJ])
    refine x_callR z9 ?_
    refine ev_at (st' := []) rfl rfl ?_
    refine ev_aload_n (j := 0) (x := (some a0)) dX8_readDigits_135 rfl rfl ?_
    obtain ⟨c_6, h⟩ := x_chk_e h
    refine x_via (A := Ev l G mX8_readDigits 139 [(0, va_rf (some a0)), (1, .int v1), (6, .int v6), (7, .int v7)] [va_rf (σ_3.R 300 a0)] σ_3 (xrR rr) σ') (fun z9 => ?_) ?_
    · rcases c_6 with w9 | w9
      · exact ev_get (C := RX3) (T := TX3) (k := 0) inX3 (xE_4 w9) rfl (by decide) wd_100 (Or.inl rfl) rfl dX8_readDigits_136 z9
      · exact ev_get (C := RX9) (T := TX9) (k := 0) inX9 (xE_9 w9) rfl (by decide) wd_100 (Or.inl rfl) rfl dX8_readDigits_136 z9
    obtain ⟨a_7, ea_7, h⟩ := x_some_e h
    refine ev_at (st' := [va_rf (some a_7)]) rfl (by rw [ea_7]) ?_
    obtain ⟨c_11, h⟩ := x_chk_e h
    rcases x_bind_e h with ⟨v_8, σ_9, h_10, h⟩ | ⟨E_18, σ_9, h_10, h⟩
    · have z9 := x_call (M := mX8_readDigits) (M' := mX10_step) (pc := 139) (st := [va_rf (some a_7)]) (rest := []) (av := [va_rf (some a_7)]) (x_linkV (M := mX8_readDigits) (M' := mX10_step) (As := []) (index := 59) (C := RX10) (T := TX10) (xE_10 c_11) rfl wd_295 wd_247 wd_245 xw_X10_step rfl (by decide) rfl rfl dX8_readDigits_139) (ev_X10_step hO hP h_10) xw_X10_step rfl wd_118 dX8_readDigits_139 (by decide) (by decide) (by simp [x_cat, x_catI, x_catJ])
      refine x_callR z9 ?_
      refine ev_at (st' := []) rfl rfl ?_
      obtain ⟨c_12, h⟩ := x_chk_e h
      obtain ⟨σ_13, eσ_13, h⟩ := x_let_e h
      refine ev_new (C := RX6) (T := TX6) (N := 6) (ci := 6) inX6 tyX6 tyX6_ok rfl (by decide) wd_372 wd_373 wd_22 (hP.2.1 ▸ c_12.1) (hP.2.2.1 ▸ c_12.2) (nE_7 _ _) nF_7 dX8_readDigits_142 (eσ_13 ▸ ?_)
      refine ev_dup dX8_readDigits_145 (x_cat _) ?_
      refine ev_iload_n (j := 1) (x := v1) dX8_readDigits_146 rfl rfl ?_
      refine ev_iload (j := 2) (x := v6) dX8_readDigits_147 rfl ?_
      refine ev_iload (j := 3) (x := v7) dX8_readDigits_149 rfl ?_
      rcases x_bind_e h with ⟨v_14, σ_15, h_16, h⟩ | ⟨E_17, σ_15, h_16, h⟩
      · have z9 := x_call (M := mX8_readDigits) (M' := mX6_init_) (pc := 151) (st := [.int v7, .int v6, .int v1, va_rf (some σ_9.sz), va_rf (some σ_9.sz)]) (rest := [va_rf (some σ_9.sz)]) (av := [va_rf (some σ_9.sz), .int v1, .int v6, .int v7]) (x_linkI (M := mX8_readDigits) (M' := mX6_init_) (As := [.int v1, .int v6, .int v7]) (index := 142) (b := σ_9.sz) rfl wd_375 wd_376 wd_374 (by decide) rfl rfl dX8_readDigits_151) (ev_X6_init_ hO hP h_16) xw_X6_init_ rfl wd_22 dX8_readDigits_151 (by decide) (by decide) (by simp [x_cat, x_catI, x_catJ])
        refine x_callR z9 ?_
        refine ev_at (st' := [va_rf (some σ_9.sz)]) rfl rfl ?_
        cases h
        exact ev_aret rfl dX8_readDigits_154
      · have z9 := x_call (M := mX8_readDigits) (M' := mX6_init_) (pc := 151) (st := [.int v7, .int v6, .int v1, va_rf (some σ_9.sz), va_rf (some σ_9.sz)]) (rest := [va_rf (some σ_9.sz)]) (av := [va_rf (some σ_9.sz), .int v1, .int v6, .int v7]) (x_linkI (M := mX8_readDigits) (M' := mX6_init_) (As := [.int v1, .int v6, .int v7]) (index := 142) (b := σ_9.sz) rfl wd_375 wd_376 wd_374 (by decide) rfl rfl dX8_readDigits_151) (ev_X6_init_ hO hP h_16) xw_X6_init_ rfl wd_22 dX8_readDigits_151 (by decide) (by decide) (by simp [x_cat, x_catI, x_catJ])
        cases h
        exact x_callX z9 (evX_out rfl)
    · have z9 := x_call (M := mX8_readDigits) (M' := mX10_step) (pc := 139) (st := [va_rf (some a_7)]) (rest := []) (av := [va_rf (some a_7)]) (x_linkV (M := mX8_readDigits) (M' := mX10_step) (As := []) (index := 59) (C := RX10) (T := TX10) (xE_10 c_11) rfl wd_295 wd_247 wd_245 xw_X10_step rfl (by decide) rfl rfl dX8_readDigits_139) (ev_X10_step hO hP h_10) xw_X10_step rfl wd_118 dX8_readDigits_139 (by decide) (by decide) (by simp [x_cat, x_catI, x_catJ])
      cases h
      exact x_callX z9 (evX_out rfl)
  · have z9 := x_call (M := mX8_readDigits) (M' := mX10_refuseIf) (pc := 132) (st := [.int s1, va_rf (some a_1)]) (rest := []) (av := [va_rf (some a_1), .int s1]) (x_linkV (M := mX8_readDigits) (M' := mX10_refuseIf) (As := [.int s1]) (index := 51) (C := RX10) (T := TX10) (xE_10 c_5) rfl wd_286 wd_243 wd_241 xw_X10_refuseIf rfl (by decide) rfl rfl dX8_readDigits_132) (ev_X10_refuseIf hO hP h_4) xw_X10_refuseIf rfl wd_118 dX8_readDigits_132 (by decide) (by decide) (by simp [x_cat, x_catI, x_catJ])
    cases h
    exact x_callX z9 (evX_out rfl)
set_option maxHeartbeats 4000000 in
set_option maxRecDepth 100000 in
theorem ev_X8_readDigits_p127 {l : Launch} {G : xG} (hO : x_OK l G) {P : xP} (hP : x_PG P G) {a0 : Nat} {v1 : Int32} {v6 : Int32} {v7 : Int32} {s0 : Option Nat} {σ σ' : xS} {rr : Option Nat ⊕ String} (h : dm_X8_readDigits_p127 P a0 v1 v6 v7 s0 σ = some (rr, σ')) : Ev l G mX8_readDigits 127 [(0, va_rf (some a0)), (1, .int v1), (6, .int v6), (7, .int v7)] [va_rf s0] σ (xrR rr) σ' := by
  unfold dm_X8_readDigits_p127 at h
  refine ev_iconst (v := 1) dX8_readDigits_127 (by decide) ?_
  refine ev_goto (tgt := 132) dX8_readDigits_128 (by decide) ?_
  exact ev_sub [0, 1, 2, 3] rfl (ev_X8_readDigits_p132 hO hP h)
set_option maxHeartbeats 4000000 in
set_option maxRecDepth 100000 in
theorem ev_X8_readDigits_p111 {l : Launch} {G : xG} (hO : x_OK l G) {P : xP} (hP : x_PG P G) {a0 : Nat} {v1 : Int32} {v2 : Int32} {v3 : Int32} {v6 : Int32} {v7 : Int32} {σ σ' : xS} {rr : Option Nat ⊕ String} (h : dm_X8_readDigits_p111 P a0 v1 v2 v3 v6 v7 σ = some (rr, σ')) : Ev l G mX8_readDigits 111 [(0, va_rf (some a0)), (1, .int v1), (2, .int v2), (3, .int v3), (6, .int v6), (7, .int v7)] [] σ (xrR rr) σ' := by
  unfold dm_X8_readDigits_p111 at h
  refine ev_aload_n (j := 0) (x := (some a0)) dX8_readDigits_111 rfl rfl ?_
  obtain ⟨c_1, h⟩ := x_chk_e h
  refine x_via (A := Ev l G mX8_readDigits 115 [(0, va_rf (some a0)), (1, .int v1), (2, .int v2), (3, .int v3), (6, .int v6), (7, .int v7)] [va_rf (σ.R 300 a0)] σ (xrR rr) σ') (fun z9 => ?_) ?_
  · rcases c_1 with w9 | w9
    · exact ev_get (C := RX3) (T := TX3) (k := 0) inX3 (xE_4 w9) rfl (by decide) wd_100 (Or.inl rfl) rfl dX8_readDigits_112 z9
    · exact ev_get (C := RX9) (T := TX9) (k := 0) inX9 (xE_9 w9) rfl (by decide) wd_100 (Or.inl rfl) rfl dX8_readDigits_112 z9
  refine ev_iload (j := 4) (x := v6) dX8_readDigits_115 rfl ?_
  refine ev_iload_n (j := 2) (x := v2) dX8_readDigits_117 rfl rfl ?_
  by_cases c_2 : v6 < v2
  · rw [if_pos c_2] at h
    refine ev_icmp_lt (x := v6) (y := v2) (tgt := 127) dX8_readDigits_118 (by decide) (fun _ => ?_) (fun q9 => absurd c_2 q9)
    exact ev_sub [0, 1, 4, 5] rfl (ev_X8_readDigits_p127 hO hP h)
  · rw [if_neg c_2] at h
    refine ev_icmp_lt (x := v6) (y := v2) (tgt := 127) dX8_readDigits_118 (by decide) (fun q9 => absurd q9 c_2) (fun _ => ?_)
    refine ev_iload (j := 4) (x := v6) dX8_readDigits_121 rfl ?_
    refine ev_iload_n (j := 3) (x := v3) dX8_readDigits_123 rfl rfl ?_
    by_cases c_3 : v6 ≤ v3
    · rw [if_pos c_3] at h
      refine ev_icmp_le (x := v6) (y := v3) (tgt := 131) dX8_readDigits_124 (by decide) (fun _ => ?_) (fun q9 => absurd c_3 q9)
      refine ev_iconst (v := 0) dX8_readDigits_131 (by decide) ?_
      exact ev_sub [0, 1, 4, 5] rfl (ev_X8_readDigits_p132 hO hP h)
    · rw [if_neg c_3] at h
      refine ev_icmp_le (x := v6) (y := v3) (tgt := 131) dX8_readDigits_124 (by decide) (fun q9 => absurd q9 c_3) (fun _ => ?_)
      exact ev_sub [0, 1, 4, 5] rfl (ev_X8_readDigits_p127 hO hP h)
set_option maxHeartbeats 4000000 in
set_option maxRecDepth 100000 in
theorem ev_X8_readDigits_L41 {l : Launch} {G : xG} (hO : x_OK l G) {P : xP} (hP : x_PG P G) {a0 : Nat} : ∀ (n : Nat) {v1 : Int32} {v2 : Int32} {v3 : Int32} {v4 : Int64} {v6 : Int32} {v7 : Int32} {v8 : Int32} {σ σ' : xS} {rr : Option Nat ⊕ String}, dm_X8_readDigits_L41 P a0 n v1 v2 v3 v4 v6 v7 v8 σ = some (rr, σ') → Ev l G mX8_readDigits 41 [(0, va_rf (some a0)), (1, .int v1), (2, .int v2), (3, .int v3), (4, .long v4), (6, .int v6), (7, .int v7), (8, .int v8)] [] σ (xrR rr) σ' := by
  intro n
  induction n with
  | zero => intro v1 v2 v3 v4 v6 v7 v8 σ σ' rr h; cases h
  | succ n ih =>
    intro v1 v2 v3 v4 v6 v7 v8 σ σ' rr h
    rw [dm_X8_readDigits_L41] at h
    refine ev_iload (j := 7) (x := v8) dX8_readDigits_41 rfl ?_
    refine ev_bipush (v := 8) dX8_readDigits_43 (by decide) ?_
    by_cases c_1 : 8 ≤ v8
    · rw [if_pos c_1] at h
      refine ev_icmp_ge (x := v8) (y := 8) (tgt := 111) dX8_readDigits_45 (by decide) (fun _ => ?_) (fun q9 => absurd c_1 q9)
      exact ev_sub [0, 1, 2, 3, 5, 6] rfl (ev_X8_readDigits_p111 hO hP h)
    · rw [if_neg c_1] at h
      refine ev_icmp_ge (x := v8) (y := 8) (tgt := 111) dX8_readDigits_45 (by decide) (fun q9 => absurd q9 c_1) (fun _ => ?_)
      refine ev_lload (j := 4) (x := v4) dX8_readDigits_48 rfl ?_
      refine ev_iload (j := 7) (x := v8) dX8_readDigits_50 rfl ?_
      rcases x_bind_e h with ⟨v_2, σ_3, h_4, h⟩ | ⟨E_14, σ_3, h_4, h⟩
      · have z9 := x_call (M := mX8_readDigits) (M' := mX10_letterOf) (pc := 52) (st := [.int v8, .long v4]) (rest := []) (av := [.long v4, .int v8]) (x_linkS (M := mX8_readDigits) (M' := mX10_letterOf) (As := [.long v4, .int v8]) (index := 138) wd_370 wd_371 wd_118 xw_X10_letterOf rfl ⟨_, _, _, Or.inl wd_369⟩ (by decide) rfl rfl dX8_readDigits_52) (ev_X10_letterOf hO hP h_4) xw_X10_letterOf rfl wd_118 dX8_readDigits_52 (by decide) (by decide) (by simp [x_cat, x_catI, x_catJ])
        refine x_callR z9 ?_
        refine ev_at (st' := [.int v_2]) rfl rfl ?_
        by_cases c_5 : v_2 = 0
        · rw [if_pos c_5] at h
          refine ev_if_eq (x := v_2) (tgt := 111) dX8_readDigits_55 (by decide) (fun _ => ?_) (fun q9 => absurd c_5 q9)
          exact ev_sub [0, 1, 2, 3, 5, 6] rfl (ev_X8_readDigits_p111 hO hP h)
        · rw [if_neg c_5] at h
          refine ev_if_eq (x := v_2) (tgt := 111) dX8_readDigits_55 (by decide) (fun q9 => absurd q9 c_5) (fun _ => ?_)
          refine ev_lload (j := 4) (x := v4) dX8_readDigits_58 rfl ?_
          refine ev_iload (j := 7) (x := v8) dX8_readDigits_60 rfl ?_
          rcases x_bind_e h with ⟨v_6, σ_7, h_8, h⟩ | ⟨E_13, σ_7, h_8, h⟩
          · have z9 := x_call (M := mX8_readDigits) (M' := mX10_letterOf) (pc := 62) (st := [.int v8, .long v4]) (rest := []) (av := [.long v4, .int v8]) (x_linkS (M := mX8_readDigits) (M' := mX10_letterOf) (As := [.long v4, .int v8]) (index := 138) wd_370 wd_371 wd_118 xw_X10_letterOf rfl ⟨_, _, _, Or.inl wd_369⟩ (by decide) rfl rfl dX8_readDigits_62) (ev_X10_letterOf hO hP h_8) xw_X10_letterOf rfl wd_118 dX8_readDigits_62 (by decide) (by decide) (by simp [x_cat, x_catI, x_catJ])
            refine x_callR z9 ?_
            refine ev_at (st' := [.int v_6]) rfl rfl ?_
            refine ev_bipush (v := 48) dX8_readDigits_65 (by decide) ?_
            refine ev_isub (x := v_6) (y := 48) dX8_readDigits_67 ?_
            obtain ⟨v_9, ev_9, h⟩ := x_let_e h
            rw [← ev_9]
            refine ev_istore (i := 9) (lv' := [(9, .int v_9), (0, va_rf (some a0)), (1, .int v1), (2, .int v2), (3, .int v3), (4, .long v4), (6, .int v6), (7, .int v7), (8, .int v8)]) dX8_readDigits_68 (by decide) rfl ?_
            refine ev_aload_n (j := 1) (x := (some a0)) dX8_readDigits_70 rfl rfl ?_
            obtain ⟨c_10, h⟩ := x_chk_e h
            refine x_via (A := Ev l G mX8_readDigits 74 [(9, .int v_9), (0, va_rf (some a0)), (1, .int v1), (2, .int v2), (3, .int v3), (4, .long v4), (6, .int v6), (7, .int v7), (8, .int v8)] [va_rf (σ_7.R 300 a0)] σ_7 (xrR rr) σ') (fun z9 => ?_) ?_
            · rcases c_10 with w9 | w9
              · exact ev_get (C := RX3) (T := TX3) (k := 0) inX3 (xE_4 w9) rfl (by decide) wd_100 (Or.inl rfl) rfl dX8_readDigits_71 z9
              · exact ev_get (C := RX9) (T := TX9) (k := 0) inX9 (xE_9 w9) rfl (by decide) wd_100 (Or.inl rfl) rfl dX8_readDigits_71 z9
            refine ev_iload (j := 0) (x := v_9) dX8_readDigits_74 rfl ?_
            by_cases c_11 : v_9 = 0
            · rw [if_pos c_11] at h
              refine ev_if_eq (x := v_9) (tgt := 89) dX8_readDigits_76 (by decide) (fun _ => ?_) (fun q9 => absurd c_11 q9)
              exact ev_sub [1, 2, 3, 4, 5, 6, 7, 8, 0] rfl (ev_X8_readDigits_p89 hO hP ih h)
            · rw [if_neg c_11] at h
              refine ev_if_eq (x := v_9) (tgt := 89) dX8_readDigits_76 (by decide) (fun q9 => absurd q9 c_11) (fun _ => ?_)
              refine ev_iload (j := 0) (x := v_9) dX8_readDigits_79 rfl ?_
              refine ev_iconst (v := 1) dX8_readDigits_81 (by decide) ?_
              by_cases c_12 : v_9 = 1
              · rw [if_pos c_12] at h
                refine ev_icmp_eq (x := v_9) (y := 1) (tgt := 89) dX8_readDigits_82 (by decide) (fun _ => ?_) (fun q9 => absurd c_12 q9)
                exact ev_sub [1, 2, 3, 4, 5, 6, 7, 8, 0] rfl (ev_X8_readDigits_p89 hO hP ih h)
              · rw [if_neg c_12] at h
                refine ev_icmp_eq (x := v_9) (y := 1) (tgt := 89) dX8_readDigits_82 (by decide) (fun q9 => absurd q9 c_12) (fun _ => ?_)
                refine ev_iconst (v := 1) dX8_readDigits_85 (by decide) ?_
                refine ev_goto (tgt := 90) dX8_readDigits_86 (by decide) ?_
                exact ev_sub [1, 2, 3, 4, 5, 6, 7, 8, 0] rfl (ev_X8_readDigits_p90 hO hP ih h)
          · have z9 := x_call (M := mX8_readDigits) (M' := mX10_letterOf) (pc := 62) (st := [.int v8, .long v4]) (rest := []) (av := [.long v4, .int v8]) (x_linkS (M := mX8_readDigits) (M' := mX10_letterOf) (As := [.long v4, .int v8]) (index := 138) wd_370 wd_371 wd_118 xw_X10_letterOf rfl ⟨_, _, _, Or.inl wd_369⟩ (by decide) rfl rfl dX8_readDigits_62) (ev_X10_letterOf hO hP h_8) xw_X10_letterOf rfl wd_118 dX8_readDigits_62 (by decide) (by decide) (by simp [x_cat, x_catI, x_catJ])
            cases h
            exact x_callX z9 (evX_out rfl)
      · have z9 := x_call (M := mX8_readDigits) (M' := mX10_letterOf) (pc := 52) (st := [.int v8, .long v4]) (rest := []) (av := [.long v4, .int v8]) (x_linkS (M := mX8_readDigits) (M' := mX10_letterOf) (As := [.long v4, .int v8]) (index := 138) wd_370 wd_371 wd_118 xw_X10_letterOf rfl ⟨_, _, _, Or.inl wd_369⟩ (by decide) rfl rfl dX8_readDigits_52) (ev_X10_letterOf hO hP h_4) xw_X10_letterOf rfl wd_118 dX8_readDigits_52 (by decide) (by decide) (by simp [x_cat, x_catI, x_catJ])
        cases h
        exact x_callX z9 (evX_out rfl)
set_option maxHeartbeats 4000000 in
set_option maxRecDepth 100000 in
theorem ev_X8_readDigits_p29 {l : Launch} {G : xG} (hO : x_OK l G) {P : xP} (hP : x_PG P G) {a0 : Nat} {v1 : Int32} {v2 : Int32} {v3 : Int32} {v4 : Int64} {s0 : Option Nat} {s1 : Int32} {σ σ' : xS} {rr : Option Nat ⊕ String} (h : dm_X8_readDigits_p29 P a0 v1 v2 v3 v4 s0 s1 σ = some (rr, σ')) : Ev l G mX8_readDigits 29 [(0, va_rf (some a0)), (1, .int v1), (2, .int v2), (3, .int v3), (4, .long v4)] [.int s1, va_rf s0] σ (xrR rr) σ' := by
  unfold dm_X8_readDigits_p29 at h
  obtain ⟨a_1, ea_1, h⟩ := x_some_e h
  refine ev_at (st' := [.int s1, va_rf (some a_1)]) rfl (by rw [ea_1]) ?_
  obtain ⟨c_5, h⟩ := x_chk_e h
  rcases x_bind_e h with ⟨v_2, σ_3, h_4, h⟩ | ⟨E_6, σ_3, h_4, h⟩
  · have z9 := x_call (M := mX8_readDigits) (M' := mX10_refuseIf) (pc := 29) (st := [.int s1, va_rf (some a_1)]) (rest := []) (av := [va_rf (some a_1), .int s1]) (x_linkV (M := mX8_readDigits) (M' := mX10_refuseIf) (As := [.int s1]) (index := 51) (C := RX10) (T := TX10) (xE_10 c_5) rfl wd_286 wd_243 wd_241 xw_X10_refuseIf rfl (by decide) rfl rfl dX8_readDigits_29) (ev_X10_refuseIf hO hP h_4) xw_X10_refuseIf rfl wd_118 dX8_readDigits_29 (by decide) (by decide) (by simp [x_cat, x_catI, x_catJ])
    refine x_callR z9 ?_
    refine ev_at (st' := []) rfl rfl ?_
    refine ev_iconst (v := 0) dX8_readDigits_32 (by decide) ?_
    refine ev_istore (i := 6) (lv' := [(6, .int 0), (0, va_rf (some a0)), (1, .int v1), (2, .int v2), (3, .int v3), (4, .long v4)]) dX8_readDigits_33 (by decide) rfl ?_
    refine ev_iconst (v := 0) dX8_readDigits_35 (by decide) ?_
    refine ev_istore (i := 7) (lv' := [(7, .int 0), (6, .int 0), (0, va_rf (some a0)), (1, .int v1), (2, .int v2), (3, .int v3), (4, .long v4)]) dX8_readDigits_36 (by decide) rfl ?_
    refine ev_iconst (v := 1) dX8_readDigits_38 (by decide) ?_
    refine ev_istore (i := 8) (lv' := [(8, .int 1), (7, .int 0), (6, .int 0), (0, va_rf (some a0)), (1, .int v1), (2, .int v2), (3, .int v3), (4, .long v4)]) dX8_readDigits_39 (by decide) rfl ?_
    exact ev_sub [3, 4, 5, 6, 7, 2, 1, 0] rfl (ev_X8_readDigits_L41 hO hP P.N h)
  · have z9 := x_call (M := mX8_readDigits) (M' := mX10_refuseIf) (pc := 29) (st := [.int s1, va_rf (some a_1)]) (rest := []) (av := [va_rf (some a_1), .int s1]) (x_linkV (M := mX8_readDigits) (M' := mX10_refuseIf) (As := [.int s1]) (index := 51) (C := RX10) (T := TX10) (xE_10 c_5) rfl wd_286 wd_243 wd_241 xw_X10_refuseIf rfl (by decide) rfl rfl dX8_readDigits_29) (ev_X10_refuseIf hO hP h_4) xw_X10_refuseIf rfl wd_118 dX8_readDigits_29 (by decide) (by decide) (by simp [x_cat, x_catI, x_catJ])
    cases h
    exact x_callX z9 (evX_out rfl)
set_option maxHeartbeats 4000000 in
set_option maxRecDepth 100000 in
theorem ev_X8_readDigits {l : Launch} {G : xG} (hO : x_OK l G) {P : xP} (hP : x_PG P G) {a0 : Nat} {v1 : Int32} {v2 : Int32} {v3 : Int32} {σ σ' : xS} {rr : Option Nat ⊕ String} (h : dm_X8_readDigits P a0 v1 v2 v3 σ = some (rr, σ')) : EvM l G mX8_readDigits [va_rf (some a0), .int v1, .int v2, .int v3] σ (xrR rr) σ' := by
  unfold dm_X8_readDigits at h
  refine evM_of hO (by decide +kernel) (x_lenI (by simp [x_cat, x_catI, x_catJ, mX8_readDigits, xM.maxL])) ?_
  refine Eq.mp (congrArg (fun z => Ev l G mX8_readDigits 0 z [] σ (xrR rr) σ') (show [(0, va_rf (some a0)), (1, .int v1), (2, .int v2), (3, .int v3)] = lv_args 0 [va_rf (some a0), .int v1, .int v2, .int v3] by simp [lv_args, x_cat, x_catI, x_catJ])) ?_
  refine ev_aload_n (j := 0) (x := (some a0)) dX8_readDigits_0 rfl rfl ?_
  obtain ⟨c_1, h⟩ := x_chk_e h
  refine x_via (A := Ev l G mX8_readDigits 4 [(0, va_rf (some a0)), (1, .int v1), (2, .int v2), (3, .int v3)] [va_rf (σ.R 300 a0)] σ (xrR rr) σ') (fun z9 => ?_) ?_
  · rcases c_1 with w9 | w9
    · exact ev_get (C := RX3) (T := TX3) (k := 0) inX3 (xE_4 w9) rfl (by decide) wd_100 (Or.inl rfl) rfl dX8_readDigits_1 z9
    · exact ev_get (C := RX9) (T := TX9) (k := 0) inX9 (xE_9 w9) rfl (by decide) wd_100 (Or.inl rfl) rfl dX8_readDigits_1 z9
  obtain ⟨a_2, ea_2, h⟩ := x_some_e h
  refine ev_at (st' := [va_rf (some a_2)]) rfl (by rw [ea_2]) ?_
  obtain ⟨c_6, h⟩ := x_chk_e h
  rcases x_bind_e h with ⟨v_3, σ_4, h_5, h⟩ | ⟨E_13, σ_4, h_5, h⟩
  · have z9 := x_call (M := mX8_readDigits) (M' := mX10_name) (pc := 4) (st := [va_rf (some a_2)]) (rest := []) (av := [va_rf (some a_2)]) (x_linkV (M := mX8_readDigits) (M' := mX10_name) (As := []) (index := 43) (C := RX10) (T := TX10) (xE_10 c_6) rfl wd_280 wd_281 wd_279 xw_X10_name rfl (by decide) rfl rfl dX8_readDigits_4) (ev_X10_name hO hP h_5) xw_X10_name rfl wd_118 dX8_readDigits_4 (by decide) (by decide) (by simp [x_cat, x_catI, x_catJ])
    refine x_callR z9 ?_
    refine ev_at (st' := [.long v_3]) rfl rfl ?_
    refine ev_lstore (i := 4) (lv' := [(4, .long v_3), (0, va_rf (some a0)), (1, .int v1), (2, .int v2), (3, .int v3)]) dX8_readDigits_7 (by decide) rfl ?_
    refine ev_aload_n (j := 1) (x := (some a0)) dX8_readDigits_9 rfl rfl ?_
    obtain ⟨c_7, h⟩ := x_chk_e h
    refine x_via (A := Ev l G mX8_readDigits 13 [(4, .long v_3), (0, va_rf (some a0)), (1, .int v1), (2, .int v2), (3, .int v3)] [va_rf (σ_4.R 300 a0)] σ_4 (xrR rr) σ') (fun z9 => ?_) ?_
    · rcases c_7 with w9 | w9
      · exact ev_get (C := RX3) (T := TX3) (k := 0) inX3 (xE_4 w9) rfl (by decide) wd_100 (Or.inl rfl) rfl dX8_readDigits_10 z9
      · exact ev_get (C := RX9) (T := TX9) (k := 0) inX9 (xE_9 w9) rfl (by decide) wd_100 (Or.inl rfl) rfl dX8_readDigits_10 z9
    refine ev_lload (j := 0) (x := v_3) dX8_readDigits_13 rfl ?_
    refine ev_iconst (v := 0) dX8_readDigits_15 (by decide) ?_
    rcases x_bind_e h with ⟨v_8, σ_9, h_10, h⟩ | ⟨E_12, σ_9, h_10, h⟩
    · have z9 := x_call (M := mX8_readDigits) (M' := mX10_letterOf) (pc := 16) (st := [.int 0, .long v_3, va_rf (σ_4.R 300 a0)]) (rest := [va_rf (σ_4.R 300 a0)]) (av := [.long v_3, .int 0]) (x_linkS (M := mX8_readDigits) (M' := mX10_letterOf) (As := [.long v_3, .int 0]) (index := 138) wd_370 wd_371 wd_118 xw_X10_letterOf rfl ⟨_, _, _, Or.inl wd_369⟩ (by decide) rfl rfl dX8_readDigits_16) (ev_X10_letterOf hO hP h_10) xw_X10_letterOf rfl wd_118 dX8_readDigits_16 (by decide) (by decide) (by simp [x_cat, x_catI, x_catJ])
      refine x_callR z9 ?_
      refine ev_at (st' := [.int v_8, va_rf (σ_4.R 300 a0)]) rfl rfl ?_
      refine ev_bipush (v := 98) dX8_readDigits_19 (by decide) ?_
      by_cases c_11 : v_8 = 98
      · rw [if_pos c_11] at h
        refine ev_icmp_eq (x := v_8) (y := 98) (tgt := 28) dX8_readDigits_21 (by decide) (fun _ => ?_) (fun q9 => absurd c_11 q9)
        refine ev_iconst (v := 0) dX8_readDigits_28 (by decide) ?_
        exact ev_sub [1, 2, 3, 4, 0] rfl (ev_X8_readDigits_p29 hO hP h)
      · rw [if_neg c_11] at h
        refine ev_icmp_eq (x := v_8) (y := 98) (tgt := 28) dX8_readDigits_21 (by decide) (fun q9 => absurd q9 c_11) (fun _ => ?_)
        refine ev_iconst (v := 1) dX8_readDigits_24 (by decide) ?_
        refine ev_goto (tgt := 29) dX8_readDigits_25 (by decide) ?_
        exact ev_sub [1, 2, 3, 4, 0] rfl (ev_X8_readDigits_p29 hO hP h)
    · have z9 := x_call (M := mX8_readDigits) (M' := mX10_letterOf) (pc := 16) (st := [.int 0, .long v_3, va_rf (σ_4.R 300 a0)]) (rest := [va_rf (σ_4.R 300 a0)]) (av := [.long v_3, .int 0]) (x_linkS (M := mX8_readDigits) (M' := mX10_letterOf) (As := [.long v_3, .int 0]) (index := 138) wd_370 wd_371 wd_118 xw_X10_letterOf rfl ⟨_, _, _, Or.inl wd_369⟩ (by decide) rfl rfl dX8_readDigits_16) (ev_X10_letterOf hO hP h_10) xw_X10_letterOf rfl wd_118 dX8_readDigits_16 (by decide) (by decide) (by simp [x_cat, x_catI, x_catJ])
      cases h
      exact x_callX z9 (evX_out rfl)
  · have z9 := x_call (M := mX8_readDigits) (M' := mX10_name) (pc := 4) (st := [va_rf (some a_2)]) (rest := []) (av := [va_rf (some a_2)]) (x_linkV (M := mX8_readDigits) (M' := mX10_name) (As := []) (index := 43) (C := RX10) (T := TX10) (xE_10 c_6) rfl wd_280 wd_281 wd_279 xw_X10_name rfl (by decide) rfl rfl dX8_readDigits_4) (ev_X10_name hO hP h_5) xw_X10_name rfl wd_118 dX8_readDigits_4 (by decide) (by decide) (by simp [x_cat, x_catI, x_catJ])
    cases h
    exact x_callX z9 (evX_out rfl)
