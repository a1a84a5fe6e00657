set_option maxHeartbeats 4000000 in
set_option maxRecDepth 100000 in
theorem ev_X12_keyword_p239 {l : Launch} {G : xG} (hO : x_OK l G) {P : xP} (hP : x_PG P G) {a0 : Nat} {s0 : Int32} {σ σ' : xS} {rr : Int32 ⊕ String} (h : dm_X12_keyword_p239 P a0 s0 σ = some (rr, σ')) : Ev l G mX12_keyword 239 [] [.int s0] σ (xrI rr) σ' := by
  unfold dm_X12_keyword_p239 at h
  cases h
  exact ev_iret rfl rfl dX12_keyword_239
set_option maxHeartbeats 4000000 in
set_option maxRecDepth 100000 in
theorem ev_X12_keyword_p238 {l : Launch} {G : xG} (hO : x_OK l G) {P : xP} (hP : x_PG P G) {a0 : Nat} {σ σ' : xS} {rr : Int32 ⊕ String} (h : dm_X12_keyword_p238 P a0 σ = some (rr, σ')) : Ev l G mX12_keyword 238 [] [] σ (xrI rr) σ' := by
  unfold dm_X12_keyword_p238 at h
  refine ev_iconst (v := -1) dX12_keyword_238 (by decide) ?_
  exact ev_sub [] rfl (ev_X12_keyword_p239 hO hP h)
set_option maxHeartbeats 4000000 in
set_option maxRecDepth 100000 in
theorem ev_X12_keyword_p215 {l : Launch} {G : xG} (hO : x_OK l G) {P : xP} (hP : x_PG P G) {a0 : Nat} {v1 : Int32} {σ σ' : xS} {rr : Int32 ⊕ String} (h : dm_X12_keyword_p215 P a0 v1 σ = some (rr, σ')) : Ev l G mX12_keyword 215 [(0, va_rf (some a0)), (1, .int v1)] [] σ (xrI rr) σ' := by
  unfold dm_X12_keyword_p215 at h
  refine ev_iload_n (j := 1) (x := v1) dX12_keyword_215 rfl rfl ?_
  refine ev_iconst (v := 3) dX12_keyword_216 (by decide) ?_
  by_cases c_1 : v1 = 3
  · rw [if_pos c_1] at h
    refine ev_icmp_ne (x := v1) (y := 3) (tgt := 238) dX12_keyword_217 (by decide) (fun q9 => absurd c_1 q9) (fun _ => ?_)
    refine ev_aload_n (j := 0) (x := (some a0)) dX12_keyword_220 rfl rfl ?_
    refine ev_iconst (v := 0) dX12_keyword_221 (by decide) ?_
    refine ev_bipush (v := 101) dX12_keyword_222 (by decide) ?_
    refine ev_bipush (v := 110) dX12_keyword_224 (by decide) ?_
    refine ev_bipush (v := 100) dX12_keyword_226 (by decide) ?_
    obtain ⟨c_5, h⟩ := x_chk_e h
    rcases x_bind_e h with ⟨v_2, σ_3, h_4, h⟩ | ⟨E_7, σ_3, h_4, h⟩
    · have z9 := x_call (M := mX12_keyword) (M' := mX12_is) (pc := 228) (st := [.int 100, .int 110, .int 101, .int 0, va_rf (some a0)]) (rest := []) (av := [va_rf (some a0), .int 0, .int 101, .int 110, .int 100]) (x_linkV (M := mX12_keyword) (M' := mX12_is) (As := [.int 0, .int 101, .int 110, .int 100]) (index := 158) (C := RX12) (T := TX12) (xE_12 c_5) rfl wd_660 wd_661 (wG_in (List.mem_append_left _ (List.mem_of_getElem? (i := 43) rfl)) rfl) xw_X12_is rfl (by decide) rfl rfl dX12_keyword_228) (ev_X12_is hO hP h_4) xw_X12_is rfl wd_198 dX12_keyword_228 (by decide) (by decide) (by simp [x_cat, x_catI, x_catJ])
      refine x_callR z9 ?_
      refine ev_at (st' := [.int v_2]) rfl rfl ?_
      by_cases c_6 : v_2 = 0
      · rw [if_pos c_6] at h
        refine ev_if_eq (x := v_2) (tgt := 238) dX12_keyword_231 (by decide) (fun _ => ?_) (fun q9 => absurd c_6 q9)
        exact ev_sub [] rfl (ev_X12_keyword_p238 hO hP h)
      · rw [if_neg c_6] at h
        refine ev_if_eq (x := v_2) (tgt := 238) dX12_keyword_231 (by decide) (fun q9 => absurd q9 c_6) (fun _ => ?_)
        refine ev_iconst (v := 5) dX12_keyword_234 (by decide) ?_
        refine ev_goto (tgt := 239) dX12_keyword_235 (by decide) ?_
        exact ev_sub [] rfl (ev_X12_keyword_p239 hO hP h)
    · have z9 := x_call (M := mX12_keyword) (M' := mX12_is) (pc := 228) (st := [.int 100, .int 110, .int 101, .int 0, va_rf (some a0)]) (rest := []) (av := [va_rf (some a0), .int 0, .int 101, .int 110, .int 100]) (x_linkV (M := mX12_keyword) (M' := mX12_is) (As := [.int 0, .int 101, .int 110, .int 100]) (index := 158) (C := RX12) (T := TX12) (xE_12 c_5) rfl wd_660 wd_661 (wG_in (List.mem_append_left _ (List.mem_of_getElem? (i := 43) rfl)) rfl) xw_X12_is rfl (by decide) rfl rfl dX12_keyword_228) (ev_X12_is hO hP h_4) xw_X12_is rfl wd_198 dX12_keyword_228 (by decide) (by decide) (by simp [x_cat, x_catI, x_catJ])
      cases h
      exact x_callX z9 (evX_out rfl)
  · rw [if_neg c_1] at h
    refine ev_icmp_ne (x := v1) (y := 3) (tgt := 238) dX12_keyword_217 (by decide) (fun _ => ?_) (fun q9 => absurd q9 c_1)
    exact ev_sub [] rfl (ev_X12_keyword_p238 hO hP h)
set_option maxHeartbeats 4000000 in
set_option maxRecDepth 100000 in
theorem ev_X12_keyword_p179 {l : Launch} {G : xG} (hO : x_OK l G) {P : xP} (hP : x_PG P G) {a0 : Nat} {v1 : Int32} {σ σ' : xS} {rr : Int32 ⊕ String} (h : dm_X12_keyword_p179 P a0 v1 σ = some (rr, σ')) : Ev l G mX12_keyword 179 [(0, va_rf (some a0)), (1, .int v1)] [] σ (xrI rr) σ' := by
  unfold dm_X12_keyword_p179 at h
  refine ev_iload_n (j := 1) (x := v1) dX12_keyword_179 rfl rfl ?_
  refine ev_bipush (v := 6) dX12_keyword_180 (by decide) ?_
  by_cases c_1 : v1 = 6
  · rw [if_pos c_1] at h
    refine ev_icmp_ne (x := v1) (y := 6) (tgt := 215) dX12_keyword_182 (by decide) (fun q9 => absurd c_1 q9) (fun _ => ?_)
    refine ev_aload_n (j := 0) (x := (some a0)) dX12_keyword_185 rfl rfl ?_
    refine ev_iconst (v := 0) dX12_keyword_186 (by decide) ?_
    refine ev_bipush (v := 97) dX12_keyword_187 (by decide) ?_
    refine ev_bipush (v := 115) dX12_keyword_189 (by decide) ?_
    refine ev_bipush (v := 115) dX12_keyword_191 (by decide) ?_
    obtain ⟨c_5, h⟩ := x_chk_e h
    rcases x_bind_e h with ⟨v_2, σ_3, h_4, h⟩ | ⟨E_13, σ_3, h_4, h⟩
    · have z9 := x_call (M := mX12_keyword) (M' := mX12_is) (pc := 193) (st := [.int 115, .int 115, .int 97, .int 0, va_rf (some a0)]) (rest := []) (av := [va_rf (some a0), .int 0, .int 97, .int 115, .int 115]) (x_linkV (M := mX12_keyword) (M' := mX12_is) (As := [.int 0, .int 97, .int 115, .int 115]) (index := 158) (C := RX12) (T := TX12) (xE_12 c_5) rfl wd_660 wd_661 (wG_in (List.mem_append_left _ (List.mem_of_getElem? (i := 43) rfl)) rfl) xw_X12_is rfl (by decide) rfl rfl dX12_keyword_193) (ev_X12_is hO hP h_4) xw_X12_is rfl wd_198 dX12_keyword_193 (by decide) (by decide) (by simp [x_cat, x_catI, x_catJ])
      refine x_callR z9 ?_
      refine ev_at (st' := [.int v_2]) rfl rfl ?_
      by_cases c_6 : v_2 = 0
      · rw [if_pos c_6] at h
        refine ev_if_eq (x := v_2) (tgt := 215) dX12_keyword_196 (by decide) (fun _ => ?_) (fun q9 => absurd c_6 q9)
        exact ev_sub [0, 1] rfl (ev_X12_keyword_p215 hO hP h)
      · rw [if_neg c_6] at h
        refine ev_if_eq (x := v_2) (tgt := 215) dX12_keyword_196 (by decide) (fun q9 => absurd q9 c_6) (fun _ => ?_)
        refine ev_aload_n (j := 0) (x := (some a0)) dX12_keyword_199 rfl rfl ?_
        refine ev_iconst (v := 3) dX12_keyword_200 (by decide) ?_
        refine ev_bipush (v := 105) dX12_keyword_201 (by decide) ?_
        refine ev_bipush (v := 103) dX12_keyword_203 (by decide) ?_
        refine ev_bipush (v := 110) dX12_keyword_205 (by decide) ?_
        obtain ⟨c_10, h⟩ := x_chk_e h
        rcases x_bind_e h with ⟨v_7, σ_8, h_9, h⟩ | ⟨E_12, σ_8, h_9, h⟩
        · have z9 := x_call (M := mX12_keyword) (M' := mX12_is) (pc := 207) (st := [.int 110, .int 103, .int 105, .int 3, va_rf (some a0)]) (rest := []) (av := [va_rf (some a0), .int 3, .int 105, .int 103, .int 110]) (x_linkV (M := mX12_keyword) (M' := mX12_is) (As := [.int 3, .int 105, .int 103, .int 110]) (index := 158) (C := RX12) (T := TX12) (xE_12 c_10) rfl wd_660 wd_661 (wG_in (List.mem_append_left _ (List.mem_of_getElem? (i := 43) rfl)) rfl) xw_X12_is rfl (by decide) rfl rfl dX12_keyword_207) (ev_X12_is hO hP h_9) xw_X12_is rfl wd_198 dX12_keyword_207 (by decide) (by decide) (by simp [x_cat, x_catI, x_catJ])
          refine x_callR z9 ?_
          refine ev_at (st' := [.int v_7]) rfl rfl ?_
          by_cases c_11 : v_7 = 0
          · rw [if_pos c_11] at h
            refine ev_if_eq (x := v_7) (tgt := 215) dX12_keyword_210 (by decide) (fun _ => ?_) (fun q9 => absurd c_11 q9)
            exact ev_sub [0, 1] rfl (ev_X12_keyword_p215 hO hP h)
          · rw [if_neg c_11] at h
            refine ev_if_eq (x := v_7) (tgt := 215) dX12_keyword_210 (by decide) (fun q9 => absurd q9 c_11) (fun _ => ?_)
            refine ev_iconst (v := 4) dX12_keyword_213 (by decide) ?_
            cases h
            exact ev_iret rfl rfl dX12_keyword_214
        · have z9 := x_call (M := mX12_keyword) (M' := mX12_is) (pc := 207) (st := [.int 110, .int 103, .int 105, .int 3, va_rf (some a0)]) (rest := []) (av := [va_rf (some a0), .int 3, .int 105, .int 103, .int 110]) (x_linkV (M := mX12_keyword) (M' := mX12_is) (As := [.int 3, .int 105, .int 103, .int 110]) (index := 158) (C := RX12) (T := TX12) (xE_12 c_10) rfl wd_660 wd_661 (wG_in (List.mem_append_left _ (List.mem_of_getElem? (i := 43) rfl)) rfl) xw_X12_is rfl (by decide) rfl rfl dX12_keyword_207) (ev_X12_is hO hP h_9) xw_X12_is rfl wd_198 dX12_keyword_207 (by decide) (by decide) (by simp [x_cat, x_catI, x_catJ])
          cases h
          exact x_callX z9 (evX_out rfl)
    · have z9 := x_call (M := mX12_keyword) (M' := mX12_is) (pc := 193) (st := [.int 115, .int 115, .int 97, .int 0, va_rf (some a0)]) (rest := []) (av := [va_rf (some a0), .int 0, .int 97, .int 115, .int 115]) (x_linkV (M := mX12_keyword) (M' := mX12_is) (As := [.int 0, .int 97, .int 115, .int 115]) (index := 158) (C := RX12) (T := TX12) (xE_12 c_5) rfl wd_660 wd_661 (wG_in (List.mem_append_left _ (List.mem_of_getElem? (i := 43) rfl)) rfl) xw_X12_is rfl (by decide) rfl rfl dX12_keyword_193) (ev_X12_is hO hP h_4) xw_X12_is rfl wd_198 dX12_keyword_193 (by decide) (by decide) (by simp [x_cat, x_catI, x_catJ])
      cases h
      exact x_callX z9 (evX_out rfl)
  · rw [if_neg c_1] at h
    refine ev_icmp_ne (x := v1) (y := 6) (tgt := 215) dX12_keyword_182 (by decide) (fun _ => ?_) (fun q9 => absurd q9 c_1)
    exact ev_sub [0, 1] rfl (ev_X12_keyword_p215 hO hP h)
set_option maxHeartbeats 4000000 in
set_option maxRecDepth 100000 in
theorem ev_X12_keyword_p143 {l : Launch} {G : xG} (hO : x_OK l G) {P : xP} (hP : x_PG P G) {a0 : Nat} {v1 : Int32} {σ σ' : xS} {rr : Int32 ⊕ String} (h : dm_X12_keyword_p143 P a0 v1 σ = some (rr, σ')) : Ev l G mX12_keyword 143 [(0, va_rf (some a0)), (1, .int v1)] [] σ (xrI rr) σ' := by
  unfold dm_X12_keyword_p143 at h
  refine ev_iload_n (j := 1) (x := v1) dX12_keyword_143 rfl rfl ?_
  refine ev_iconst (v := 4) dX12_keyword_144 (by decide) ?_
  by_cases c_1 : v1 = 4
  · rw [if_pos c_1] at h
    refine ev_icmp_ne (x := v1) (y := 4) (tgt := 179) dX12_keyword_145 (by decide) (fun q9 => absurd c_1 q9) (fun _ => ?_)
    refine ev_aload_n (j := 0) (x := (some a0)) dX12_keyword_148 rfl rfl ?_
    refine ev_iconst (v := 0) dX12_keyword_149 (by decide) ?_
    refine ev_bipush (v := 119) dX12_keyword_150 (by decide) ?_
    refine ev_bipush (v := 105) dX12_keyword_152 (by decide) ?_
    refine ev_bipush (v := 114) dX12_keyword_154 (by decide) ?_
    obtain ⟨c_5, h⟩ := x_chk_e h
    rcases x_bind_e h with ⟨v_2, σ_3, h_4, h⟩ | ⟨E_13, σ_3, h_4, h⟩
    · have z9 := x_call (M := mX12_keyword) (M' := mX12_is) (pc := 156) (st := [.int 114, .int 105, .int 119, .int 0, va_rf (some a0)]) (rest := []) (av := [va_rf (some a0), .int 0, .int 119, .int 105, .int 114]) (x_linkV (M := mX12_keyword) (M' := mX12_is) (As := [.int 0, .int 119, .int 105, .int 114]) (index := 158) (C := RX12) (T := TX12) (xE_12 c_5) rfl wd_660 wd_661 (wG_in (List.mem_append_left _ (List.mem_of_getElem? (i := 43) rfl)) rfl) xw_X12_is rfl (by decide) rfl rfl dX12_keyword_156) (ev_X12_is hO hP h_4) xw_X12_is rfl wd_198 dX12_keyword_156 (by decide) (by decide) (by simp [x_cat, x_catI, x_catJ])
      refine x_callR z9 ?_
      refine ev_at (st' := [.int v_2]) rfl rfl ?_
      by_cases c_6 : v_2 = 0
      · rw [if_pos c_6] at h
        refine ev_if_eq (x := v_2) (tgt := 179) dX12_keyword_159 (by decide) (fun _ => ?_) (fun q9 => absurd c_6 q9)
        exact ev_sub [0, 1] rfl (ev_X12_keyword_p179 hO hP h)
      · rw [if_neg c_6] at h
        refine ev_if_eq (x := v_2) (tgt := 179) dX12_keyword_159 (by decide) (fun q9 => absurd q9 c_6) (fun _ => ?_)
        refine ev_aload_n (j := 0) (x := (some a0)) dX12_keyword_162 rfl rfl ?_
        refine ev_aload_n (j := 0) (x := (some a0)) dX12_keyword_163 rfl rfl ?_
        obtain ⟨c_7, h⟩ := x_chk_e h
        refine ev_get (C := RX12) (T := TX12) (k := 36) inX12 (xE_12 c_7) rfl (by decide) wd_646 (Or.inl rfl) rfl dX12_keyword_164 ?_
        refine ev_iconst (v := 3) dX12_keyword_167 (by decide) ?_
        refine ev_iadd (x := (σ_3.I 1136 a0)) (y := 3) dX12_keyword_168 ?_
        rcases x_bind_e h with ⟨v_8, σ_9, h_10, h⟩ | ⟨E_12, σ_9, h_10, h⟩
        · have z9 := x_call (M := mX12_keyword) (M' := mX12_sign) (pc := 169) (st := [.int ((σ_3.I 1136 a0) + 3), va_rf (some a0)]) (rest := []) (av := [va_rf (some a0), .int ((σ_3.I 1136 a0) + 3)]) (x_linkV (M := mX12_keyword) (M' := mX12_sign) (As := [.int ((σ_3.I 1136 a0) + 3)]) (index := 128) (C := RX12) (T := TX12) (xE_12 c_7) rfl wd_644 wd_645 (wG_in (List.mem_append_left _ (List.mem_of_getElem? (i := 38) rfl)) rfl) xw_X12_sign rfl (by decide) rfl rfl dX12_keyword_169) (ev_X12_sign hO hP h_10) xw_X12_sign rfl wd_198 dX12_keyword_169 (by decide) (by decide) (by simp [x_cat, x_catI, x_catJ])
          refine x_callR z9 ?_
          refine ev_at (st' := [.int v_8]) rfl rfl ?_
          refine ev_bipush (v := 101) dX12_keyword_172 (by decide) ?_
          by_cases c_11 : v_8 = 101
          · rw [if_pos c_11] at h
            refine ev_icmp_ne (x := v_8) (y := 101) (tgt := 179) dX12_keyword_174 (by decide) (fun q9 => absurd c_11 q9) (fun _ => ?_)
            refine ev_iconst (v := 3) dX12_keyword_177 (by decide) ?_
            cases h
            exact ev_iret rfl rfl dX12_keyword_178
          · rw [if_neg c_11] at h
            refine ev_icmp_ne (x := v_8) (y := 101) (tgt := 179) dX12_keyword_174 (by decide) (fun _ => ?_) (fun q9 => absurd q9 c_11)
            exact ev_sub [0, 1] rfl (ev_X12_keyword_p179 hO hP h)
        · have z9 := x_call (M := mX12_keyword) (M' := mX12_sign) (pc := 169) (st := [.int ((σ_3.I 1136 a0) + 3), va_rf (some a0)]) (rest := []) (av := [va_rf (some a0), .int ((σ_3.I 1136 a0) + 3)]) (x_linkV (M := mX12_keyword) (M' := mX12_sign) (As := [.int ((σ_3.I 1136 a0) + 3)]) (index := 128) (C := RX12) (T := TX12) (xE_12 c_7) rfl wd_644 wd_645 (wG_in (List.mem_append_left _ (List.mem_of_getElem? (i := 38) rfl)) rfl) xw_X12_sign rfl (by decide) rfl rfl dX12_keyword_169) (ev_X12_sign hO hP h_10) xw_X12_sign rfl wd_198 dX12_keyword_169 (by decide) (by decide) (by simp [x_cat, x_catI, x_catJ])
          cases h
          exact x_callX z9 (evX_out rfl)
    · have z9 := x_call (M := mX12_keyword) (M' := mX12_is) (pc := 156) (st := [.int 114, .int 105, .int 119, .int 0, va_rf (some a0)]) (rest := []) (av := [va_rf (some a0), .int 0, .int 119, .int 105, .int 114]) (x_linkV (M := mX12_keyword) (M' := mX12_is) (As := [.int 0, .int 119, .int 105, .int 114]) (index := 158) (C := RX12) (T := TX12) (xE_12 c_5) rfl wd_660 wd_661 (wG_in (List.mem_append_left _ (List.mem_of_getElem? (i := 43) rfl)) rfl) xw_X12_is rfl (by decide) rfl rfl dX12_keyword_156) (ev_X12_is hO hP h_4) xw_X12_is rfl wd_198 dX12_keyword_156 (by decide) (by decide) (by simp [x_cat, x_catI, x_catJ])
      cases h
      exact x_callX z9 (evX_out rfl)
  · rw [if_neg c_1] at h
    refine ev_icmp_ne (x := v1) (y := 4) (tgt := 179) dX12_keyword_145 (by decide) (fun _ => ?_) (fun q9 => absurd q9 c_1)
    exact ev_sub [0, 1] rfl (ev_X12_keyword_p179 hO hP h)
set_option maxHeartbeats 4000000 in
set_option maxRecDepth 100000 in
theorem ev_X12_keyword_p107 {l : Launch} {G : xG} (hO : x_OK l G) {P : xP} (hP : x_PG P G) {a0 : Nat} {v1 : Int32} {σ σ' : xS} {rr : Int32 ⊕ String} (h : dm_X12_keyword_p107 P a0 v1 σ = some (rr, σ')) : Ev l G mX12_keyword 107 [(0, va_rf (some a0)), (1, .int v1)] [] σ (xrI rr) σ' := by
  unfold dm_X12_keyword_p107 at h
  refine ev_iload_n (j := 1) (x := v1) dX12_keyword_107 rfl rfl ?_
  refine ev_bipush (v := 6) dX12_keyword_108 (by decide) ?_
  by_cases c_1 : v1 = 6
  · rw [if_pos c_1] at h
    refine ev_icmp_ne (x := v1) (y := 6) (tgt := 143) dX12_keyword_110 (by decide) (fun q9 => absurd c_1 q9) (fun _ => ?_)
    refine ev_aload_n (j := 0) (x := (some a0)) dX12_keyword_113 rfl rfl ?_
    refine ev_iconst (v := 0) dX12_keyword_114 (by decide) ?_
    refine ev_bipush (v := 111) dX12_keyword_115 (by decide) ?_
    refine ev_bipush (v := 117) dX12_keyword_117 (by decide) ?_
    refine ev_bipush (v := 116) dX12_keyword_119 (by decide) ?_
    obtain ⟨c_5, h⟩ := x_chk_e h
    rcases x_bind_e h with ⟨v_2, σ_3, h_4, h⟩ | ⟨E_13, σ_3, h_4, h⟩
    · have z9 := x_call (M := mX12_keyword) (M' := mX12_is) (pc := 121) (st := [.int 116, .int 117, .int 111, .int 0, va_rf (some a0)]) (rest := []) (av := [va_rf (some a0), .int 0, .int 111, .int 117, .int 116]) (x_linkV (M := mX12_keyword) (M' := mX12_is) (As := [.int 0, .int 111, .int 117, .int 116]) (index := 158) (C := RX12) (T := TX12) (xE_12 c_5) rfl wd_660 wd_661 (wG_in (List.mem_append_left _ (List.mem_of_getElem? (i := 43) rfl)) rfl) xw_X12_is rfl (by decide) rfl rfl dX12_keyword_121) (ev_X12_is hO hP h_4) xw_X12_is rfl wd_198 dX12_keyword_121 (by decide) (by decide) (by simp [x_cat, x_catI, x_catJ])
      refine x_callR z9 ?_
      refine ev_at (st' := [.int v_2]) rfl rfl ?_
      by_cases c_6 : v_2 = 0
      · rw [if_pos c_6] at h
        refine ev_if_eq (x := v_2) (tgt := 143) dX12_keyword_124 (by decide) (fun _ => ?_) (fun q9 => absurd c_6 q9)
        exact ev_sub [0, 1] rfl (ev_X12_keyword_p143 hO hP h)
      · rw [if_neg c_6] at h
        refine ev_if_eq (x := v_2) (tgt := 143) dX12_keyword_124 (by decide) (fun q9 => absurd q9 c_6) (fun _ => ?_)
        refine ev_aload_n (j := 0) (x := (some a0)) dX12_keyword_127 rfl rfl ?_
        refine ev_iconst (v := 3) dX12_keyword_128 (by decide) ?_
        refine ev_bipush (v := 112) dX12_keyword_129 (by decide) ?_
        refine ev_bipush (v := 117) dX12_keyword_131 (by decide) ?_
        refine ev_bipush (v := 116) dX12_keyword_133 (by decide) ?_
        obtain ⟨c_10, h⟩ := x_chk_e h
        rcases x_bind_e h with ⟨v_7, σ_8, h_9, h⟩ | ⟨E_12, σ_8, h_9, h⟩
        · have z9 := x_call (M := mX12_keyword) (M' := mX12_is) (pc := 135) (st := [.int 116, .int 117, .int 112, .int 3, va_rf (some a0)]) (rest := []) (av := [va_rf (some a0), .int 3, .int 112, .int 117, .int 116]) (x_linkV (M := mX12_keyword) (M' := mX12_is) (As := [.int 3, .int 112, .int 117, .int 116]) (index := 158) (C := RX12) (T := TX12) (xE_12 c_10) rfl wd_660 wd_661 (wG_in (List.mem_append_left _ (List.mem_of_getElem? (i := 43) rfl)) rfl) xw_X12_is rfl (by decide) rfl rfl dX12_keyword_135) (ev_X12_is hO hP h_9) xw_X12_is rfl wd_198 dX12_keyword_135 (by decide) (by decide) (by simp [x_cat, x_catI, x_catJ])
          refine x_callR z9 ?_
          refine ev_at (st' := [.int v_7]) rfl rfl ?_
          by_cases c_11 : v_7 = 0
          · rw [if_pos c_11] at h
            refine ev_if_eq (x := v_7) (tgt := 143) dX12_keyword_138 (by decide) (fun _ => ?_) (fun q9 => absurd c_11 q9)
            exact ev_sub [0, 1] rfl (ev_X12_keyword_p143 hO hP h)
          · rw [if_neg c_11] at h
            refine ev_if_eq (x := v_7) (tgt := 143) dX12_keyword_138 (by decide) (fun q9 => absurd q9 c_11) (fun _ => ?_)
            refine ev_iconst (v := 2) dX12_keyword_141 (by decide) ?_
            cases h
            exact ev_iret rfl rfl dX12_keyword_142
        · have z9 := x_call (M := mX12_keyword) (M' := mX12_is) (pc := 135) (st := [.int 116, .int 117, .int 112, .int 3, va_rf (some a0)]) (rest := []) (av := [va_rf (some a0), .int 3, .int 112, .int 117, .int 116]) (x_linkV (M := mX12_keyword) (M' := mX12_is) (As := [.int 3, .int 112, .int 117, .int 116]) (index := 158) (C := RX12) (T := TX12) (xE_12 c_10) rfl wd_660 wd_661 (wG_in (List.mem_append_left _ (List.mem_of_getElem? (i := 43) rfl)) rfl) xw_X12_is rfl (by decide) rfl rfl dX12_keyword_135) (ev_X12_is hO hP h_9) xw_X12_is rfl wd_198 dX12_keyword_135 (by decide) (by decide) (by simp [x_cat, x_catI, x_catJ])
          cases h
          exact x_callX z9 (evX_out rfl)
    · have z9 := x_call (M := mX12_keyword) (M' := mX12_is) (pc := 121) (st := [.int 116, .int 117, .int 111, .int 0, va_rf (some a0)]) (rest := []) (av := [va_rf (some a0), .int 0, .int 111, .int 117, .int 116]) (x_linkV (M := mX12_keyword) (M' := mX12_is) (As := [.int 0, .int 111, .int 117, .int 116]) (index := 158) (C := RX12) (T := TX12) (xE_12 c_5) rfl wd_660 wd_661 (wG_in (List.mem_append_left _ (List.mem_of_getElem? (i := 43) rfl)) rfl) xw_X12_is rfl (by decide) rfl rfl dX12_keyword_121) (ev_X12_is hO hP h_4) xw_X12_is rfl wd_198 dX12_keyword_121 (by decide) (by decide) (by simp [x_cat, x_catI, x_catJ])
      cases h
      exact x_callX z9 (evX_out rfl)
  · rw [if_neg c_1] at h
    refine ev_icmp_ne (x := v1) (y := 6) (tgt := 143) dX12_keyword_110 (by decide) (fun _ => ?_) (fun q9 => absurd q9 c_1)
    exact ev_sub [0, 1] rfl (ev_X12_keyword_p143 hO hP h)
set_option maxHeartbeats 4000000 in
set_option maxRecDepth 100000 in
theorem ev_X12_keyword_p56 {l : Launch} {G : xG} (hO : x_OK l G) {P : xP} (hP : x_PG P G) {a0 : Nat} {v1 : Int32} {σ σ' : xS} {rr : Int32 ⊕ String} (h : dm_X12_keyword_p56 P a0 v1 σ = some (rr, σ')) : Ev l G mX12_keyword 56 [(0, va_rf (some a0)), (1, .int v1)] [] σ (xrI rr) σ' := by
  unfold dm_X12_keyword_p56 at h
  refine ev_iload_n (j := 1) (x := v1) dX12_keyword_56 rfl rfl ?_
  refine ev_iconst (v := 5) dX12_keyword_57 (by decide) ?_
  by_cases c_1 : v1 = 5
  · rw [if_pos c_1] at h
    refine ev_icmp_ne (x := v1) (y := 5) (tgt := 107) dX12_keyword_58 (by decide) (fun q9 => absurd c_1 q9) (fun _ => ?_)
    refine ev_aload_n (j := 0) (x := (some a0)) dX12_keyword_61 rfl rfl ?_
    refine ev_iconst (v := 0) dX12_keyword_62 (by decide) ?_
    refine ev_bipush (v := 105) dX12_keyword_63 (by decide) ?_
    refine ev_bipush (v := 110) dX12_keyword_65 (by decide) ?_
    refine ev_bipush (v := 112) dX12_keyword_67 (by decide) ?_
    obtain ⟨c_5, h⟩ := x_chk_e h
    rcases x_bind_e h with ⟨v_2, σ_3, h_4, h⟩ | ⟨E_19, σ_3, h_4, h⟩
    · have z9 := x_call (M := mX12_keyword) (M' := mX12_is) (pc := 69) (st := [.int 112, .int 110, .int 105, .int 0, va_rf (some a0)]) (rest := []) (av := [va_rf (some a0), .int 0, .int 105, .int 110, .int 112]) (x_linkV (M := mX12_keyword) (M' := mX12_is) (As := [.int 0, .int 105, .int 110, .int 112]) (index := 158) (C := RX12) (T := TX12) (xE_12 c_5) rfl wd_660 wd_661 (wG_in (List.mem_append_left _ (List.mem_of_getElem? (i := 43) rfl)) rfl) xw_X12_is rfl (by decide) rfl rfl dX12_keyword_69) (ev_X12_is hO hP h_4) xw_X12_is rfl wd_198 dX12_keyword_69 (by decide) (by decide) (by simp [x_cat, x_catI, x_catJ])
      refine x_callR z9 ?_
      refine ev_at (st' := [.int v_2]) rfl rfl ?_
      by_cases c_6 : v_2 = 0
      · rw [if_pos c_6] at h
        refine ev_if_eq (x := v_2) (tgt := 107) dX12_keyword_72 (by decide) (fun _ => ?_) (fun q9 => absurd c_6 q9)
        exact ev_sub [0, 1] rfl (ev_X12_keyword_p107 hO hP h)
      · rw [if_neg c_6] at h
        refine ev_if_eq (x := v_2) (tgt := 107) dX12_keyword_72 (by decide) (fun q9 => absurd q9 c_6) (fun _ => ?_)
        refine ev_aload_n (j := 0) (x := (some a0)) dX12_keyword_75 rfl rfl ?_
        refine ev_aload_n (j := 0) (x := (some a0)) dX12_keyword_76 rfl rfl ?_
        obtain ⟨c_7, h⟩ := x_chk_e h
        refine ev_get (C := RX12) (T := TX12) (k := 36) inX12 (xE_12 c_7) rfl (by decide) wd_646 (Or.inl rfl) rfl dX12_keyword_77 ?_
        refine ev_iconst (v := 3) dX12_keyword_80 (by decide) ?_
        refine ev_iadd (x := (σ_3.I 1136 a0)) (y := 3) dX12_keyword_81 ?_
        rcases x_bind_e h with ⟨v_8, σ_9, h_10, h⟩ | ⟨E_18, σ_9, h_10, h⟩
        · have z9 := x_call (M := mX12_keyword) (M' := mX12_sign) (pc := 82) (st := [.int ((σ_3.I 1136 a0) + 3), va_rf (some a0)]) (rest := []) (av := [va_rf (some a0), .int ((σ_3.I 1136 a0) + 3)]) (x_linkV (M := mX12_keyword) (M' := mX12_sign) (As := [.int ((σ_3.I 1136 a0) + 3)]) (index := 128) (C := RX12) (T := TX12) (xE_12 c_7) rfl wd_644 wd_645 (wG_in (List.mem_append_left _ (List.mem_of_getElem? (i := 38) rfl)) rfl) xw_X12_sign rfl (by decide) rfl rfl dX12_keyword_82) (ev_X12_sign hO hP h_10) xw_X12_sign rfl wd_198 dX12_keyword_82 (by decide) (by decide) (by simp [x_cat, x_catI, x_catJ])
          refine x_callR z9 ?_
          refine ev_at (st' := [.int v_8]) rfl rfl ?_
          refine ev_bipush (v := 117) dX12_keyword_85 (by decide) ?_
          by_cases c_11 : v_8 = 117
          · rw [if_pos c_11] at h
            refine ev_icmp_ne (x := v_8) (y := 117) (tgt := 107) dX12_keyword_87 (by decide) (fun q9 => absurd c_11 q9) (fun _ => ?_)
            refine ev_aload_n (j := 0) (x := (some a0)) dX12_keyword_90 rfl rfl ?_
            refine ev_aload_n (j := 0) (x := (some a0)) dX12_keyword_91 rfl rfl ?_
            obtain ⟨c_12, h⟩ := x_chk_e h
            refine ev_get (C := RX12) (T := TX12) (k := 36) inX12 (xE_12 c_12) rfl (by decide) wd_646 (Or.inl rfl) rfl dX12_keyword_92 ?_
            refine ev_iconst (v := 4) dX12_keyword_95 (by decide) ?_
            refine ev_iadd (x := (σ_9.I 1136 a0)) (y := 4) dX12_keyword_96 ?_
            rcases x_bind_e h with ⟨v_13, σ_14, h_15, h⟩ | ⟨E_17, σ_14, h_15, h⟩
            · have z9 := x_call (M := mX12_keyword) (M' := mX12_sign) (pc := 97) (st := [.int ((σ_9.I 1136 a0) + 4), va_rf (some a0)]) (rest := []) (av := [va_rf (some a0), .int ((σ_9.I 1136 a0) + 4)]) (x_linkV (M := mX12_keyword) (M' := mX12_sign) (As := [.int ((σ_9.I 1136 a0) + 4)]) (index := 128) (C := RX12) (T := TX12) (xE_12 c_12) rfl wd_644 wd_645 (wG_in (List.mem_append_left _ (List.mem_of_getElem? (i := 38) rfl)) rfl) xw_X12_sign rfl (by decide) rfl rfl dX12_keyword_97) (ev_X12_sign hO hP h_15) xw_X12_sign rfl wd_198 dX12_keyword_97 (by decide) (by decide) (by simp [x_cat, x_catI, x_catJ])
              refine x_callR z9 ?_
              refine ev_at (st' := [.int v_13]) rfl rfl ?_
              refine ev_bipush (v := 116) dX12_keyword_100 (by decide) ?_
              by_cases c_16 : v_13 = 116
              · rw [if_pos c_16] at h
                refine ev_icmp_ne (x := v_13) (y := 116) (tgt := 107) dX12_keyword_102 (by decide) (fun q9 => absurd c_16 q9) (fun _ => ?_)
                refine ev_iconst (v := 1) dX12_keyword_105 (by decide) ?_
                cases h
                exact ev_iret rfl rfl dX12_keyword_106
              · rw [if_neg c_16] at h
                refine ev_icmp_ne (x := v_13) (y := 116) (tgt := 107) dX12_keyword_102 (by decide) (fun _ => ?_) (fun q9 => absurd q9 c_16)
                exact ev_sub [0, 1] rfl (ev_X12_keyword_p107 hO hP h)
            · have z9 := x_call (M := mX12_keyword) (M' := mX12_sign) (pc := 97) (st := [.int ((σ_9.I 1136 a0) + 4), va_rf (some a0)]) (rest := []) (av := [va_rf (some a0), .int ((σ_9.I 1136 a0) + 4)]) (x_linkV (M := mX12_keyword) (M' := mX12_sign) (As := [.int ((σ_9.I 1136 a0) + 4)]) (index := 128) (C := RX12) (T := TX12) (xE_12 c_12) rfl wd_644 wd_645 (wG_in (List.mem_append_left _ (List.mem_of_getElem? (i := 38) rfl)) rfl) xw_X12_sign rfl (by decide) rfl rfl dX12_keyword_97) (ev_X12_sign hO hP h_15) xw_X12_sign rfl wd_198 dX12_keyword_97 (by decide) (by decide) (by simp [x_cat, x_catI, x_catJ])
              cases h
              exact x_callX z9 (evX_out rfl)
          · rw [if_neg c_11] at h
            refine ev_icmp_ne (x := v_8) (y := 117) (tgt := 107) dX12_keyword_87 (by decide) (fun _ => ?_) (fun q9 => absurd q9 c_11)
            exact ev_sub [0, 1] rfl (ev_X12_keyword_p107 hO hP h)
        · have z9 := x_call (M := mX12_keyword) (M' := mX12_sign) (pc := 82) (st := [.int ((σ_3.I 1136 a0) + 3), va_rf (some a0)]) (rest := []) (av := [va_rf (some a0), .int ((σ_3.I 1136 a0) + 3)]) (x_linkV (M := mX12_keyword) (M' := mX12_sign) (As := [.int ((σ_3.I 1136 a0) + 3)]) (index := 128) (C := RX12) (T := TX12) (xE_12 c_7) rfl wd_644 wd_645 (wG_in (List.mem_append_left _ (List.mem_of_getElem? (i := 38) rfl)) rfl) xw_X12_sign rfl (by decide) rfl rfl dX12_keyword_82) (ev_X12_sign hO hP h_10) xw_X12_sign rfl wd_198 dX12_keyword_82 (by decide) (by decide) (by simp [x_cat, x_catI, x_catJ])
          cases h
          exact x_callX z9 (evX_out rfl)
    · have z9 := x_call (M := mX12_keyword) (M' := mX12_is) (pc := 69) (st := [.int 112, .int 110, .int 105, .int 0, va_rf (some a0)]) (rest := []) (av := [va_rf (some a0), .int 0, .int 105, .int 110, .int 112]) (x_linkV (M := mX12_keyword) (M' := mX12_is) (As := [.int 0, .int 105, .int 110, .int 112]) (index := 158) (C := RX12) (T := TX12) (xE_12 c_5) rfl wd_660 wd_661 (wG_in (List.mem_append_left _ (List.mem_of_getElem? (i := 43) rfl)) rfl) xw_X12_is rfl (by decide) rfl rfl dX12_keyword_69) (ev_X12_is hO hP h_4) xw_X12_is rfl wd_198 dX12_keyword_69 (by decide) (by decide) (by simp [x_cat, x_catI, x_catJ])
      cases h
      exact x_callX z9 (evX_out rfl)
  · rw [if_neg c_1] at h
    refine ev_icmp_ne (x := v1) (y := 5) (tgt := 107) dX12_keyword_58 (by decide) (fun _ => ?_) (fun q9 => absurd q9 c_1)
    exact ev_sub [0, 1] rfl (ev_X12_keyword_p107 hO hP h)
set_option maxHeartbeats 4000000 in
set_option maxRecDepth 100000 in
theorem ev_X12_keyword {l : Launch} {G : xG} (hO : x_OK l G) {P : xP} (hP : x_PG P G) {a0 : Nat} {σ σ' : xS} {rr : Int32 ⊕ String} (h : dm_X12_keyword P a0 σ = some (rr, σ')) : EvM l G mX12_keyword [va_rf (some a0)] σ (xrI rr) σ' := by
  unfold dm_X12_keyword at h
  refine evM_of hO (by decide +kernel) (x_lenI (by simp [x_cat, x_catI, x_catJ, mX12_keyword, xM.maxL])) ?_
  refine Eq.mp (congrArg (fun z => Ev l G mX12_keyword 0 z [] σ (xrI rr) σ') (show [(0, va_rf (some a0))] = lv_args 0 [va_rf (some a0)] by simp [lv_args, x_cat, x_catI, x_catJ])) ?_
  refine ev_aload_n (j := 0) (x := (some a0)) dX12_keyword_0 rfl rfl ?_
  obtain ⟨c_1, h⟩ := x_chk_e h
  refine ev_get (C := RX12) (T := TX12) (k := 37) inX12 (xE_12 c_1) rfl (by decide) wd_655 (Or.inl rfl) rfl dX12_keyword_1 ?_
  refine ev_aload_n (j := 0) (x := (some a0)) dX12_keyword_4 rfl rfl ?_
  refine ev_get (C := RX12) (T := TX12) (k := 36) inX12 (xE_12 c_1) rfl (by decide) wd_646 (Or.inl rfl) rfl dX12_keyword_5 ?_
  refine ev_isub (x := (σ.I 1137 a0)) (y := (σ.I 1136 a0)) dX12_keyword_8 ?_
  obtain ⟨v_2, ev_2, h⟩ := x_let_e h
  rw [← ev_2]
  refine ev_istore_n (i := 1) (lv' := [(1, .int v_2), (0, va_rf (some a0))]) dX12_keyword_9 rfl (by decide) (by simp [x_cat, x_catI, x_catJ]) ?_
  refine ev_aload_n (j := 1) (x := (some a0)) dX12_keyword_10 rfl rfl ?_
  refine ev_get (C := RX12) (T := TX12) (k := 35) inX12 (xE_12 c_1) rfl (by decide) wd_653 (Or.inl rfl) rfl dX12_keyword_11 ?_
  refine ev_iconst (v := 1) dX12_keyword_14 (by decide) ?_
  by_cases c_3 : (σ.I 1135 a0) = 1
  · rw [if_pos c_3] at h
    refine ev_icmp_eq (x := (σ.I 1135 a0)) (y := 1) (tgt := 20) dX12_keyword_15 (by decide) (fun _ => ?_) (fun q9 => absurd c_3 q9)
    refine ev_iload_n (j := 0) (x := v_2) dX12_keyword_20 rfl rfl ?_
    refine ev_bipush (v := 6) dX12_keyword_21 (by decide) ?_
    by_cases c_4 : v_2 = 6
    · rw [if_pos c_4] at h
      refine ev_icmp_ne (x := v_2) (y := 6) (tgt := 56) dX12_keyword_23 (by decide) (fun q9 => absurd c_4 q9) (fun _ => ?_)
      refine ev_aload_n (j := 1) (x := (some a0)) dX12_keyword_26 rfl rfl ?_
      refine ev_iconst (v := 0) dX12_keyword_27 (by decide) ?_
      refine ev_bipush (v := 109) dX12_keyword_28 (by decide) ?_
      refine ev_bipush (v := 111) dX12_keyword_30 (by decide) ?_
      refine ev_bipush (v := 100) dX12_keyword_32 (by decide) ?_
      rcases x_bind_e h with ⟨v_5, σ_6, h_7, h⟩ | ⟨E_15, σ_6, h_7, h⟩
      · have z9 := x_call (M := mX12_keyword) (M' := mX12_is) (pc := 34) (st := [.int 100, .int 111, .int 109, .int 0, va_rf (some a0)]) (rest := []) (av := [va_rf (some a0), .int 0, .int 109, .int 111, .int 100]) (x_linkV (M := mX12_keyword) (M' := mX12_is) (As := [.int 0, .int 109, .int 111, .int 100]) (index := 158) (C := RX12) (T := TX12) (xE_12 c_1) rfl wd_660 wd_661 (wG_in (List.mem_append_left _ (List.mem_of_getElem? (i := 43) rfl)) rfl) xw_X12_is rfl (by decide) rfl rfl dX12_keyword_34) (ev_X12_is hO hP h_7) xw_X12_is rfl wd_198 dX12_keyword_34 (by decide) (by decide) (by simp [x_cat, x_catI, x_catJ])
        refine x_callR z9 ?_
        refine ev_at (st' := [.int v_5]) rfl rfl ?_
        by_cases c_8 : v_5 = 0
        · rw [if_pos c_8] at h
          refine ev_if_eq (x := v_5) (tgt := 56) dX12_keyword_37 (by decide) (fun _ => ?_) (fun q9 => absurd c_8 q9)
          exact ev_sub [1, 0] rfl (ev_X12_keyword_p56 hO hP h)
        · rw [if_neg c_8] at h
          refine ev_if_eq (x := v_5) (tgt := 56) dX12_keyword_37 (by decide) (fun q9 => absurd q9 c_8) (fun _ => ?_)
          refine ev_aload_n (j := 1) (x := (some a0)) dX12_keyword_40 rfl rfl ?_
          refine ev_iconst (v := 3) dX12_keyword_41 (by decide) ?_
          refine ev_bipush (v := 117) dX12_keyword_42 (by decide) ?_
          refine ev_bipush (v := 108) dX12_keyword_44 (by decide) ?_
          refine ev_bipush (v := 101) dX12_keyword_46 (by decide) ?_
          obtain ⟨c_12, h⟩ := x_chk_e h
          rcases x_bind_e h with ⟨v_9, σ_10, h_11, h⟩ | ⟨E_14, σ_10, h_11, h⟩
          · have z9 := x_call (M := mX12_keyword) (M' := mX12_is) (pc := 48) (st := [.int 101, .int 108, .int 117, .int 3, va_rf (some a0)]) (rest := []) (av := [va_rf (some a0), .int 3, .int 117, .int 108, .int 101]) (x_linkV (M := mX12_keyword) (M' := mX12_is) (As := [.int 3, .int 117, .int 108, .int 101]) (index := 158) (C := RX12) (T := TX12) (xE_12 c_12) rfl wd_660 wd_661 (wG_in (List.mem_append_left _ (List.mem_of_getElem? (i := 43) rfl)) rfl) xw_X12_is rfl (by decide) rfl rfl dX12_keyword_48) (ev_X12_is hO hP h_11) xw_X12_is rfl wd_198 dX12_keyword_48 (by decide) (by decide) (by simp [x_cat, x_catI, x_catJ])
            refine x_callR z9 ?_
            refine ev_at (st' := [.int v_9]) rfl rfl ?_
            by_cases c_13 : v_9 = 0
            · rw [if_pos c_13] at h
              refine ev_if_eq (x := v_9) (tgt := 56) dX12_keyword_51 (by decide) (fun _ => ?_) (fun q9 => absurd c_13 q9)
              exact ev_sub [1, 0] rfl (ev_X12_keyword_p56 hO hP h)
            · rw [if_neg c_13] at h
              refine ev_if_eq (x := v_9) (tgt := 56) dX12_keyword_51 (by decide) (fun q9 => absurd q9 c_13) (fun _ => ?_)
              refine ev_iconst (v := 0) dX12_keyword_54 (by decide) ?_
              cases h
              exact ev_iret rfl rfl dX12_keyword_55
          · have z9 := x_call (M := mX12_keyword) (M' := mX12_is) (pc := 48) (st := [.int 101, .int 108, .int 117, .int 3, va_rf (some a0)]) (rest := []) (av := [va_rf (some a0), .int 3, .int 117, .int 108, .int 101]) (x_linkV (M := mX12_keyword) (M' := mX12_is) (As := [.int 3, .int 117, .int 108, .int 101]) (index := 158) (C := RX12) (T := TX12) (xE_12 c_12) rfl wd_660 wd_661 (wG_in (List.mem_append_left _ (List.mem_of_getElem? (i := 43) rfl)) rfl) xw_X12_is rfl (by decide) rfl rfl dX12_keyword_48) (ev_X12_is hO hP h_11) xw_X12_is rfl wd_198 dX12_keyword_48 (by decide) (by decide) (by simp [x_cat, x_catI, x_catJ])
            cases h
            exact x_callX z9 (evX_out rfl)
      · have z9 := x_call (M := mX12_keyword) (M' := mX12_is) (pc := 34) (st := [.int 100, .int 111, .int 109, .int 0, va_rf (some a0)]) (rest := []) (av := [va_rf (some a0), .int 0, .int 109, .int 111, .int 100]) (x_linkV (M := mX12_keyword) (M' := mX12_is) (As := [.int 0, .int 109, .int 111, .int 100]) (index := 158) (C := RX12) (T := TX12) (xE_12 c_1) rfl wd_660 wd_661 (wG_in (List.mem_append_left _ (List.mem_of_getElem? (i := 43) rfl)) rfl) xw_X12_is rfl (by decide) rfl rfl dX12_keyword_34) (ev_X12_is hO hP h_7) xw_X12_is rfl wd_198 dX12_keyword_34 (by decide) (by decide) (by simp [x_cat, x_catI, x_catJ])
        cases h
        exact x_callX z9 (evX_out rfl)
    · rw [if_neg c_4] at h
      refine ev_icmp_ne (x := v_2) (y := 6) (tgt := 56) dX12_keyword_23 (by decide) (fun _ => ?_) (fun q9 => absurd q9 c_4)
      exact ev_sub [1, 0] rfl (ev_X12_keyword_p56 hO hP h)
  · rw [if_neg c_3] at h
    refine ev_icmp_eq (x := (σ.I 1135 a0)) (y := 1) (tgt := 20) dX12_keyword_15 (by decide) (fun q9 => absurd q9 c_3) (fun _ => ?_)
    refine ev_iconst (v := -1) dX12_keyword_18 (by decide) ?_
    cases h
    exact ev_iret rfl rfl dX12_keyword_19
set_option maxHeartbeats 4000000 in
set_option maxRecDepth 100000 in
theorem ev_X12_isKey_p20 {l : Launch} {G : xG} (hO : x_OK l G) {P : xP} (hP : x_PG P G) {a0 : Nat} {s0 : Int32} {σ σ' : xS} {rr : Int32 ⊕ String} (h : dm_X12_isKey_p20 P a0 s0 σ = some (rr, σ')) : Ev l G mX12_isKey 20 [] [.int s0] σ (xrI rr) σ' := by
  unfold dm_X12_isKey_p20 at h
  obtain ⟨c_1, h⟩ := x_chk_e h
  cases h
  exact ev_iret rfl (x_boolN c_1) dX12_isKey_20
set_option maxHeartbeats 4000000 in
set_option maxRecDepth 100000 in
theorem ev_X12_isKey_p19 {l : Launch} {G : xG} (hO : x_OK l G) {P : xP} (hP : x_PG P G) {a0 : Nat} {σ σ' : xS} {rr : Int32 ⊕ String} (h : dm_X12_isKey_p19 P a0 σ = some (rr, σ')) : Ev l G mX12_isKey 19 [] [] σ (xrI rr) σ' := by
  unfold dm_X12_isKey_p19 at h
  refine ev_iconst (v := 0) dX12_isKey_19 (by decide) ?_
  exact ev_sub [] rfl (ev_X12_isKey_p20 hO hP h)
set_option maxHeartbeats 4000000 in
set_option maxRecDepth 100000 in
theorem ev_X12_isKey {l : Launch} {G : xG} (hO : x_OK l G) {P : xP} (hP : x_PG P G) {a0 : Nat} {v1 : Int32} {σ σ' : xS} {rr : Int32 ⊕ String} (h : dm_X12_isKey P a0 v1 σ = some (rr, σ')) : EvM l G mX12_isKey [va_rf (some a0), .int v1] σ (xrI rr) σ' := by
  unfold dm_X12_isKey at h
  refine evM_of hO (by decide +kernel) (x_lenI (by simp [x_cat, x_catI, x_catJ, mX12_isKey, xM.maxL])) ?_
  refine Eq.mp (congrArg (fun z => Ev l G mX12_isKey 0 z [] σ (xrI rr) σ') (show [(0, va_rf (some a0)), (1, .int v1)] = lv_args 0 [va_rf (some a0), .int v1] by simp [lv_args, x_cat, x_catI, x_catJ])) ?_
  refine ev_aload_n (j := 0) (x := (some a0)) dX12_isKey_0 rfl rfl ?_
  obtain ⟨c_4, h⟩ := x_chk_e h
  rcases x_bind_e h with ⟨v_1, σ_2, h_3, h⟩ | ⟨E_12, σ_2, h_3, h⟩
  · have z9 := x_call (M := mX12_isKey) (M' := mX12_ok) (pc := 1) (st := [va_rf (some a0)]) (rest := []) (av := [va_rf (some a0)]) (x_linkV (M := mX12_isKey) (M' := mX12_ok) (As := []) (index := 121) (C := RX12) (T := TX12) (xE_12 c_4) rfl wd_640 wd_641 (wG_in (List.mem_append_left _ (List.mem_of_getElem? (i := 37) rfl)) rfl) xw_X12_ok rfl (by decide) rfl rfl dX12_isKey_1) (ev_X12_ok hO hP h_3) xw_X12_ok rfl wd_198 dX12_isKey_1 (by decide) (by decide) (by simp [x_cat, x_catI, x_catJ])
    refine x_callR z9 ?_
    refine ev_at (st' := [.int v_1]) rfl rfl ?_
    by_cases c_5 : v_1 = 0
    · rw [if_pos c_5] at h
      refine ev_if_eq (x := v_1) (tgt := 19) dX12_isKey_4 (by decide) (fun _ => ?_) (fun q9 => absurd c_5 q9)
      exact ev_sub [] rfl (ev_X12_isKey_p19 hO hP h)
    · rw [if_neg c_5] at h
      refine ev_if_eq (x := v_1) (tgt := 19) dX12_isKey_4 (by decide) (fun q9 => absurd q9 c_5) (fun _ => ?_)
      refine ev_aload_n (j := 0) (x := (some a0)) dX12_isKey_7 rfl rfl ?_
      obtain ⟨c_9, h⟩ := x_chk_e h
      rcases x_bind_e h with ⟨v_6, σ_7, h_8, h⟩ | ⟨E_11, σ_7, h_8, h⟩
      · have z9 := x_call (M := mX12_isKey) (M' := mX12_keyword) (pc := 8) (st := [va_rf (some a0)]) (rest := []) (av := [va_rf (some a0)]) (x_linkV (M := mX12_isKey) (M' := mX12_keyword) (As := []) (index := 162) (C := RX12) (T := TX12) (xE_12 c_9) rfl wd_663 wd_664 (wG_in (List.mem_append_left _ (List.mem_of_getElem? (i := 42) rfl)) rfl) xw_X12_keyword rfl (by decide) rfl rfl dX12_isKey_8) (ev_X12_keyword hO hP h_8) xw_X12_keyword rfl wd_198 dX12_isKey_8 (by decide) (by decide) (by simp [x_cat, x_catI, x_catJ])
        refine x_callR z9 ?_
        refine ev_at (st' := [.int v_6]) rfl rfl ?_
        refine ev_iload_n (j := 1) (x := v1) dX12_isKey_11 rfl rfl ?_
        by_cases c_10 : v_6 = v1
        · rw [if_pos c_10] at h
          refine ev_icmp_ne (x := v_6) (y := v1) (tgt := 19) dX12_isKey_12 (by decide) (fun q9 => absurd c_10 q9) (fun _ => ?_)
          refine ev_iconst (v := 1) dX12_isKey_15 (by decide) ?_
          refine ev_goto (tgt := 20) dX12_isKey_16 (by decide) ?_
          exact ev_sub [] rfl (ev_X12_isKey_p20 hO hP h)
        · rw [if_neg c_10] at h
          refine ev_icmp_ne (x := v_6) (y := v1) (tgt := 19) dX12_isKey_12 (by decide) (fun _ => ?_) (fun q9 => absurd q9 c_10)
          exact ev_sub [] rfl (ev_X12_isKey_p19 hO hP h)
      · have z9 := x_call (M := mX12_isKey) (M' := mX12_keyword) (pc := 8) (st := [va_rf (some a0)]) (rest := []) (av := [va_rf (some a0)]) (x_linkV (M := mX12_isKey) (M' := mX12_keyword) (As := []) (index := 162) (C := RX12) (T := TX12) (xE_12 c_9) rfl wd_663 wd_664 (wG_in (List.mem_append_left _ (List.mem_of_getElem? (i := 42) rfl)) rfl) xw_X12_keyword rfl (by decide) rfl rfl dX12_isKey_8) (ev_X12_keyword hO hP h_8) xw_X12_keyword rfl wd_198 dX12_isKey_8 (by decide) (by decide) (by simp [x_cat, x_catI, x_catJ])
        cases h
        exact x_callX z9 (evX_out rfl)
  · have z9 := x_call (M := mX12_isKey) (M' := mX12_ok) (pc := 1) (st := [va_rf (some a0)]) (rest := []) (av := [va_rf (some a0)]) (x_linkV (M := mX12_isKey) (M' := mX12_ok) (As := []) (index := 121) (C := RX12) (T := TX12) (xE_12 c_4) rfl wd_640 wd_641 (wG_in (List.mem_append_left _ (List.mem_of_getElem? (i := 37) rfl)) rfl) xw_X12_ok rfl (by decide) rfl rfl dX12_isKey_1) (ev_X12_ok hO hP h_3) xw_X12_ok rfl wd_198 dX12_isKey_1 (by decide) (by decide) (by simp [x_cat, x_catI, x_catJ])
    cases h
    exact x_callX z9 (evX_out rfl)
set_option maxHeartbeats 4000000 in
set_option maxRecDepth 100000 in
theorem ev_X12_needName_p31 {l : Launch} {G : xG} (hO : x_OK l G) {P : xP} (hP : x_PG P G) {a0 : Nat} {σ σ' : xS} {rr : Unit ⊕ String} (h : dm_X12_needName_p31 P a0 σ = some (rr, σ')) : Ev l G mX12_needName 31 [] [] σ (xrV rr) σ' := by
  unfold dm_X12_needName_p31 at h
  cases h
  exact ev_vret rfl dX12_needName_31
set_option maxHeartbeats 4000000 in
set_option maxRecDepth 100000 in
theorem ev_X12_needName_p23 {l : Launch} {G : xG} (hO : x_OK l G) {P : xP} (hP : x_PG P G) {a0 : Nat} {σ σ' : xS} {rr : Unit ⊕ String} (h : dm_X12_needName_p23 P a0 σ = some (rr, σ')) : Ev l G mX12_needName 23 [(0, va_rf (some a0))] [] σ (xrV rr) σ' := by
  unfold dm_X12_needName_p23 at h
  refine ev_aload_n (j := 0) (x := (some a0)) dX12_needName_23 rfl rfl ?_
  refine ev_aload_n (j := 0) (x := (some a0)) dX12_needName_24 rfl rfl ?_
  obtain ⟨c_1, h⟩ := x_chk_e h
  refine ev_get (C := RX12) (T := TX12) (k := 36) inX12 (xE_12 c_1) rfl (by decide) wd_646 (Or.inl rfl) rfl dX12_needName_25 ?_
  rcases x_bind_e h with ⟨v_2, σ_3, h_4, h⟩ | ⟨E_5, σ_3, h_4, h⟩
  · have z9 := x_call (M := mX12_needName) (M' := mX12_fail) (pc := 28) (st := [.int (σ.I 1136 a0), va_rf (some a0)]) (rest := []) (av := [va_rf (some a0), .int (σ.I 1136 a0)]) (x_linkV (M := mX12_needName) (M' := mX12_fail) (As := [.int (σ.I 1136 a0)]) (index := 150) (C := RX12) (T := TX12) (xE_12 c_1) rfl wd_657 wd_658 (wG_in (List.mem_append_left _ (List.mem_of_getElem? (i := 39) rfl)) rfl) xw_X12_fail rfl (by decide) rfl rfl dX12_needName_28) (ev_X12_fail hO hP h_4) xw_X12_fail rfl wd_198 dX12_needName_28 (by decide) (by decide) (by simp [x_cat, x_catI, x_catJ])
    refine x_callR z9 ?_
    refine ev_at (st' := []) rfl rfl ?_
    exact ev_sub [] rfl (ev_X12_needName_p31 hO hP h)
  · have z9 := x_call (M := mX12_needName) (M' := mX12_fail) (pc := 28) (st := [.int (σ.I 1136 a0), va_rf (some a0)]) (rest := []) (av := [va_rf (some a0), .int (σ.I 1136 a0)]) (x_linkV (M := mX12_needName) (M' := mX12_fail) (As := [.int (σ.I 1136 a0)]) (index := 150) (C := RX12) (T := TX12) (xE_12 c_1) rfl wd_657 wd_658 (wG_in (List.mem_append_left _ (List.mem_of_getElem? (i := 39) rfl)) rfl) xw_X12_fail rfl (by decide) rfl rfl dX12_needName_28) (ev_X12_fail hO hP h_4) xw_X12_fail rfl wd_198 dX12_needName_28 (by decide) (by decide) (by simp [x_cat, x_catI, x_catJ])
    cases h
    exact x_callX z9 (evX_out rfl)
set_option maxHeartbeats 4000000 in
set_option maxRecDepth 100000 in
theorem ev_X12_needName {l : Launch} {G : xG} (hO : x_OK l G) {P : xP} (hP : x_PG P G) {a0 : Nat} {σ σ' : xS} {rr : Unit ⊕ String} (h : dm_X12_needName P a0 σ = some (rr, σ')) : EvM l G mX12_needName [va_rf (some a0)] σ (xrV rr) σ' := by
  unfold dm_X12_needName at h
  refine evM_of hO (by decide +kernel) (x_lenI (by simp [x_cat, x_catI, x_catJ, mX12_needName, xM.maxL])) ?_
  refine Eq.mp (congrArg (fun z => Ev l G mX12_needName 0 z [] σ (xrV rr) σ') (show [(0, va_rf (some a0))] = lv_args 0 [va_rf (some a0)] by simp [lv_args, x_cat, x_catI, x_catJ])) ?_
  refine ev_aload_n (j := 0) (x := (some a0)) dX12_needName_0 rfl rfl ?_
  obtain ⟨c_4, h⟩ := x_chk_e h
  rcases x_bind_e h with ⟨v_1, σ_2, h_3, h⟩ | ⟨E_13, σ_2, h_3, h⟩
  · have z9 := x_call (M := mX12_needName) (M' := mX12_ok) (pc := 1) (st := [va_rf (some a0)]) (rest := []) (av := [va_rf (some a0)]) (x_linkV (M := mX12_needName) (M' := mX12_ok) (As := []) (index := 121) (C := RX12) (T := TX12) (xE_12 c_4) rfl wd_640 wd_641 (wG_in (List.mem_append_left _ (List.mem_of_getElem? (i := 37) rfl)) rfl) xw_X12_ok rfl (by decide) rfl rfl dX12_needName_1) (ev_X12_ok hO hP h_3) xw_X12_ok rfl wd_198 dX12_needName_1 (by decide) (by decide) (by simp [x_cat, x_catI, x_catJ])
    refine x_callR z9 ?_
    refine ev_at (st' := [.int v_1]) rfl rfl ?_
    by_cases c_5 : v_1 = 0
    · rw [if_pos c_5] at h
      refine ev_if_eq (x := v_1) (tgt := 31) dX12_needName_4 (by decide) (fun _ => ?_) (fun q9 => absurd c_5 q9)
      exact ev_sub [] rfl (ev_X12_needName_p31 hO hP h)
    · rw [if_neg c_5] at h
      refine ev_if_eq (x := v_1) (tgt := 31) dX12_needName_4 (by decide) (fun q9 => absurd q9 c_5) (fun _ => ?_)
      refine ev_aload_n (j := 0) (x := (some a0)) dX12_needName_7 rfl rfl ?_
      obtain ⟨c_6, h⟩ := x_chk_e h
      refine ev_get (C := RX12) (T := TX12) (k := 35) inX12 (xE_12 c_6) rfl (by decide) wd_653 (Or.inl rfl) rfl dX12_needName_8 ?_
      refine ev_iconst (v := 1) dX12_needName_11 (by decide) ?_
      by_cases c_7 : (σ_2.I 1135 a0) = 1
      · rw [if_pos c_7] at h
        refine ev_icmp_ne (x := (σ_2.I 1135 a0)) (y := 1) (tgt := 23) dX12_needName_12 (by decide) (fun q9 => absurd c_7 q9) (fun _ => ?_)
        refine ev_aload_n (j := 0) (x := (some a0)) dX12_needName_15 rfl rfl ?_
        rcases x_bind_e h with ⟨v_8, σ_9, h_10, h⟩ | ⟨E_12, σ_9, h_10, h⟩
        · have z9 := x_call (M := mX12_needName) (M' := mX12_keyword) (pc := 16) (st := [va_rf (some a0)]) (rest := []) (av := [va_rf (some a0)]) (x_linkV (M := mX12_needName) (M' := mX12_keyword) (As := []) (index := 162) (C := RX12) (T := TX12) (xE_12 c_6) rfl wd_663 wd_664 (wG_in (List.mem_append_left _ (List.mem_of_getElem? (i := 42) rfl)) rfl) xw_X12_keyword rfl (by decide) rfl rfl dX12_needName_16) (ev_X12_keyword hO hP h_10) xw_X12_keyword rfl wd_198 dX12_needName_16 (by decide) (by decide) (by simp [x_cat, x_catI, x_catJ])
          refine x_callR z9 ?_
          refine ev_at (st' := [.int v_8]) rfl rfl ?_
          refine ev_iconst (v := -1) dX12_needName_19 (by decide) ?_
          by_cases c_11 : v_8 = (-1)
          · rw [if_pos c_11] at h
            refine ev_icmp_eq (x := v_8) (y := (-1)) (tgt := 31) dX12_needName_20 (by decide) (fun _ => ?_) (fun q9 => absurd c_11 q9)
            exact ev_sub [] rfl (ev_X12_needName_p31 hO hP h)
          · rw [if_neg c_11] at h
            refine ev_icmp_eq (x := v_8) (y := (-1)) (tgt := 31) dX12_needName_20 (by decide) (fun q9 => absurd q9 c_11) (fun _ => ?_)
            exact ev_sub [0] rfl (ev_X12_needName_p23 hO hP h)
        · have z9 := x_call (M := mX12_needName) (M' := mX12_keyword) (pc := 16) (st := [va_rf (some a0)]) (rest := []) (av := [va_rf (some a0)]) (x_linkV (M := mX12_needName) (M' := mX12_keyword) (As := []) (index := 162) (C := RX12) (T := TX12) (xE_12 c_6) rfl wd_663 wd_664 (wG_in (List.mem_append_left _ (List.mem_of_getElem? (i := 42) rfl)) rfl) xw_X12_keyword rfl (by decide) rfl rfl dX12_needName_16) (ev_X12_keyword hO hP h_10) xw_X12_keyword rfl wd_198 dX12_needName_16 (by decide) (by decide) (by simp [x_cat, x_catI, x_catJ])
          cases h
          exact x_callX z9 (evX_out rfl)
      · rw [if_neg c_7] at h
        refine ev_icmp_ne (x := (σ_2.I 1135 a0)) (y := 1) (tgt := 23) dX12_needName_12 (by decide) (fun _ => ?_) (fun q9 => absurd q9 c_7)
        exact ev_sub [0] rfl (ev_X12_needName_p23 hO hP h)
  · have z9 := x_call (M := mX12_needName) (M' := mX12_ok) (pc := 1) (st := [va_rf (some a0)]) (rest := []) (av := [va_rf (some a0)]) (x_linkV (M := mX12_needName) (M' := mX12_ok) (As := []) (index := 121) (C := RX12) (T := TX12) (xE_12 c_4) rfl wd_640 wd_641 (wG_in (List.mem_append_left _ (List.mem_of_getElem? (i := 37) rfl)) rfl) xw_X12_ok rfl (by decide) rfl rfl dX12_needName_1) (ev_X12_ok hO hP h_3) xw_X12_ok rfl wd_198 dX12_needName_1 (by decide) (by decide) (by simp [x_cat, x_catI, x_catJ])
    cases h
    exact x_callX z9 (evX_out rfl)
set_option maxHeartbeats 4000000 in
set_option maxRecDepth 100000 in
theorem ev_X12_length_p54 {l : Launch} {G : xG} (hO : x_OK l G) {P : xP} (hP : x_PG P G) {a0 : Nat} {k2 : Int32 → Int32 → Int32 → xS → xO Int32} (hk2 : ∀ {v1 : Int32} {v2 : Int32} {v3 : Int32} {σ σ' : xS} {rr : Int32 ⊕ String}, k2 v1 v2 v3 σ = some (rr, σ') → Ev l G mX12_length 2 [(0, va_rf (some a0)), (1, .int v1), (2, .int v2), (3, .int v3)] [] σ (xrI rr) σ') {v1 : Int32} {v2 : Int32} {v3 : Int32} {σ σ' : xS} {rr : Int32 ⊕ String} (h : dm_X12_length_p54 P k2 a0 v1 v2 v3 σ = some (rr, σ')) : Ev l G mX12_length 54 [(0, va_rf (some a0)), (1, .int v1), (2, .int v2), (3, .int v3)] [] σ (xrI rr) σ' := by
  unfold dm_X12_length_p54 at h
  obtain ⟨v_1, ev_1, h⟩ := x_let_e h
  refine ev_iinc (j := 3) (x := v3) (v := v_1) (lv' := [(3, .int v_1), (0, va_rf (some a0)), (1, .int v1), (2, .int v2)]) dX12_length_54 rfl (by rw [ev_1]; rfl) (by decide) rfl ?_
  refine ev_goto (tgt := 2) dX12_length_57 (by decide) ?_
  exact ev_sub [1, 2, 3, 0] rfl (hk2 h)
set_option maxHeartbeats 4000000 in
set_option maxRecDepth 100000 in
theorem ev_X12_length_p60 {l : Launch} {G : xG} (hO : x_OK l G) {P : xP} (hP : x_PG P G) {a0 : Nat} {v3 : Int32} {σ σ' : xS} {rr : Int32 ⊕ String} (h : dm_X12_length_p60 P a0 v3 σ = some (rr, σ')) : Ev l G mX12_length 60 [(3, .int v3)] [] σ (xrI rr) σ' := by
  unfold dm_X12_length_p60 at h
  refine ev_iload_n (j := 0) (x := v3) dX12_length_60 rfl rfl ?_
  cases h
  exact ev_iret rfl rfl dX12_length_61
set_option maxHeartbeats 4000000 in
set_option maxRecDepth 100000 in
theorem ev_X12_length_L2 {l : Launch} {G : xG} (hO : x_OK l G) {P : xP} (hP : x_PG P G) {a0 : Nat} : ∀ (n : Nat) {v1 : Int32} {v2 : Int32} {v3 : Int32} {σ σ' : xS} {rr : Int32 ⊕ String}, dm_X12_length_L2 P a0 n v1 v2 v3 σ = some (rr, σ') → Ev l G mX12_length 2 [(0, va_rf (some a0)), (1, .int v1), (2, .int v2), (3, .int v3)] [] σ (xrI rr) σ' := by
  intro n
  induction n with
  | zero => intro v1 v2 v3 σ σ' rr h; cases h
  | succ n ih =>
    intro v1 v2 v3 σ σ' rr h
    rw [dm_X12_length_L2] at h
    refine ev_iload_n (j := 2) (x := v2) dX12_length_2 rfl rfl ?_
    refine ev_iload_n (j := 3) (x := v3) dX12_length_3 rfl rfl ?_
    refine ev_iadd (x := v2) (y := v3) dX12_length_4 ?_
    refine ev_aload_n (j := 0) (x := (some a0)) dX12_length_5 rfl rfl ?_
    obtain ⟨c_1, h⟩ := x_chk_e h
    refine ev_get (C := RX12) (T := TX12) (k := 5) inX12 (xE_12 c_1) rfl (by decide) wd_152 (Or.inl rfl) rfl dX12_length_6 ?_
    refine ev_iload_n (j := 1) (x := v1) dX12_length_9 rfl rfl ?_
    obtain ⟨a_2, ea_2, h⟩ := x_some_e h
    refine ev_at (st' := [.int v1, va_rf (some a_2), .int (v2 + v3)]) rfl (by rw [ea_2]) ?_
    obtain ⟨c_3, h⟩ := x_chk_e h
    refine ev_iald_31 c_3.1 c_3.2 dX12_length_10 ?_
    by_cases c_4 : (σ.AI a_2 (Int32.toNatClampNeg v1)) ≤ (v2 + v3)
    · rw [if_pos c_4] at h
      refine ev_icmp_ge (x := (v2 + v3)) (y := (σ.AI a_2 (Int32.toNatClampNeg v1))) (tgt := 60) dX12_length_11 (by decide) (fun _ => ?_) (fun q9 => absurd c_4 q9)
      exact ev_sub [3] rfl (ev_X12_length_p60 hO hP h)
    · rw [if_neg c_4] at h
      refine ev_icmp_ge (x := (v2 + v3)) (y := (σ.AI a_2 (Int32.toNatClampNeg v1))) (tgt := 60) dX12_length_11 (by decide) (fun q9 => absurd q9 c_4) (fun _ => ?_)
      refine ev_aload_n (j := 0) (x := (some a0)) dX12_length_14 rfl rfl ?_
      refine ev_get (C := RX12) (T := TX12) (k := 4) inX12 (xE_12 c_1) rfl (by decide) wd_151 (Or.inl rfl) rfl dX12_length_15 ?_
      refine ev_sipush (v := 1000) dX12_length_18 (by decide) ?_
      refine ev_iload_n (j := 1) (x := v1) dX12_length_21 rfl rfl ?_
      refine ev_imul (x := 1000) (y := v1) dX12_length_22 ?_
      refine ev_iload_n (j := 2) (x := v2) dX12_length_23 rfl rfl ?_
      refine ev_iadd (x := (1000 * v1)) (y := v2) dX12_length_24 ?_
      refine ev_iload_n (j := 3) (x := v3) dX12_length_25 rfl rfl ?_
      refine ev_iadd (x := ((1000 * v1) + v2)) (y := v3) dX12_length_26 ?_
      obtain ⟨a_5, ea_5, h⟩ := x_some_e h
      refine ev_at (st' := [.int (((1000 * v1) + v2) + v3), va_rf (some a_5)]) rfl (by rw [ea_5]) ?_
      obtain ⟨c_6, h⟩ := x_chk_e h
      refine ev_iald_31 c_6.1 c_6.2 dX12_length_27 ?_
      rcases x_bind_e h with ⟨v_7, σ_8, h_9, h⟩ | ⟨E_19, σ_8, h_9, h⟩
      · have z9 := x_call (M := mX12_length) (M' := mX12_isLetter) (pc := 28) (st := [.int (σ.AI a_5 (Int32.toNatClampNeg (((1000 * v1) + v2) + v3)))]) (rest := []) (av := [.int (σ.AI a_5 (Int32.toNatClampNeg (((1000 * v1) + v2) + v3)))]) (x_linkS (M := mX12_length) (M' := mX12_isLetter) (As := [.int (σ.AI a_5 (Int32.toNatClampNeg (((1000 * v1) + v2) + v3)))]) (index := 135) wd_648 wd_649 wd_198 xw_X12_isLetter rfl ⟨_, _, _, Or.inl wd_647⟩ (by decide) rfl rfl dX12_length_28) (ev_X12_isLetter hO hP h_9) xw_X12_isLetter rfl wd_198 dX12_length_28 (by decide) (by decide) (by simp [x_cat, x_catI, x_catJ])
        refine x_callR z9 ?_
        refine ev_at (st' := [.int v_7]) rfl rfl ?_
        by_cases c_10 : v_7 = 0
        · rw [if_pos c_10] at h
          refine ev_if_ne (x := v_7) (tgt := 54) dX12_length_31 (by decide) (fun q9 => absurd c_10 q9) (fun _ => ?_)
          refine ev_aload_n (j := 0) (x := (some a0)) dX12_length_34 rfl rfl ?_
          obtain ⟨c_11, h⟩ := x_chk_e h
          refine ev_get (C := RX12) (T := TX12) (k := 4) inX12 (xE_12 c_11) rfl (by decide) wd_151 (Or.inl rfl) rfl dX12_length_35 ?_
          refine ev_sipush (v := 1000) dX12_length_38 (by decide) ?_
          refine ev_iload_n (j := 1) (x := v1) dX12_length_41 rfl rfl ?_
          refine ev_imul (x := 1000) (y := v1) dX12_length_42 ?_
          refine ev_iload_n (j := 2) (x := v2) dX12_length_43 rfl rfl ?_
          refine ev_iadd (x := (1000 * v1)) (y := v2) dX12_length_44 ?_
          refine ev_iload_n (j := 3) (x := v3) dX12_length_45 rfl rfl ?_
          refine ev_iadd (x := ((1000 * v1) + v2)) (y := v3) dX12_length_46 ?_
          obtain ⟨a_12, ea_12, h⟩ := x_some_e h
          refine ev_at (st' := [.int (((1000 * v1) + v2) + v3), va_rf (some a_12)]) rfl (by rw [ea_12]) ?_
          obtain ⟨c_13, h⟩ := x_chk_e h
          refine ev_iald_31 c_13.1 c_13.2 dX12_length_47 ?_
          rcases x_bind_e h with ⟨v_14, σ_15, h_16, h⟩ | ⟨E_18, σ_15, h_16, h⟩
          · have z9 := x_call (M := mX12_length) (M' := mX12_isDigit) (pc := 48) (st := [.int (σ_8.AI a_12 (Int32.toNatClampNeg (((1000 * v1) + v2) + v3)))]) (rest := []) (av := [.int (σ_8.AI a_12 (Int32.toNatClampNeg (((1000 * v1) + v2) + v3)))]) (x_linkS (M := mX12_length) (M' := mX12_isDigit) (As := [.int (σ_8.AI a_12 (Int32.toNatClampNeg (((1000 * v1) + v2) + v3)))]) (index := 138) wd_651 wd_652 wd_198 xw_X12_isDigit rfl ⟨_, _, _, Or.inl wd_650⟩ (by decide) rfl rfl dX12_length_48) (ev_X12_isDigit hO hP h_16) xw_X12_isDigit rfl wd_198 dX12_length_48 (by decide) (by decide) (by simp [x_cat, x_catI, x_catJ])
            refine x_callR z9 ?_
            refine ev_at (st' := [.int v_14]) rfl rfl ?_
            by_cases c_17 : v_14 = 0
            · rw [if_pos c_17] at h
              refine ev_if_eq (x := v_14) (tgt := 60) dX12_length_51 (by decide) (fun _ => ?_) (fun q9 => absurd c_17 q9)
              exact ev_sub [3] rfl (ev_X12_length_p60 hO hP h)
            · rw [if_neg c_17] at h
              refine ev_if_eq (x := v_14) (tgt := 60) dX12_length_51 (by decide) (fun q9 => absurd q9 c_17) (fun _ => ?_)
              exact ev_sub [0, 1, 2, 3] rfl (ev_X12_length_p54 hO hP ih h)
          · have z9 := x_call (M := mX12_length) (M' := mX12_isDigit) (pc := 48) (st := [.int (σ_8.AI a_12 (Int32.toNatClampNeg (((1000 * v1) + v2) + v3)))]) (rest := []) (av := [.int (σ_8.AI a_12 (Int32.toNatClampNeg (((1000 * v1) + v2) + v3)))]) (x_linkS (M := mX12_length) (M' := mX12_isDigit) (As := [.int (σ_8.AI a_12 (Int32.toNatClampNeg (((1000 * v1) + v2) + v3)))]) (index := 138) wd_651 wd_652 wd_198 xw_X12_isDigit rfl ⟨_, _, _, Or.inl wd_650⟩ (by decide) rfl rfl dX12_length_48) (ev_X12_isDigit hO hP h_16) xw_X12_isDigit rfl wd_198 dX12_length_48 (by decide) (by decide) (by simp [x_cat, x_catI, x_catJ])
            cases h
            exact x_callX z9 (evX_out rfl)
        · rw [if_neg c_10] at h
          refine ev_if_ne (x := v_7) (tgt := 54) dX12_length_31 (by decide) (fun _ => ?_) (fun q9 => absurd q9 c_10)
          exact ev_sub [0, 1, 2, 3] rfl (ev_X12_length_p54 hO hP ih h)
      · have z9 := x_call (M := mX12_length) (M' := mX12_isLetter) (pc := 28) (st := [.int (σ.AI a_5 (Int32.toNatClampNeg (((1000 * v1) + v2) + v3)))]) (rest := []) (av := [.int (σ.AI a_5 (Int32.toNatClampNeg (((1000 * v1) + v2) + v3)))]) (x_linkS (M := mX12_length) (M' := mX12_isLetter) (As := [.int (σ.AI a_5 (Int32.toNatClampNeg (((1000 * v1) + v2) + v3)))]) (index := 135) wd_648 wd_649 wd_198 xw_X12_isLetter rfl ⟨_, _, _, Or.inl wd_647⟩ (by decide) rfl rfl dX12_length_28) (ev_X12_isLetter hO hP h_9) xw_X12_isLetter rfl wd_198 dX12_length_28 (by decide) (by decide) (by simp [x_cat, x_catI, x_catJ])
        cases h
        exact x_callX z9 (evX_out rfl)
set_option maxHeartbeats 4000000 in
set_option maxRecDepth 100000 in
theorem ev_X12_length {l : Launch} {G : xG} (hO : x_OK l G) {P : xP} (hP : x_PG P G) {a0 : Nat} {v1 : Int32} {v2 : Int32} {σ σ' : xS} {rr : Int32 ⊕ String} (h : dm_X12_length P a0 v1 v2 σ = some (rr, σ')) : EvM l G mX12_length [va_rf (some a0), .int v1, .int v2] σ (xrI rr) σ' := by
  unfold dm_X12_length at h
  refine evM_of hO (by decide +kernel) (x_lenI (by simp [x_cat, x_catI, x_catJ, mX12_length, xM.maxL])) ?_
  refine Eq.mp (congrArg (fun z => Ev l G mX12_length 0 z [] σ (xrI rr) σ') (show [(0, va_rf (some a0)), (1, .int v1), (2, .int v2)] = lv_args 0 [va_rf (some a0), .int v1, .int v2] by simp [lv_args, x_cat, x_catI, x_catJ])) ?_
  refine ev_iconst (v := 0) dX12_length_0 (by decide) ?_
  refine ev_istore_n (i := 3) (lv' := [(3, .int 0), (0, va_rf (some a0)), (1, .int v1), (2, .int v2)]) dX12_length_1 rfl (by decide) rfl ?_
  exact ev_sub [1, 2, 3, 0] rfl (ev_X12_length_L2 hO hP P.N h)
set_option maxHeartbeats 4000000 in
set_option maxRecDepth 100000 in
theorem ev_X12_areSame_p68 {l : Launch} {G : xG} (hO : x_OK l G) {P : xP} (hP : x_PG P G) {a0 : Nat} {k33 : Int32 → Int32 → Int32 → Int32 → Int32 → xS → xO Int32} (hk33 : ∀ {v1 : Int32} {v2 : Int32} {v3 : Int32} {v4 : Int32} {v5 : Int32} {σ σ' : xS} {rr : Int32 ⊕ String}, k33 v1 v2 v3 v4 v5 σ = some (rr, σ') → Ev l G mX12_areSame 33 [(0, va_rf (some a0)), (1, .int v1), (2, .int v2), (3, .int v3), (4, .int v4), (5, .int v5)] [] σ (xrI rr) σ') {v1 : Int32} {v2 : Int32} {v3 : Int32} {v5 : Int32} {s0 : Int32} {σ σ' : xS} {rr : Int32 ⊕ String} (h : dm_X12_areSame_p68 P k33 a0 v1 v2 v3 v5 s0 σ = some (rr, σ')) : Ev l G mX12_areSame 68 [(0, va_rf (some a0)), (1, .int v1), (2, .int v2), (3, .int v3), (5, .int v5)] [.int s0] σ (xrI rr) σ' := by
  unfold dm_X12_areSame_p68 at h
  refine ev_istore (i := 4) (lv' := [(4, .int s0), (0, va_rf (some a0)), (1, .int v1), (2, .int v2), (3, .int v3), (5, .int v5)]) dX12_areSame_68 (by decide) rfl ?_
  obtain ⟨v_1, ev_1, h⟩ := x_let_e h
  refine ev_iinc (j := 5) (x := v5) (v := v_1) (lv' := [(5, .int v_1), (4, .int s0), (0, va_rf (some a0)), (1, .int v1), (2, .int v2), (3, .int v3)]) dX12_areSame_70 rfl (by rw [ev_1]; rfl) (by decide) rfl ?_
  refine ev_goto (tgt := 33) dX12_areSame_73 (by decide) ?_
  exact ev_sub [2, 3, 4, 5, 1, 0] rfl (hk33 h)
set_option maxHeartbeats 4000000 in
set_option maxRecDepth 100000 in
theorem ev_X12_areSame_p76 {l : Launch} {G : xG} (hO : x_OK l G) {P : xP} (hP : x_PG P G) {a0 : Nat} {v4 : Int32} {σ σ' : xS} {rr : Int32 ⊕ String} (h : dm_X12_areSame_p76 P a0 v4 σ = some (rr, σ')) : Ev l G mX12_areSame 76 [(4, .int v4)] [] σ (xrI rr) σ' := by
  unfold dm_X12_areSame_p76 at h
  refine ev_iload (j := 0) (x := v4) dX12_areSame_76 rfl ?_
  obtain ⟨c_1, h⟩ := x_chk_e h
  cases h
  exact ev_iret rfl (x_boolN c_1) dX12_areSame_78
set_option maxHeartbeats 4000000 in
set_option maxRecDepth 100000 in
theorem ev_X12_areSame_L33 {l : Launch} {G : xG} (hO : x_OK l G) {P : xP} (hP : x_PG P G) {a0 : Nat} : ∀ (n : Nat) {v1 : Int32} {v2 : Int32} {v3 : Int32} {v4 : Int32} {v5 : Int32} {σ σ' : xS} {rr : Int32 ⊕ String}, dm_X12_areSame_L33 P a0 n v1 v2 v3 v4 v5 σ = some (rr, σ') → Ev l G mX12_areSame 33 [(0, va_rf (some a0)), (1, .int v1), (2, .int v2), (3, .int v3), (4, .int v4), (5, .int v5)] [] σ (xrI rr) σ' := by
  intro n
  induction n with
  | zero => intro v1 v2 v3 v4 v5 σ σ' rr h; cases h
  | succ n ih =>
    intro v1 v2 v3 v4 v5 σ σ' rr h
    rw [dm_X12_areSame_L33] at h
    refine ev_iload (j := 5) (x := v5) dX12_areSame_33 rfl ?_
    refine ev_iload_n (j := 3) (x := v3) dX12_areSame_35 rfl rfl ?_
    by_cases c_1 : v3 ≤ v5
    · rw [if_pos c_1] at h
      refine ev_icmp_ge (x := v5) (y := v3) (tgt := 76) dX12_areSame_36 (by decide) (fun _ => ?_) (fun q9 => absurd c_1 q9)
      exact ev_sub [4] rfl (ev_X12_areSame_p76 hO hP h)
    · rw [if_neg c_1] at h
      refine ev_icmp_ge (x := v5) (y := v3) (tgt := 76) dX12_areSame_36 (by decide) (fun q9 => absurd q9 c_1) (fun _ => ?_)
      refine ev_iload (j := 4) (x := v4) dX12_areSame_39 rfl ?_
      by_cases c_2 : v4 = 0
      · rw [if_pos c_2] at h
        refine ev_if_eq (x := v4) (tgt := 76) dX12_areSame_41 (by decide) (fun _ => ?_) (fun q9 => absurd c_2 q9)
        exact ev_sub [4] rfl (ev_X12_areSame_p76 hO hP h)
      · rw [if_neg c_2] at h
        refine ev_if_eq (x := v4) (tgt := 76) dX12_areSame_41 (by decide) (fun q9 => absurd q9 c_2) (fun _ => ?_)
        refine ev_aload_n (j := 0) (x := (some a0)) dX12_areSame_44 rfl rfl ?_
        refine ev_iload_n (j := 1) (x := v1) dX12_areSame_45 rfl rfl ?_
        refine ev_iload (j := 5) (x := v5) dX12_areSame_46 rfl ?_
        refine ev_iadd (x := v1) (y := v5) dX12_areSame_48 ?_
        obtain ⟨c_6, h⟩ := x_chk_e h
        rcases x_bind_e h with ⟨v_3, σ_4, h_5, h⟩ | ⟨E_13, σ_4, h_5, h⟩
        · have z9 := x_call (M := mX12_areSame) (M' := mX12_sign) (pc := 49) (st := [.int (v1 + v5), va_rf (some a0)]) (rest := []) (av := [va_rf (some a0), .int (v1 + v5)]) (x_linkV (M := mX12_areSame) (M' := mX12_sign) (As := [.int (v1 + v5)]) (index := 128) (C := RX12) (T := TX12) (xE_12 c_6) rfl wd_644 wd_645 (wG_in (List.mem_append_left _ (List.mem_of_getElem? (i := 38) rfl)) rfl) xw_X12_sign rfl (by decide) rfl rfl dX12_areSame_49) (ev_X12_sign hO hP h_5) xw_X12_sign rfl wd_198 dX12_areSame_49 (by decide) (by decide) (by simp [x_cat, x_catI, x_catJ])
          refine x_callR z9 ?_
          refine ev_at (st' := [.int v_3]) rfl rfl ?_
          refine ev_aload_n (j := 0) (x := (some a0)) dX12_areSame_52 rfl rfl ?_
          refine ev_iload_n (j := 2) (x := v2) dX12_areSame_53 rfl rfl ?_
          refine ev_iload (j := 5) (x := v5) dX12_areSame_54 rfl ?_
          refine ev_iadd (x := v2) (y := v5) dX12_areSame_56 ?_
          obtain ⟨c_10, h⟩ := x_chk_e h
          rcases x_bind_e h with ⟨v_7, σ_8, h_9, h⟩ | ⟨E_12, σ_8, h_9, h⟩
          · have z9 := x_call (M := mX12_areSame) (M' := mX12_sign) (pc := 57) (st := [.int (v2 + v5), va_rf (some a0), .int v_3]) (rest := [.int v_3]) (av := [va_rf (some a0), .int (v2 + v5)]) (x_linkV (M := mX12_areSame) (M' := mX12_sign) (As := [.int (v2 + v5)]) (index := 128) (C := RX12) (T := TX12) (xE_12 c_10) rfl wd_644 wd_645 (wG_in (List.mem_append_left _ (List.mem_of_getElem? (i := 38) rfl)) rfl) xw_X12_sign rfl (by decide) rfl rfl dX12_areSame_57) (ev_X12_sign hO hP h_9) xw_X12_sign rfl wd_198 dX12_areSame_57 (by decide) (by decide) (by simp [x_cat, x_catI, x_catJ])
            refine x_callR z9 ?_
            refine ev_at (st' := [.int v_7, .int v_3]) rfl rfl ?_
            by_cases c_11 : v_3 = v_7
            · rw [if_pos c_11] at h
              refine ev_icmp_ne (x := v_3) (y := v_7) (tgt := 67) dX12_areSame_60 (by decide) (fun q9 => absurd c_11 q9) (fun _ => ?_)
              refine ev_iconst (v := 1) dX12_areSame_63 (by decide) ?_
              refine ev_goto (tgt := 68) dX12_areSame_64 (by decide) ?_
              exact ev_sub [0, 1, 2, 3, 5] rfl (ev_X12_areSame_p68 hO hP ih h)
            · rw [if_neg c_11] at h
              refine ev_icmp_ne (x := v_3) (y := v_7) (tgt := 67) dX12_areSame_60 (by decide) (fun _ => ?_) (fun q9 => absurd q9 c_11)
              refine ev_iconst (v := 0) dX12_areSame_67 (by decide) ?_
              exact ev_sub [0, 1, 2, 3, 5] rfl (ev_X12_areSame_p68 hO hP ih h)
          · have z9 := x_call (M := mX12_areSame) (M' := mX12_sign) (pc := 57) (st := [.int (v2 + v5), va_rf (some a0), .int v_3]) (rest := [.int v_3]) (av := [va_rf (some a0), .int (v2 + v5)]) (x_linkV (M := mX12_areSame) (M' := mX12_sign) (As := [.int (v2 + v5)]) (index := 128) (C := RX12) (T := TX12) (xE_12 c_10) rfl wd_644 wd_645 (wG_in (List.mem_append_left _ (List.mem_of_getElem? (i := 38) rfl)) rfl) xw_X12_sign rfl (by decide) rfl rfl dX12_areSame_57) (ev_X12_sign hO hP h_9) xw_X12_sign rfl wd_198 dX12_areSame_57 (by decide) (by decide) (by simp [x_cat, x_catI, x_catJ])
            cases h
            exact x_callX z9 (evX_out rfl)
        · have z9 := x_call (M := mX12_areSame) (M' := mX12_sign) (pc := 49) (st := [.int (v1 + v5), va_rf (some a0)]) (rest := []) (av := [va_rf (some a0), .int (v1 + v5)]) (x_linkV (M := mX12_areSame) (M' := mX12_sign) (As := [.int (v1 + v5)]) (index := 128) (C := RX12) (T := TX12) (xE_12 c_6) rfl wd_644 wd_645 (wG_in (List.mem_append_left _ (List.mem_of_getElem? (i := 38) rfl)) rfl) xw_X12_sign rfl (by decide) rfl rfl dX12_areSame_49) (ev_X12_sign hO hP h_5) xw_X12_sign rfl wd_198 dX12_areSame_49 (by decide) (by decide) (by simp [x_cat, x_catI, x_catJ])
          cases h
          exact x_callX z9 (evX_out rfl)
set_option maxHeartbeats 4000000 in
set_option maxRecDepth 100000 in
theorem ev_X12_areSame_p28 {l : Launch} {G : xG} (hO : x_OK l G) {P : xP} (hP : x_PG P G) {a0 : Nat} {v1 : Int32} {v2 : Int32} {v3 : Int32} {s0 : Int32} {σ σ' : xS} {rr : Int32 ⊕ String} (h : dm_X12_areSame_p28 P a0 v1 v2 v3 s0 σ = some (rr, σ')) : Ev l G mX12_areSame 28 [(0, va_rf (some a0)), (1, .int v1), (2, .int v2), (3, .int v3)] [.int s0] σ (xrI rr) σ' := by
  unfold dm_X12_areSame_p28 at h
  refine ev_istore (i := 4) (lv' := [(4, .int s0), (0, va_rf (some a0)), (1, .int v1), (2, .int v2), (3, .int v3)]) dX12_areSame_28 (by decide) rfl ?_
  refine ev_iconst (v := 0) dX12_areSame_30 (by decide) ?_
  refine ev_istore (i := 5) (lv' := [(5, .int 0), (4, .int s0), (0, va_rf (some a0)), (1, .int v1), (2, .int v2), (3, .int v3)]) dX12_areSame_31 (by decide) rfl ?_
  exact ev_sub [2, 3, 4, 5, 1, 0] rfl (ev_X12_areSame_L33 hO hP P.N h)
set_option maxHeartbeats 4000000 in
set_option maxRecDepth 100000 in
theorem ev_X12_areSame {l : Launch} {G : xG} (hO : x_OK l G) {P : xP} (hP : x_PG P G) {a0 : Nat} {v1 : Int32} {v2 : Int32} {σ σ' : xS} {rr : Int32 ⊕ String} (h : dm_X12_areSame P a0 v1 v2 σ = some (rr, σ')) : EvM l G mX12_areSame [va_rf (some a0), .int v1, .int v2] σ (xrI rr) σ' := by
  unfold dm_X12_areSame at h
  refine evM_of hO (by decide +kernel) (x_lenI (by simp [x_cat, x_catI, x_catJ, mX12_areSame, xM.maxL])) ?_
  refine Eq.mp (congrArg (fun z => Ev l G mX12_areSame 0 z [] σ (xrI rr) σ') (show [(0, va_rf (some a0)), (1, .int v1), (2, .int v2)] = lv_args 0 [va_rf (some a0), .int v1, .int v2] by simp [lv_args, x_cat, x_catI, x_catJ])) ?_
  refine ev_aload_n (j := 0) (x := (some a0)) dX12_areSame_0 rfl rfl ?_
  refine ev_aload_n (j := 0) (x := (some a0)) dX12_areSame_1 rfl rfl ?_
  obtain ⟨c_1, h⟩ := x_chk_e h
  refine ev_get (C := RX12) (T := TX12) (k := 40) inX12 (xE_12 c_1) rfl (by decide) wd_638 (Or.inl rfl) rfl dX12_areSame_2 ?_
  refine ev_iload_n (j := 1) (x := v1) dX12_areSame_5 rfl rfl ?_
  rcases x_bind_e h with ⟨v_2, σ_3, h_4, h⟩ | ⟨E_11, σ_3, h_4, h⟩
  · have z9 := x_call (M := mX12_areSame) (M' := mX12_length) (pc := 6) (st := [.int v1, .int (σ.I 1140 a0), va_rf (some a0)]) (rest := []) (av := [va_rf (some a0), .int (σ.I 1140 a0), .int v1]) (x_linkV (M := mX12_areSame) (M' := mX12_length) (As := [.int (σ.I 1140 a0), .int v1]) (index := 154) (C := RX12) (T := TX12) (xE_12 c_1) rfl wd_666 wd_667 (wG_in (List.mem_append_left _ (List.mem_of_getElem? (i := 47) rfl)) rfl) xw_X12_length rfl (by decide) rfl rfl dX12_areSame_6) (ev_X12_length hO hP h_4) xw_X12_length rfl wd_198 dX12_areSame_6 (by decide) (by decide) (by simp [x_cat, x_catI, x_catJ])
    refine x_callR z9 ?_
    refine ev_at (st' := [.int v_2]) rfl rfl ?_
    refine ev_istore_n (i := 3) (lv' := [(3, .int v_2), (0, va_rf (some a0)), (1, .int v1), (2, .int v2)]) dX12_areSame_9 rfl (by decide) rfl ?_
    refine ev_iload_n (j := 0) (x := v_2) dX12_areSame_10 rfl rfl ?_
    refine ev_aload_n (j := 1) (x := (some a0)) dX12_areSame_11 rfl rfl ?_
    refine ev_aload_n (j := 1) (x := (some a0)) dX12_areSame_12 rfl rfl ?_
    obtain ⟨c_5, h⟩ := x_chk_e h
    refine ev_get (C := RX12) (T := TX12) (k := 40) inX12 (xE_12 c_5) rfl (by decide) wd_638 (Or.inl rfl) rfl dX12_areSame_13 ?_
    refine ev_iload_n (j := 3) (x := v2) dX12_areSame_16 rfl rfl ?_
    rcases x_bind_e h with ⟨v_6, σ_7, h_8, h⟩ | ⟨E_10, σ_7, h_8, h⟩
    · have z9 := x_call (M := mX12_areSame) (M' := mX12_length) (pc := 17) (st := [.int v2, .int (σ_3.I 1140 a0), va_rf (some a0), .int v_2]) (rest := [.int v_2]) (av := [va_rf (some a0), .int (σ_3.I 1140 a0), .int v2]) (x_linkV (M := mX12_areSame) (M' := mX12_length) (As := [.int (σ_3.I 1140 a0), .int v2]) (index := 154) (C := RX12) (T := TX12) (xE_12 c_5) rfl wd_666 wd_667 (wG_in (List.mem_append_left _ (List.mem_of_getElem? (i := 47) rfl)) rfl) xw_X12_length rfl (by decide) rfl rfl dX12_areSame_17) (ev_X12_length hO hP h_8) xw_X12_length rfl wd_198 dX12_areSame_17 (by decide) (by decide) (by simp [x_cat, x_catI, x_catJ])
      refine x_callR z9 ?_
      refine ev_at (st' := [.int v_6, .int v_2]) rfl rfl ?_
      by_cases c_9 : v_2 = v_6
      · rw [if_pos c_9] at h
        refine ev_icmp_ne (x := v_2) (y := v_6) (tgt := 27) dX12_areSame_20 (by decide) (fun q9 => absurd c_9 q9) (fun _ => ?_)
        refine ev_iconst (v := 1) dX12_areSame_23 (by decide) ?_
        refine ev_goto (tgt := 28) dX12_areSame_24 (by decide) ?_
        exact ev_sub [1, 2, 3, 0] rfl (ev_X12_areSame_p28 hO hP h)
      · rw [if_neg c_9] at h
        refine ev_icmp_ne (x := v_2) (y := v_6) (tgt := 27) dX12_areSame_20 (by decide) (fun _ => ?_) (fun q9 => absurd q9 c_9)
        refine ev_iconst (v := 0) dX12_areSame_27 (by decide) ?_
        exact ev_sub [1, 2, 3, 0] rfl (ev_X12_areSame_p28 hO hP h)
    · have z9 := x_call (M := mX12_areSame) (M' := mX12_length) (pc := 17) (st := [.int v2, .int (σ_3.I 1140 a0), va_rf (some a0), .int v_2]) (rest := [.int v_2]) (av := [va_rf (some a0), .int (σ_3.I 1140 a0), .int v2]) (x_linkV (M := mX12_areSame) (M' := mX12_length) (As := [.int (σ_3.I 1140 a0), .int v2]) (index := 154) (C := RX12) (T := TX12) (xE_12 c_5) rfl wd_666 wd_667 (wG_in (List.mem_append_left _ (List.mem_of_getElem? (i := 47) rfl)) rfl) xw_X12_length rfl (by decide) rfl rfl dX12_areSame_17) (ev_X12_length hO hP h_8) xw_X12_length rfl wd_198 dX12_areSame_17 (by decide) (by decide) (by simp [x_cat, x_catI, x_catJ])
      cases h
      exact x_callX z9 (evX_out rfl)
  · have z9 := x_call (M := mX12_areSame) (M' := mX12_length) (pc := 6) (st := [.int v1, .int (σ.I 1140 a0), va_rf (some a0)]) (rest := []) (av := [va_rf (some a0), .int (σ.I 1140 a0), .int v1]) (x_linkV (M := mX12_areSame) (M' := mX12_length) (As := [.int (σ.I 1140 a0), .int v1]) (index := 154) (C := RX12) (T := TX12) (xE_12 c_1) rfl wd_666 wd_667 (wG_in (List.mem_append_left _ (List.mem_of_getElem? (i := 47) rfl)) rfl) xw_X12_length rfl (by decide) rfl rfl dX12_areSame_6) (ev_X12_length hO hP h_4) xw_X12_length rfl wd_198 dX12_areSame_6 (by decide) (by decide) (by simp [x_cat, x_catI, x_catJ])
    cases h
    exact x_callX z9 (evX_out rfl)
set_option maxHeartbeats 4000000 in
set_option maxRecDepth 100000 in
theorem ev_X12_mod {l : Launch} {G : xG} (hO : x_OK l G) {P : xP} (hP : x_PG P G) {a0 : Nat} {σ σ' : xS} {rr : Int32 ⊕ String} (h : dm_X12_mod P a0 σ = some (rr, σ')) : EvM l G mX12_mod [va_rf (some a0)] σ (xrI rr) σ' := by
  unfold dm_X12_mod at h
  refine evM_of hO (by decide +kernel) (x_lenI (by simp [x_cat, x_catI, x_catJ, mX12_mod, xM.maxL])) ?_
  refine Eq.mp (congrArg (fun z => Ev l G mX12_mod 0 z [] σ (xrI rr) σ') (show [(0, va_rf (some a0))] = lv_args 0 [va_rf (some a0)] by simp [lv_args, x_cat, x_catI, x_catJ])) ?_
  refine ev_bipush (v := 8) dX12_mod_0 (by decide) ?_
  refine ev_aload_n (j := 0) (x := (some a0)) dX12_mod_2 rfl rfl ?_
  obtain ⟨c_1, h⟩ := x_chk_e h
  refine ev_get (C := RX12) (T := TX12) (k := 40) inX12 (xE_12 c_1) rfl (by decide) wd_638 (Or.inl rfl) rfl dX12_mod_3 ?_
  refine ev_imul (x := 8) (y := (σ.I 1140 a0)) dX12_mod_6 ?_
  refine ev_aload_n (j := 0) (x := (some a0)) dX12_mod_7 rfl rfl ?_
  refine ev_get (C := RX12) (T := TX12) (k := 41) inX12 (xE_12 c_1) rfl (by decide) wd_668 (Or.inl rfl) rfl dX12_mod_8 ?_
  refine ev_iadd (x := (8 * (σ.I 1140 a0))) (y := (σ.I 1141 a0)) dX12_mod_11 ?_
  cases h
  exact ev_iret rfl rfl dX12_mod_12
set_option maxHeartbeats 4000000 in
set_option maxRecDepth 100000 in
theorem ev_X12_takeModule_p54 {l : Launch} {G : xG} (hO : x_OK l G) {P : xP} (hP : x_PG P G) {a0 : Nat} {k6 : Int32 → xS → xO Unit} (hk6 : ∀ {v1 : Int32} {σ σ' : xS} {rr : Unit ⊕ String}, k6 v1 σ = some (rr, σ') → Ev l G mX12_takeModule 6 [(0, va_rf (some a0)), (1, .int v1)] [] σ (xrV rr) σ') {v1 : Int32} {σ σ' : xS} {rr : Unit ⊕ String} (h : dm_X12_takeModule_p54 P k6 a0 v1 σ = some (rr, σ')) : Ev l G mX12_takeModule 54 [(0, va_rf (some a0)), (1, .int v1)] [] σ (xrV rr) σ' := by
  unfold dm_X12_takeModule_p54 at h
  obtain ⟨v_1, ev_1, h⟩ := x_let_e h
  refine ev_iinc (j := 1) (x := v1) (v := v_1) (lv' := [(1, .int v_1), (0, va_rf (some a0))]) dX12_takeModule_54 rfl (by rw [ev_1]; rfl) (by decide) (by simp [x_cat, x_catI, x_catJ]) ?_
  refine ev_goto (tgt := 6) dX12_takeModule_57 (by decide) ?_
  exact ev_sub [1, 0] rfl (hk6 h)
set_option maxHeartbeats 4000000 in
set_option maxRecDepth 100000 in
theorem ev_X12_takeModule_p144 {l : Launch} {G : xG} (hO : x_OK l G) {P : xP} (hP : x_PG P G) {a0 : Nat} {σ σ' : xS} {rr : Unit ⊕ String} (h : dm_X12_takeModule_p144 P a0 σ = some (rr, σ')) : Ev l G mX12_takeModule 144 [(0, va_rf (some a0))] [] σ (xrV rr) σ' := by
  unfold dm_X12_takeModule_p144 at h
  refine ev_aload_n (j := 0) (x := (some a0)) dX12_takeModule_144 rfl rfl ?_
  obtain ⟨c_4, h⟩ := x_chk_e h
  rcases x_bind_e h with ⟨v_1, σ_2, h_3, h⟩ | ⟨E_5, σ_2, h_3, h⟩
  · have z9 := x_call (M := mX12_takeModule) (M' := mX12_next) (pc := 145) (st := [va_rf (some a0)]) (rest := []) (av := [va_rf (some a0)]) (x_linkV (M := mX12_takeModule) (M' := mX12_next) (As := []) (index := 169) (C := RX12) (T := TX12) (xE_12 c_4) rfl wd_679 wd_680 (wG_in (List.mem_append_left _ (List.mem_of_getElem? (i := 36) rfl)) rfl) xw_X12_next rfl (by decide) rfl rfl dX12_takeModule_145) (ev_X12_next hO hP h_3) xw_X12_next rfl wd_198 dX12_takeModule_145 (by decide) (by decide) (by simp [x_cat, x_catI, x_catJ])
    refine x_callR z9 ?_
    refine ev_at (st' := []) rfl rfl ?_
    cases h
    exact ev_vret rfl dX12_takeModule_148
  · have z9 := x_call (M := mX12_takeModule) (M' := mX12_next) (pc := 145) (st := [va_rf (some a0)]) (rest := []) (av := [va_rf (some a0)]) (x_linkV (M := mX12_takeModule) (M' := mX12_next) (As := []) (index := 169) (C := RX12) (T := TX12) (xE_12 c_4) rfl wd_679 wd_680 (wG_in (List.mem_append_left _ (List.mem_of_getElem? (i := 36) rfl)) rfl) xw_X12_next rfl (by decide) rfl rfl dX12_takeModule_145) (ev_X12_next hO hP h_3) xw_X12_next rfl wd_198 dX12_takeModule_145 (by decide) (by decide) (by simp [x_cat, x_catI, x_catJ])
    cases h
    exact x_callX z9 (evX_out rfl)
set_option maxHeartbeats 4000000 in
set_option maxRecDepth 100000 in
theorem ev_X12_takeModule_p84 {l : Launch} {G : xG} (hO : x_OK l G) {P : xP} (hP : x_PG P G) {a0 : Nat} {σ σ' : xS} {rr : Unit ⊕ String} (h : dm_X12_takeModule_p84 P a0 σ = some (rr, σ')) : Ev l G mX12_takeModule 84 [(0, va_rf (some a0))] [] σ (xrV rr) σ' := by
  unfold dm_X12_takeModule_p84 at h
  refine ev_aload_n (j := 0) (x := (some a0)) dX12_takeModule_84 rfl rfl ?_
  obtain ⟨c_4, h⟩ := x_chk_e h
  rcases x_bind_e h with ⟨v_1, σ_2, h_3, h⟩ | ⟨E_47, σ_2, h_3, h⟩
  · have z9 := x_call (M := mX12_takeModule) (M' := mX12_ok) (pc := 85) (st := [va_rf (some a0)]) (rest := []) (av := [va_rf (some a0)]) (x_linkV (M := mX12_takeModule) (M' := mX12_ok) (As := []) (index := 121) (C := RX12) (T := TX12) (xE_12 c_4) rfl wd_640 wd_641 (wG_in (List.mem_append_left _ (List.mem_of_getElem? (i := 37) rfl)) rfl) xw_X12_ok rfl (by decide) rfl rfl dX12_takeModule_85) (ev_X12_ok hO hP h_3) xw_X12_ok rfl wd_198 dX12_takeModule_85 (by decide) (by decide) (by simp [x_cat, x_catI, x_catJ])
    refine x_callR z9 ?_
    refine ev_at (st' := [.int v_1]) rfl rfl ?_
    by_cases c_5 : v_1 = 0
    · rw [if_pos c_5] at h
      refine ev_if_eq (x := v_1) (tgt := 144) dX12_takeModule_88 (by decide) (fun _ => ?_) (fun q9 => absurd c_5 q9)
      exact ev_sub [0] rfl (ev_X12_takeModule_p144 hO hP h)
    · rw [if_neg c_5] at h
      refine ev_if_eq (x := v_1) (tgt := 144) dX12_takeModule_88 (by decide) (fun q9 => absurd q9 c_5) (fun _ => ?_)
      refine ev_aload_n (j := 0) (x := (some a0)) dX12_takeModule_91 rfl rfl ?_
      obtain ⟨c_6, h⟩ := x_chk_e h
      refine ev_get (C := RX12) (T := TX12) (k := 7) inX12 (xE_12 c_6) rfl (by decide) wd_154 (Or.inl rfl) rfl dX12_takeModule_92 ?_
      refine ev_aload_n (j := 0) (x := (some a0)) dX12_takeModule_95 rfl rfl ?_
      rcases x_bind_e h with ⟨v_7, σ_8, h_9, h⟩ | ⟨E_46, σ_8, h_9, h⟩
      · have z9 := x_call (M := mX12_takeModule) (M' := mX12_mod) (pc := 96) (st := [va_rf (some a0), va_rf (σ_2.R 1107 a0)]) (rest := [va_rf (σ_2.R 1107 a0)]) (av := [va_rf (some a0)]) (x_linkV (M := mX12_takeModule) (M' := mX12_mod) (As := []) (index := 175) (C := RX12) (T := TX12) (xE_12 c_6) rfl wd_676 wd_677 (wG_in (List.mem_append_left _ (List.mem_of_getElem? (i := 48) rfl)) rfl) xw_X12_mod rfl (by decide) rfl rfl dX12_takeModule_96) (ev_X12_mod hO hP h_9) xw_X12_mod rfl wd_198 dX12_takeModule_96 (by decide) (by decide) (by simp [x_cat, x_catI, x_catJ])
        refine x_callR z9 ?_
        refine ev_at (st' := [.int v_7, va_rf (σ_2.R 1107 a0)]) rfl rfl ?_
        refine ev_aload_n (j := 0) (x := (some a0)) dX12_takeModule_99 rfl rfl ?_
        obtain ⟨c_10, h⟩ := x_chk_e h
        refine ev_get (C := RX12) (T := TX12) (k := 36) inX12 (xE_12 c_10) rfl (by decide) wd_646 (Or.inl rfl) rfl dX12_takeModule_100 ?_
        obtain ⟨a_11, ea_11, h⟩ := x_some_e h
        refine ev_at (st' := [.int (σ_8.I 1136 a0), .int v_7, va_rf (some a_11)]) rfl (by rw [ea_11]) ?_
        obtain ⟨c_12, h⟩ := x_chk_e h
        obtain ⟨σ_13, eσ_13, h⟩ := x_let_e h
        refine ev_iast_31 c_12.1 c_12.2.1 (hP.2.2.2.1 ▸ c_12.2.2) dX12_takeModule_103 (eσ_13 ▸ ?_)
        refine ev_aload_n (j := 0) (x := (some a0)) dX12_takeModule_104 rfl rfl ?_
        obtain ⟨c_14, h⟩ := x_chk_e h
        refine ev_get (C := RX12) (T := TX12) (k := 8) inX12 (xE_12 c_14) rfl (by decide) wd_155 (Or.inl rfl) rfl dX12_takeModule_105 ?_
        refine ev_aload_n (j := 0) (x := (some a0)) dX12_takeModule_108 rfl rfl ?_
        rcases x_bind_e h with ⟨v_15, σ_16, h_17, h⟩ | ⟨E_45, σ_16, h_17, h⟩
        · have z9 := x_call (M := mX12_takeModule) (M' := mX12_mod) (pc := 109) (st := [va_rf (some a0), va_rf (σ_13.R 1108 a0)]) (rest := [va_rf (σ_13.R 1108 a0)]) (av := [va_rf (some a0)]) (x_linkV (M := mX12_takeModule) (M' := mX12_mod) (As := []) (index := 175) (C := RX12) (T := TX12) (xE_12 c_14) rfl wd_676 wd_677 (wG_in (List.mem_append_left _ (List.mem_of_getElem? (i := 48) rfl)) rfl) xw_X12_mod rfl (by decide) rfl rfl dX12_takeModule_109) (ev_X12_mod hO hP h_17) xw_X12_mod rfl wd_198 dX12_takeModule_109 (by decide) (by decide) (by simp [x_cat, x_catI, x_catJ])
          refine x_callR z9 ?_
          refine ev_at (st' := [.int v_15, va_rf (σ_13.R 1108 a0)]) rfl rfl ?_
          refine ev_iconst (v := 0) dX12_takeModule_112 (by decide) ?_
          obtain ⟨a_18, ea_18, h⟩ := x_some_e h
          refine ev_at (st' := [.int 0, .int v_15, va_rf (some a_18)]) rfl (by rw [ea_18]) ?_
          obtain ⟨c_19, h⟩ := x_chk_e h
          obtain ⟨σ_20, eσ_20, h⟩ := x_let_e h
          refine ev_iast_31 c_19.1 c_19.2.1 (hP.2.2.2.1 ▸ c_19.2.2) dX12_takeModule_113 (eσ_20 ▸ ?_)
          refine ev_aload_n (j := 0) (x := (some a0)) dX12_takeModule_114 rfl rfl ?_
          obtain ⟨c_21, h⟩ := x_chk_e h
          refine ev_get (C := RX12) (T := TX12) (k := 9) inX12 (xE_12 c_21) rfl (by decide) wd_156 (Or.inl rfl) rfl dX12_takeModule_115 ?_
          refine ev_aload_n (j := 0) (x := (some a0)) dX12_takeModule_118 rfl rfl ?_
          rcases x_bind_e h with ⟨v_22, σ_23, h_24, h⟩ | ⟨E_44, σ_23, h_24, h⟩
          · have z9 := x_call (M := mX12_takeModule) (M' := mX12_mod) (pc := 119) (st := [va_rf (some a0), va_rf (σ_20.R 1109 a0)]) (rest := [va_rf (σ_20.R 1109 a0)]) (av := [va_rf (some a0)]) (x_linkV (M := mX12_takeModule) (M' := mX12_mod) (As := []) (index := 175) (C := RX12) (T := TX12) (xE_12 c_21) rfl wd_676 wd_677 (wG_in (List.mem_append_left _ (List.mem_of_getElem? (i := 48) rfl)) rfl) xw_X12_mod rfl (by decide) rfl rfl dX12_takeModule_119) (ev_X12_mod hO hP h_24) xw_X12_mod rfl wd_198 dX12_takeModule_119 (by decide) (by decide) (by simp [x_cat, x_catI, x_catJ])
            refine x_callR z9 ?_
            refine ev_at (st' := [.int v_22, va_rf (σ_20.R 1109 a0)]) rfl rfl ?_
            refine ev_iconst (v := 0) dX12_takeModule_122 (by decide) ?_
            obtain ⟨a_25, ea_25, h⟩ := x_some_e h
            refine ev_at (st' := [.int 0, .int v_22, va_rf (some a_25)]) rfl (by rw [ea_25]) ?_
            obtain ⟨c_26, h⟩ := x_chk_e h
            obtain ⟨σ_27, eσ_27, h⟩ := x_let_e h
            refine ev_iast_31 c_26.1 c_26.2.1 (hP.2.2.2.1 ▸ c_26.2.2) dX12_takeModule_123 (eσ_27 ▸ ?_)
            refine ev_aload_n (j := 0) (x := (some a0)) dX12_takeModule_124 rfl rfl ?_
            obtain ⟨c_28, h⟩ := x_chk_e h
            refine ev_get (C := RX12) (T := TX12) (k := 21) inX12 (xE_12 c_28) rfl (by decide) wd_169 (Or.inl rfl) rfl dX12_takeModule_125 ?_
            refine ev_aload_n (j := 0) (x := (some a0)) dX12_takeModule_128 rfl rfl ?_
            rcases x_bind_e h with ⟨v_29, σ_30, h_31, h⟩ | ⟨E_43, σ_30, h_31, h⟩
            · have z9 := x_call (M := mX12_takeModule) (M' := mX12_mod) (pc := 129) (st := [va_rf (some a0), va_rf (σ_27.R 1121 a0)]) (rest := [va_rf (σ_27.R 1121 a0)]) (av := [va_rf (some a0)]) (x_linkV (M := mX12_takeModule) (M' := mX12_mod) (As := []) (index := 175) (C := RX12) (T := TX12) (xE_12 c_28) rfl wd_676 wd_677 (wG_in (List.mem_append_left _ (List.mem_of_getElem? (i := 48) rfl)) rfl) xw_X12_mod rfl (by decide) rfl rfl dX12_takeModule_129) (ev_X12_mod hO hP h_31) xw_X12_mod rfl wd_198 dX12_takeModule_129 (by decide) (by decide) (by simp [x_cat, x_catI, x_catJ])
              refine x_callR z9 ?_
              refine ev_at (st' := [.int v_29, va_rf (σ_27.R 1121 a0)]) rfl rfl ?_
              refine ev_iconst (v := 0) dX12_takeModule_132 (by decide) ?_
              obtain ⟨a_32, ea_32, h⟩ := x_some_e h
              refine ev_at (st' := [.int 0, .int v_29, va_rf (some a_32)]) rfl (by rw [ea_32]) ?_
              obtain ⟨c_33, h⟩ := x_chk_e h
              obtain ⟨σ_34, eσ_34, h⟩ := x_let_e h
              refine ev_iast_31 c_33.1 c_33.2.1 (hP.2.2.2.1 ▸ c_33.2.2) dX12_takeModule_133 (eσ_34 ▸ ?_)
              refine ev_aload_n (j := 0) (x := (some a0)) dX12_takeModule_134 rfl rfl ?_
              obtain ⟨c_35, h⟩ := x_chk_e h
              refine ev_get (C := RX12) (T := TX12) (k := 24) inX12 (xE_12 c_35) rfl (by decide) wd_172 (Or.inl rfl) rfl dX12_takeModule_135 ?_
              refine ev_aload_n (j := 0) (x := (some a0)) dX12_takeModule_138 rfl rfl ?_
              rcases x_bind_e h with ⟨v_36, σ_37, h_38, h⟩ | ⟨E_42, σ_37, h_38, h⟩
              · have z9 := x_call (M := mX12_takeModule) (M' := mX12_mod) (pc := 139) (st := [va_rf (some a0), va_rf (σ_34.R 1124 a0)]) (rest := [va_rf (σ_34.R 1124 a0)]) (av := [va_rf (some a0)]) (x_linkV (M := mX12_takeModule) (M' := mX12_mod) (As := []) (index := 175) (C := RX12) (T := TX12) (xE_12 c_35) rfl wd_676 wd_677 (wG_in (List.mem_append_left _ (List.mem_of_getElem? (i := 48) rfl)) rfl) xw_X12_mod rfl (by decide) rfl rfl dX12_takeModule_139) (ev_X12_mod hO hP h_38) xw_X12_mod rfl wd_198 dX12_takeModule_139 (by decide) (by decide) (by simp [x_cat, x_catI, x_catJ])
                refine x_callR z9 ?_
                refine ev_at (st' := [.int v_36, va_rf (σ_34.R 1124 a0)]) rfl rfl ?_
                refine ev_iconst (v := 0) dX12_takeModule_142 (by decide) ?_
                obtain ⟨a_39, ea_39, h⟩ := x_some_e h
                refine ev_at (st' := [.int 0, .int v_36, va_rf (some a_39)]) rfl (by rw [ea_39]) ?_
                obtain ⟨c_40, h⟩ := x_chk_e h
                obtain ⟨σ_41, eσ_41, h⟩ := x_let_e h
                refine ev_iast_31 c_40.1 c_40.2.1 (hP.2.2.2.1 ▸ c_40.2.2) dX12_takeModule_143 (eσ_41 ▸ ?_)
                exact ev_sub [0] rfl (ev_X12_takeModule_p144 hO hP h)
              · have z9 := x_call (M := mX12_takeModule) (M' := mX12_mod) (pc := 139) (st := [va_rf (some a0), va_rf (σ_34.R 1124 a0)]) (rest := [va_rf (σ_34.R 1124 a0)]) (av := [va_rf (some a0)]) (x_linkV (M := mX12_takeModule) (M' := mX12_mod) (As := []) (index := 175) (C := RX12) (T := TX12) (xE_12 c_35) rfl wd_676 wd_677 (wG_in (List.mem_append_left _ (List.mem_of_getElem? (i := 48) rfl)) rfl) xw_X12_mod rfl (by decide) rfl rfl dX12_takeModule_139) (ev_X12_mod hO hP h_38) xw_X12_mod rfl wd_198 dX12_takeModule_139 (by decide) (by decide) (by simp [x_cat, x_catI, x_catJ])
                cases h
                exact x_callX z9 (evX_out rfl)
            · have z9 := x_call (M := mX12_takeModule) (M' := mX12_mod) (pc := 129) (st := [va_rf (some a0), va_rf (σ_27.R 1121 a0)]) (rest := [va_rf (σ_27.R 1121 a0)]) (av := [va_rf (some a0)]) (x_linkV (M := mX12_takeModule) (M' := mX12_mod) (As := []) (index := 175) (C := RX12) (T := TX12) (xE_12 c_28) rfl wd_676 wd_677 (wG_in (List.mem_append_left _ (List.mem_of_getElem? (i := 48) rfl)) rfl) xw_X12_mod rfl (by decide) rfl rfl dX12_takeModule_129) (ev_X12_mod hO hP h_31) xw_X12_mod rfl wd_198 dX12_takeModule_129 (by decide) (by decide) (by simp [x_cat, x_catI, x_catJ])
              cases h
              exact x_callX z9 (evX_out rfl)
          · have z9 := x_call (M := mX12_takeModule) (M' := mX12_mod) (pc := 119) (st := [va_rf (some a0), va_rf (σ_20.R 1109 a0)]) (rest := [va_rf (σ_20.R 1109 a0)]) (av := [va_rf (some a0)]) (x_linkV (M := mX12_takeModule) (M' := mX12_mod) (As := []) (index := 175) (C := RX12) (T := TX12) (xE_12 c_21) rfl wd_676 wd_677 (wG_in (List.mem_append_left _ (List.mem_of_getElem? (i := 48) rfl)) rfl) xw_X12_mod rfl (by decide) rfl rfl dX12_takeModule_119) (ev_X12_mod hO hP h_24) xw_X12_mod rfl wd_198 dX12_takeModule_119 (by decide) (by decide) (by simp [x_cat, x_catI, x_catJ])
            cases h
            exact x_callX z9 (evX_out rfl)
        · have z9 := x_call (M := mX12_takeModule) (M' := mX12_mod) (pc := 109) (st := [va_rf (some a0), va_rf (σ_13.R 1108 a0)]) (rest := [va_rf (σ_13.R 1108 a0)]) (av := [va_rf (some a0)]) (x_linkV (M := mX12_takeModule) (M' := mX12_mod) (As := []) (index := 175) (C := RX12) (T := TX12) (xE_12 c_14) rfl wd_676 wd_677 (wG_in (List.mem_append_left _ (List.mem_of_getElem? (i := 48) rfl)) rfl) xw_X12_mod rfl (by decide) rfl rfl dX12_takeModule_109) (ev_X12_mod hO hP h_17) xw_X12_mod rfl wd_198 dX12_takeModule_109 (by decide) (by decide) (by simp [x_cat, x_catI, x_catJ])
          cases h
          exact x_callX z9 (evX_out rfl)
      · have z9 := x_call (M := mX12_takeModule) (M' := mX12_mod) (pc := 96) (st := [va_rf (some a0), va_rf (σ_2.R 1107 a0)]) (rest := [va_rf (σ_2.R 1107 a0)]) (av := [va_rf (some a0)]) (x_linkV (M := mX12_takeModule) (M' := mX12_mod) (As := []) (index := 175) (C := RX12) (T := TX12) (xE_12 c_6) rfl wd_676 wd_677 (wG_in (List.mem_append_left _ (List.mem_of_getElem? (i := 48) rfl)) rfl) xw_X12_mod rfl (by decide) rfl rfl dX12_takeModule_96) (ev_X12_mod hO hP h_9) xw_X12_mod rfl wd_198 dX12_takeModule_96 (by decide) (by decide) (by simp [x_cat, x_catI, x_catJ])
        cases h
        exact x_callX z9 (evX_out rfl)
  · have z9 := x_call (M := mX12_takeModule) (M' := mX12_ok) (pc := 85) (st := [va_rf (some a0)]) (rest := []) (av := [va_rf (some a0)]) (x_linkV (M := mX12_takeModule) (M' := mX12_ok) (As := []) (index := 121) (C := RX12) (T := TX12) (xE_12 c_4) rfl wd_640 wd_641 (wG_in (List.mem_append_left _ (List.mem_of_getElem? (i := 37) rfl)) rfl) xw_X12_ok rfl (by decide) rfl rfl dX12_takeModule_85) (ev_X12_ok hO hP h_3) xw_X12_ok rfl wd_198 dX12_takeModule_85 (by decide) (by decide) (by simp [x_cat, x_catI, x_catJ])
    cases h
    exact x_callX z9 (evX_out rfl)
set_option maxHeartbeats 4000000 in
set_option maxRecDepth 100000 in
theorem ev_X12_takeModule_p60 {l : Launch} {G : xG} (hO : x_OK l G) {P : xP} (hP : x_PG P G) {a0 : Nat} {σ σ' : xS} {rr : Unit ⊕ String} (h : dm_X12_takeModule_p60 P a0 σ = some (rr, σ')) : Ev l G mX12_takeModule 60 [(0, va_rf (some a0))] [] σ (xrV rr) σ' := by
  unfold dm_X12_takeModule_p60 at h
  refine ev_aload_n (j := 0) (x := (some a0)) dX12_takeModule_60 rfl rfl ?_
  obtain ⟨c_4, h⟩ := x_chk_e h
  rcases x_bind_e h with ⟨v_1, σ_2, h_3, h⟩ | ⟨E_12, σ_2, h_3, h⟩
  · have z9 := x_call (M := mX12_takeModule) (M' := mX12_ok) (pc := 61) (st := [va_rf (some a0)]) (rest := []) (av := [va_rf (some a0)]) (x_linkV (M := mX12_takeModule) (M' := mX12_ok) (As := []) (index := 121) (C := RX12) (T := TX12) (xE_12 c_4) rfl wd_640 wd_641 (wG_in (List.mem_append_left _ (List.mem_of_getElem? (i := 37) rfl)) rfl) xw_X12_ok rfl (by decide) rfl rfl dX12_takeModule_61) (ev_X12_ok hO hP h_3) xw_X12_ok rfl wd_198 dX12_takeModule_61 (by decide) (by decide) (by simp [x_cat, x_catI, x_catJ])
    refine x_callR z9 ?_
    refine ev_at (st' := [.int v_1]) rfl rfl ?_
    by_cases c_5 : v_1 = 0
    · rw [if_pos c_5] at h
      refine ev_if_eq (x := v_1) (tgt := 84) dX12_takeModule_64 (by decide) (fun _ => ?_) (fun q9 => absurd c_5 q9)
      exact ev_sub [0] rfl (ev_X12_takeModule_p84 hO hP h)
    · rw [if_neg c_5] at h
      refine ev_if_eq (x := v_1) (tgt := 84) dX12_takeModule_64 (by decide) (fun q9 => absurd q9 c_5) (fun _ => ?_)
      refine ev_aload_n (j := 0) (x := (some a0)) dX12_takeModule_67 rfl rfl ?_
      obtain ⟨c_6, h⟩ := x_chk_e h
      refine ev_get (C := RX12) (T := TX12) (k := 41) inX12 (xE_12 c_6) rfl (by decide) wd_668 (Or.inl rfl) rfl dX12_takeModule_68 ?_
      refine ev_bipush (v := 8) dX12_takeModule_71 (by decide) ?_
      by_cases c_7 : (σ_2.I 1141 a0) = 8
      · rw [if_pos c_7] at h
        refine ev_icmp_ne (x := (σ_2.I 1141 a0)) (y := 8) (tgt := 84) dX12_takeModule_73 (by decide) (fun q9 => absurd c_7 q9) (fun _ => ?_)
        refine ev_aload_n (j := 0) (x := (some a0)) dX12_takeModule_76 rfl rfl ?_
        refine ev_aload_n (j := 0) (x := (some a0)) dX12_takeModule_77 rfl rfl ?_
        refine ev_get (C := RX12) (T := TX12) (k := 36) inX12 (xE_12 c_6) rfl (by decide) wd_646 (Or.inl rfl) rfl dX12_takeModule_78 ?_
        rcases x_bind_e h with ⟨v_8, σ_9, h_10, h⟩ | ⟨E_11, σ_9, h_10, h⟩
        · have z9 := x_call (M := mX12_takeModule) (M' := mX12_fail) (pc := 81) (st := [.int (σ_2.I 1136 a0), va_rf (some a0)]) (rest := []) (av := [va_rf (some a0), .int (σ_2.I 1136 a0)]) (x_linkV (M := mX12_takeModule) (M' := mX12_fail) (As := [.int (σ_2.I 1136 a0)]) (index := 150) (C := RX12) (T := TX12) (xE_12 c_6) rfl wd_657 wd_658 (wG_in (List.mem_append_left _ (List.mem_of_getElem? (i := 39) rfl)) rfl) xw_X12_fail rfl (by decide) rfl rfl dX12_takeModule_81) (ev_X12_fail hO hP h_10) xw_X12_fail rfl wd_198 dX12_takeModule_81 (by decide) (by decide) (by simp [x_cat, x_catI, x_catJ])
          refine x_callR z9 ?_
          refine ev_at (st' := []) rfl rfl ?_
          exact ev_sub [0] rfl (ev_X12_takeModule_p84 hO hP h)
        · have z9 := x_call (M := mX12_takeModule) (M' := mX12_fail) (pc := 81) (st := [.int (σ_2.I 1136 a0), va_rf (some a0)]) (rest := []) (av := [va_rf (some a0), .int (σ_2.I 1136 a0)]) (x_linkV (M := mX12_takeModule) (M' := mX12_fail) (As := [.int (σ_2.I 1136 a0)]) (index := 150) (C := RX12) (T := TX12) (xE_12 c_6) rfl wd_657 wd_658 (wG_in (List.mem_append_left _ (List.mem_of_getElem? (i := 39) rfl)) rfl) xw_X12_fail rfl (by decide) rfl rfl dX12_takeModule_81) (ev_X12_fail hO hP h_10) xw_X12_fail rfl wd_198 dX12_takeModule_81 (by decide) (by decide) (by simp [x_cat, x_catI, x_catJ])
          cases h
          exact x_callX z9 (evX_out rfl)
      · rw [if_neg c_7] at h
        refine ev_icmp_ne (x := (σ_2.I 1141 a0)) (y := 8) (tgt := 84) dX12_takeModule_73 (by decide) (fun _ => ?_) (fun q9 => absurd q9 c_7)
        exact ev_sub [0] rfl (ev_X12_takeModule_p84 hO hP h)
  · have z9 := x_call (M := mX12_takeModule) (M' := mX12_ok) (pc := 61) (st := [va_rf (some a0)]) (rest := []) (av := [va_rf (some a0)]) (x_linkV (M := mX12_takeModule) (M' := mX12_ok) (As := []) (index := 121) (C := RX12) (T := TX12) (xE_12 c_4) rfl wd_640 wd_641 (wG_in (List.mem_append_left _ (List.mem_of_getElem? (i := 37) rfl)) rfl) xw_X12_ok rfl (by decide) rfl rfl dX12_takeModule_61) (ev_X12_ok hO hP h_3) xw_X12_ok rfl wd_198 dX12_takeModule_61 (by decide) (by decide) (by simp [x_cat, x_catI, x_catJ])
    cases h
    exact x_callX z9 (evX_out rfl)
set_option maxHeartbeats 4000000 in
set_option maxRecDepth 100000 in
theorem ev_X12_takeModule_L6 {l : Launch} {G : xG} (hO : x_OK l G) {P : xP} (hP : x_PG P G) {a0 : Nat} : ∀ (n : Nat) {v1 : Int32} {σ σ' : xS} {rr : Unit ⊕ String}, dm_X12_takeModule_L6 P a0 n v1 σ = some (rr, σ') → Ev l G mX12_takeModule 6 [(0, va_rf (some a0)), (1, .int v1)] [] σ (xrV rr) σ' := by
  intro n
  induction n with
  | zero => intro v1 σ σ' rr h; cases h
  | succ n ih =>
    intro v1 σ σ' rr h
    rw [dm_X12_takeModule_L6] at h
    refine ev_iload_n (j := 1) (x := v1) dX12_takeModule_6 rfl rfl ?_
    refine ev_aload_n (j := 0) (x := (some a0)) dX12_takeModule_7 rfl rfl ?_
    obtain ⟨c_1, h⟩ := x_chk_e h
    refine ev_get (C := RX12) (T := TX12) (k := 41) inX12 (xE_12 c_1) rfl (by decide) wd_668 (Or.inl rfl) rfl dX12_takeModule_8 ?_
    by_cases c_2 : (σ.I 1141 a0) ≤ v1
    · rw [if_pos c_2] at h
      refine ev_icmp_ge (x := v1) (y := (σ.I 1141 a0)) (tgt := 60) dX12_takeModule_11 (by decide) (fun _ => ?_) (fun q9 => absurd c_2 q9)
      exact ev_sub [0] rfl (ev_X12_takeModule_p60 hO hP h)
    · rw [if_neg c_2] at h
      refine ev_icmp_ge (x := v1) (y := (σ.I 1141 a0)) (tgt := 60) dX12_takeModule_11 (by decide) (fun q9 => absurd q9 c_2) (fun _ => ?_)
      refine ev_aload_n (j := 0) (x := (some a0)) dX12_takeModule_14 rfl rfl ?_
      rcases x_bind_e h with ⟨v_3, σ_4, h_5, h⟩ | ⟨E_20, σ_4, h_5, h⟩
      · have z9 := x_call (M := mX12_takeModule) (M' := mX12_ok) (pc := 15) (st := [va_rf (some a0)]) (rest := []) (av := [va_rf (some a0)]) (x_linkV (M := mX12_takeModule) (M' := mX12_ok) (As := []) (index := 121) (C := RX12) (T := TX12) (xE_12 c_1) rfl wd_640 wd_641 (wG_in (List.mem_append_left _ (List.mem_of_getElem? (i := 37) rfl)) rfl) xw_X12_ok rfl (by decide) rfl rfl dX12_takeModule_15) (ev_X12_ok hO hP h_5) xw_X12_ok rfl wd_198 dX12_takeModule_15 (by decide) (by decide) (by simp [x_cat, x_catI, x_catJ])
        refine x_callR z9 ?_
        refine ev_at (st' := [.int v_3]) rfl rfl ?_
        by_cases c_6 : v_3 = 0
        · rw [if_pos c_6] at h
          refine ev_if_eq (x := v_3) (tgt := 60) dX12_takeModule_18 (by decide) (fun _ => ?_) (fun q9 => absurd c_6 q9)
          exact ev_sub [0] rfl (ev_X12_takeModule_p60 hO hP h)
        · rw [if_neg c_6] at h
          refine ev_if_eq (x := v_3) (tgt := 60) dX12_takeModule_18 (by decide) (fun q9 => absurd q9 c_6) (fun _ => ?_)
          refine ev_aload_n (j := 0) (x := (some a0)) dX12_takeModule_21 rfl rfl ?_
          refine ev_aload_n (j := 0) (x := (some a0)) dX12_takeModule_22 rfl rfl ?_
          obtain ⟨c_7, h⟩ := x_chk_e h
          refine ev_get (C := RX12) (T := TX12) (k := 7) inX12 (xE_12 c_7) rfl (by decide) wd_154 (Or.inl rfl) rfl dX12_takeModule_23 ?_
          refine ev_bipush (v := 8) dX12_takeModule_26 (by decide) ?_
          refine ev_aload_n (j := 0) (x := (some a0)) dX12_takeModule_28 rfl rfl ?_
          refine ev_get (C := RX12) (T := TX12) (k := 40) inX12 (xE_12 c_7) rfl (by decide) wd_638 (Or.inl rfl) rfl dX12_takeModule_29 ?_
          refine ev_imul (x := 8) (y := (σ_4.I 1140 a0)) dX12_takeModule_32 ?_
          refine ev_iload_n (j := 1) (x := v1) dX12_takeModule_33 rfl rfl ?_
          refine ev_iadd (x := (8 * (σ_4.I 1140 a0))) (y := v1) dX12_takeModule_34 ?_
          obtain ⟨a_8, ea_8, h⟩ := x_some_e h
          refine ev_at (st' := [.int ((8 * (σ_4.I 1140 a0)) + v1), va_rf (some a_8), va_rf (some a0)]) rfl (by rw [ea_8]) ?_
          obtain ⟨c_9, h⟩ := x_chk_e h
          refine ev_iald_31 c_9.1 c_9.2 dX12_takeModule_35 ?_
          refine ev_aload_n (j := 0) (x := (some a0)) dX12_takeModule_36 rfl rfl ?_
          refine ev_get (C := RX12) (T := TX12) (k := 36) inX12 (xE_12 c_7) rfl (by decide) wd_646 (Or.inl rfl) rfl dX12_takeModule_37 ?_
          rcases x_bind_e h with ⟨v_10, σ_11, h_12, h⟩ | ⟨E_19, σ_11, h_12, h⟩
          · have z9 := x_call (M := mX12_takeModule) (M' := mX12_areSame) (pc := 40) (st := [.int (σ_4.I 1136 a0), .int (σ_4.AI a_8 (Int32.toNatClampNeg ((8 * (σ_4.I 1140 a0)) + v1))), va_rf (some a0)]) (rest := []) (av := [va_rf (some a0), .int (σ_4.AI a_8 (Int32.toNatClampNeg ((8 * (σ_4.I 1140 a0)) + v1))), .int (σ_4.I 1136 a0)]) (x_linkV (M := mX12_takeModule) (M' := mX12_areSame) (As := [.int (σ_4.AI a_8 (Int32.toNatClampNeg ((8 * (σ_4.I 1140 a0)) + v1))), .int (σ_4.I 1136 a0)]) (index := 181) (C := RX12) (T := TX12) (xE_12 c_7) rfl wd_673 wd_674 (wG_in (List.mem_append_left _ (List.mem_of_getElem? (i := 46) rfl)) rfl) xw_X12_areSame rfl (by decide) rfl rfl dX12_takeModule_40) (ev_X12_areSame hO hP h_12) xw_X12_areSame rfl wd_198 dX12_takeModule_40 (by decide) (by decide) (by simp [x_cat, x_catI, x_catJ])
            refine x_callR z9 ?_
            refine ev_at (st' := [.int v_10]) rfl rfl ?_
            by_cases c_13 : v_10 = 0
            · rw [if_pos c_13] at h
              refine ev_if_eq (x := v_10) (tgt := 54) dX12_takeModule_43 (by decide) (fun _ => ?_) (fun q9 => absurd c_13 q9)
              exact ev_sub [0, 1] rfl (ev_X12_takeModule_p54 hO hP ih h)
            · rw [if_neg c_13] at h
              refine ev_if_eq (x := v_10) (tgt := 54) dX12_takeModule_43 (by decide) (fun q9 => absurd q9 c_13) (fun _ => ?_)
              refine ev_aload_n (j := 0) (x := (some a0)) dX12_takeModule_46 rfl rfl ?_
              refine ev_aload_n (j := 0) (x := (some a0)) dX12_takeModule_47 rfl rfl ?_
              obtain ⟨c_14, h⟩ := x_chk_e h
              refine ev_get (C := RX12) (T := TX12) (k := 36) inX12 (xE_12 c_14) rfl (by decide) wd_646 (Or.inl rfl) rfl dX12_takeModule_48 ?_
              rcases x_bind_e h with ⟨v_15, σ_16, h_17, h⟩ | ⟨E_18, σ_16, h_17, h⟩
              · have z9 := x_call (M := mX12_takeModule) (M' := mX12_fail) (pc := 51) (st := [.int (σ_11.I 1136 a0), va_rf (some a0)]) (rest := []) (av := [va_rf (some a0), .int (σ_11.I 1136 a0)]) (x_linkV (M := mX12_takeModule) (M' := mX12_fail) (As := [.int (σ_11.I 1136 a0)]) (index := 150) (C := RX12) (T := TX12) (xE_12 c_14) rfl wd_657 wd_658 (wG_in (List.mem_append_left _ (List.mem_of_getElem? (i := 39) rfl)) rfl) xw_X12_fail rfl (by decide) rfl rfl dX12_takeModule_51) (ev_X12_fail hO hP h_17) xw_X12_fail rfl wd_198 dX12_takeModule_51 (by decide) (by decide) (by simp [x_cat, x_catI, x_catJ])
                refine x_callR z9 ?_
                refine ev_at (st' := []) rfl rfl ?_
                exact ev_sub [0, 1] rfl (ev_X12_takeModule_p54 hO hP ih h)
              · have z9 := x_call (M := mX12_takeModule) (M' := mX12_fail) (pc := 51) (st := [.int (σ_11.I 1136 a0), va_rf (some a0)]) (rest := []) (av := [va_rf (some a0), .int (σ_11.I 1136 a0)]) (x_linkV (M := mX12_takeModule) (M' := mX12_fail) (As := [.int (σ_11.I 1136 a0)]) (index := 150) (C := RX12) (T := TX12) (xE_12 c_14) rfl wd_657 wd_658 (wG_in (List.mem_append_left _ (List.mem_of_getElem? (i := 39) rfl)) rfl) xw_X12_fail rfl (by decide) rfl rfl dX12_takeModule_51) (ev_X12_fail hO hP h_17) xw_X12_fail rfl wd_198 dX12_takeModule_51 (by decide) (by decide) (by simp [x_cat, x_catI, x_catJ])
                cases h
                exact x_callX z9 (evX_out rfl)
          · have z9 := x_call (M := mX12_takeModule) (M' := mX12_areSame) (pc := 40) (st := [.int (σ_4.I 1136 a0), .int (σ_4.AI a_8 (Int32.toNatClampNeg ((8 * (σ_4.I 1140 a0)) + v1))), va_rf (some a0)]) (rest := []) (av := [va_rf (some a0), .int (σ_4.AI a_8 (Int32.toNatClampNeg ((8 * (σ_4.I 1140 a0)) + v1))), .int (σ_4.I 1136 a0)]) (x_linkV (M := mX12_takeModule) (M' := mX12_areSame) (As := [.int (σ_4.AI a_8 (Int32.toNatClampNeg ((8 * (σ_4.I 1140 a0)) + v1))), .int (σ_4.I 1136 a0)]) (index := 181) (C := RX12) (T := TX12) (xE_12 c_7) rfl wd_673 wd_674 (wG_in (List.mem_append_left _ (List.mem_of_getElem? (i := 46) rfl)) rfl) xw_X12_areSame rfl (by decide) rfl rfl dX12_takeModule_40) (ev_X12_areSame hO hP h_12) xw_X12_areSame rfl wd_198 dX12_takeModule_40 (by decide) (by decide) (by simp [x_cat, x_catI, x_catJ])
            cases h
            exact x_callX z9 (evX_out rfl)
      · have z9 := x_call (M := mX12_takeModule) (M' := mX12_ok) (pc := 15) (st := [va_rf (some a0)]) (rest := []) (av := [va_rf (some a0)]) (x_linkV (M := mX12_takeModule) (M' := mX12_ok) (As := []) (index := 121) (C := RX12) (T := TX12) (xE_12 c_1) rfl wd_640 wd_641 (wG_in (List.mem_append_left _ (List.mem_of_getElem? (i := 37) rfl)) rfl) xw_X12_ok rfl (by decide) rfl rfl dX12_takeModule_15) (ev_X12_ok hO hP h_5) xw_X12_ok rfl wd_198 dX12_takeModule_15 (by decide) (by decide) (by simp [x_cat, x_catI, x_catJ])
        cases h
        exact x_callX z9 (evX_out rfl)
set_option maxHeartbeats 4000000 in
set_option maxRecDepth 100000 in
theorem ev_X12_takeModule {l : Launch} {G : xG} (hO : x_OK l G) {P : xP} (hP : x_PG P G) {a0 : Nat} {σ σ' : xS} {rr : Unit ⊕ String} (h : dm_X12_takeModule P a0 σ = some (rr, σ')) : EvM l G mX12_takeModule [va_rf (some a0)] σ (xrV rr) σ' := by
  unfold dm_X12_takeModule at h
  refine evM_of hO (by decide +kernel) (x_lenI (by simp [x_cat, x_catI, x_catJ, mX12_takeModule, xM.maxL])) ?_
  refine Eq.mp (congrArg (fun z => Ev l G mX12_takeModule 0 z [] σ (xrV rr) σ') (show [(0, va_rf (some a0))] = lv_args 0 [va_rf (some a0)] by simp [lv_args, x_cat, x_catI, x_catJ])) ?_
  refine ev_aload_n (j := 0) (x := (some a0)) dX12_takeModule_0 rfl rfl ?_
  obtain ⟨c_4, h⟩ := x_chk_e h
  rcases x_bind_e h with ⟨v_1, σ_2, h_3, h⟩ | ⟨E_5, σ_2, h_3, h⟩
  · have z9 := x_call (M := mX12_takeModule) (M' := mX12_needName) (pc := 1) (st := [va_rf (some a0)]) (rest := []) (av := [va_rf (some a0)]) (x_linkV (M := mX12_takeModule) (M' := mX12_needName) (As := []) (index := 185) (C := RX12) (T := TX12) (xE_12 c_4) rfl wd_670 wd_671 (wG_in (List.mem_append_left _ (List.mem_of_getElem? (i := 45) rfl)) rfl) xw_X12_needName rfl (by decide) rfl rfl dX12_takeModule_1) (ev_X12_needName hO hP h_3) xw_X12_needName rfl wd_198 dX12_takeModule_1 (by decide) (by decide) (by simp [x_cat, x_catI, x_catJ])
    refine x_callR z9 ?_
    refine ev_at (st' := []) rfl rfl ?_
    refine ev_iconst (v := 0) dX12_takeModule_4 (by decide) ?_
    refine ev_istore_n (i := 1) (lv' := [(1, .int 0), (0, va_rf (some a0))]) dX12_takeModule_5 rfl (by decide) (by simp [x_cat, x_catI, x_catJ]) ?_
    exact ev_sub [1, 0] rfl (ev_X12_takeModule_L6 hO hP P.N h)
  · have z9 := x_call (M := mX12_takeModule) (M' := mX12_needName) (pc := 1) (st := [va_rf (some a0)]) (rest := []) (av := [va_rf (some a0)]) (x_linkV (M := mX12_takeModule) (M' := mX12_needName) (As := []) (index := 185) (C := RX12) (T := TX12) (xE_12 c_4) rfl wd_670 wd_671 (wG_in (List.mem_append_left _ (List.mem_of_getElem? (i := 45) rfl)) rfl) xw_X12_needName rfl (by decide) rfl rfl dX12_takeModule_1) (ev_X12_needName hO hP h_3) xw_X12_needName rfl wd_198 dX12_takeModule_1 (by decide) (by decide) (by simp [x_cat, x_catI, x_catJ])
    cases h
    exact x_callX z9 (evX_out rfl)
set_option maxHeartbeats 4000000 in
set_option maxRecDepth 100000 in
theorem ev_X12_isSign_p28 {l : Launch} {G : xG} (hO : x_OK l G) {P : xP} (hP : x_PG P G) {a0 : Nat} {s0 : Int32} {σ σ' : xS} {rr : Int32 ⊕ String} (h : dm_X12_isSign_p28 P a0 s0 σ = some (rr, σ')) : Ev l G mX12_isSign 28 [] [.int s0] σ (xrI rr) σ' := by
  unfold dm_X12_isSign_p28 at h
  obtain ⟨c_1, h⟩ := x_chk_e h
  cases h
  exact ev_iret rfl (x_boolN c_1) dX12_isSign_28
set_option maxHeartbeats 4000000 in
set_option maxRecDepth 100000 in
theorem ev_X12_isSign_p27 {l : Launch} {G : xG} (hO : x_OK l G) {P : xP} (hP : x_PG P G) {a0 : Nat} {σ σ' : xS} {rr : Int32 ⊕ String} (h : dm_X12_isSign_p27 P a0 σ = some (rr, σ')) : Ev l G mX12_isSign 27 [] [] σ (xrI rr) σ' := by
  unfold dm_X12_isSign_p27 at h
  refine ev_iconst (v := 0) dX12_isSign_27 (by decide) ?_
  exact ev_sub [] rfl (ev_X12_isSign_p28 hO hP h)
set_option maxHeartbeats 4000000 in
set_option maxRecDepth 100000 in
theorem ev_X12_isSign {l : Launch} {G : xG} (hO : x_OK l G) {P : xP} (hP : x_PG P G) {a0 : Nat} {v1 : Int32} {σ σ' : xS} {rr : Int32 ⊕ String} (h : dm_X12_isSign P a0 v1 σ = some (rr, σ')) : EvM l G mX12_isSign [va_rf (some a0), .int v1] σ (xrI rr) σ' := by
  unfold dm_X12_isSign at h
  refine evM_of hO (by decide +kernel) (x_lenI (by simp [x_cat, x_catI, x_catJ, mX12_isSign, xM.maxL])) ?_
  refine Eq.mp (congrArg (fun z => Ev l G mX12_isSign 0 z [] σ (xrI rr) σ') (show [(0, va_rf (some a0)), (1, .int v1)] = lv_args 0 [va_rf (some a0), .int v1] by simp [lv_args, x_cat, x_catI, x_catJ])) ?_
  refine ev_aload_n (j := 0) (x := (some a0)) dX12_isSign_0 rfl rfl ?_
  obtain ⟨c_4, h⟩ := x_chk_e h
  rcases x_bind_e h with ⟨v_1, σ_2, h_3, h⟩ | ⟨E_9, σ_2, h_3, h⟩
  · have z9 := x_call (M := mX12_isSign) (M' := mX12_ok) (pc := 1) (st := [va_rf (some a0)]) (rest := []) (av := [va_rf (some a0)]) (x_linkV (M := mX12_isSign) (M' := mX12_ok) (As := []) (index := 121) (C := RX12) (T := TX12) (xE_12 c_4) rfl wd_640 wd_641 (wG_in (List.mem_append_left _ (List.mem_of_getElem? (i := 37) rfl)) rfl) xw_X12_ok rfl (by decide) rfl rfl dX12_isSign_1) (ev_X12_ok hO hP h_3) xw_X12_ok rfl wd_198 dX12_isSign_1 (by decide) (by decide) (by simp [x_cat, x_catI, x_catJ])
    refine x_callR z9 ?_
    refine ev_at (st' := [.int v_1]) rfl rfl ?_
    by_cases c_5 : v_1 = 0
    · rw [if_pos c_5] at h
      refine ev_if_eq (x := v_1) (tgt := 27) dX12_isSign_4 (by decide) (fun _ => ?_) (fun q9 => absurd c_5 q9)
      exact ev_sub [] rfl (ev_X12_isSign_p27 hO hP h)
    · rw [if_neg c_5] at h
      refine ev_if_eq (x := v_1) (tgt := 27) dX12_isSign_4 (by decide) (fun q9 => absurd q9 c_5) (fun _ => ?_)
      refine ev_aload_n (j := 0) (x := (some a0)) dX12_isSign_7 rfl rfl ?_
      obtain ⟨c_6, h⟩ := x_chk_e h
      refine ev_get (C := RX12) (T := TX12) (k := 35) inX12 (xE_12 c_6) rfl (by decide) wd_653 (Or.inl rfl) rfl dX12_isSign_8 ?_
      refine ev_iconst (v := 3) dX12_isSign_11 (by decide) ?_
      by_cases c_7 : (σ_2.I 1135 a0) = 3
      · rw [if_pos c_7] at h
        refine ev_icmp_ne (x := (σ_2.I 1135 a0)) (y := 3) (tgt := 27) dX12_isSign_12 (by decide) (fun q9 => absurd c_7 q9) (fun _ => ?_)
        refine ev_aload_n (j := 0) (x := (some a0)) dX12_isSign_15 rfl rfl ?_
        refine ev_get (C := RX12) (T := TX12) (k := 38) inX12 (xE_12 c_6) rfl (by decide) wd_654 (Or.inl rfl) rfl dX12_isSign_16 ?_
        refine ev_iload_n (j := 1) (x := v1) dX12_isSign_19 rfl rfl ?_
        by_cases c_8 : (σ_2.I 1138 a0) = v1
        · rw [if_pos c_8] at h
          refine ev_icmp_ne (x := (σ_2.I 1138 a0)) (y := v1) (tgt := 27) dX12_isSign_20 (by decide) (fun q9 => absurd c_8 q9) (fun _ => ?_)
          refine ev_iconst (v := 1) dX12_isSign_23 (by decide) ?_
          refine ev_goto (tgt := 28) dX12_isSign_24 (by decide) ?_
          exact ev_sub [] rfl (ev_X12_isSign_p28 hO hP h)
        · rw [if_neg c_8] at h
          refine ev_icmp_ne (x := (σ_2.I 1138 a0)) (y := v1) (tgt := 27) dX12_isSign_20 (by decide) (fun _ => ?_) (fun q9 => absurd q9 c_8)
          exact ev_sub [] rfl (ev_X12_isSign_p27 hO hP h)
      · rw [if_neg c_7] at h
        refine ev_icmp_ne (x := (σ_2.I 1135 a0)) (y := 3) (tgt := 27) dX12_isSign_12 (by decide) (fun _ => ?_) (fun q9 => absurd q9 c_7)
        exact ev_sub [] rfl (ev_X12_isSign_p27 hO hP h)
  · have z9 := x_call (M := mX12_isSign) (M' := mX12_ok) (pc := 1) (st := [va_rf (some a0)]) (rest := []) (av := [va_rf (some a0)]) (x_linkV (M := mX12_isSign) (M' := mX12_ok) (As := []) (index := 121) (C := RX12) (T := TX12) (xE_12 c_4) rfl wd_640 wd_641 (wG_in (List.mem_append_left _ (List.mem_of_getElem? (i := 37) rfl)) rfl) xw_X12_ok rfl (by decide) rfl rfl dX12_isSign_1) (ev_X12_ok hO hP h_3) xw_X12_ok rfl wd_198 dX12_isSign_1 (by decide) (by decide) (by simp [x_cat, x_catI, x_catJ])
    cases h
    exact x_callX z9 (evX_out rfl)
set_option maxHeartbeats 4000000 in
set_option maxRecDepth 100000 in
theorem ev_X12_needSign_p23 {l : Launch} {G : xG} (hO : x_OK l G) {P : xP} (hP : x_PG P G) {a0 : Nat} {σ σ' : xS} {rr : Unit ⊕ String} (h : dm_X12_needSign_p23 P a0 σ = some (rr, σ')) : Ev l G mX12_needSign 23 [(0, va_rf (some a0))] [] σ (xrV rr) σ' := by
  unfold dm_X12_needSign_p23 at h
  refine ev_aload_n (j := 0) (x := (some a0)) dX12_needSign_23 rfl rfl ?_
  obtain ⟨c_4, h⟩ := x_chk_e h
  rcases x_bind_e h with ⟨v_1, σ_2, h_3, h⟩ | ⟨E_5, σ_2, h_3, h⟩
  · have z9 := x_call (M := mX12_needSign) (M' := mX12_next) (pc := 24) (st := [va_rf (some a0)]) (rest := []) (av := [va_rf (some a0)]) (x_linkV (M := mX12_needSign) (M' := mX12_next) (As := []) (index := 169) (C := RX12) (T := TX12) (xE_12 c_4) rfl wd_679 wd_680 (wG_in (List.mem_append_left _ (List.mem_of_getElem? (i := 36) rfl)) rfl) xw_X12_next rfl (by decide) rfl rfl dX12_needSign_24) (ev_X12_next hO hP h_3) xw_X12_next rfl wd_198 dX12_needSign_24 (by decide) (by decide) (by simp [x_cat, x_catI, x_catJ])
    refine x_callR z9 ?_
    refine ev_at (st' := []) rfl rfl ?_
    cases h
    exact ev_vret rfl dX12_needSign_27
  · have z9 := x_call (M := mX12_needSign) (M' := mX12_next) (pc := 24) (st := [va_rf (some a0)]) (rest := []) (av := [va_rf (some a0)]) (x_linkV (M := mX12_needSign) (M' := mX12_next) (As := []) (index := 169) (C := RX12) (T := TX12) (xE_12 c_4) rfl wd_679 wd_680 (wG_in (List.mem_append_left _ (List.mem_of_getElem? (i := 36) rfl)) rfl) xw_X12_next rfl (by decide) rfl rfl dX12_needSign_24) (ev_X12_next hO hP h_3) xw_X12_next rfl wd_198 dX12_needSign_24 (by decide) (by decide) (by simp [x_cat, x_catI, x_catJ])
    cases h
    exact x_callX z9 (evX_out rfl)
set_option maxHeartbeats 4000000 in
set_option maxRecDepth 100000 in
theorem ev_X12_needSign {l : Launch} {G : xG} (hO : x_OK l G) {P : xP} (hP : x_PG P G) {a0 : Nat} {v1 : Int32} {σ σ' : xS} {rr : Unit ⊕ String} (h : dm_X12_needSign P a0 v1 σ = some (rr, σ')) : EvM l G mX12_needSign [va_rf (some a0), .int v1] σ (xrV rr) σ' := by
  unfold dm_X12_needSign at h
  refine evM_of hO (by decide +kernel) (x_lenI (by simp [x_cat, x_catI, x_catJ, mX12_needSign, xM.maxL])) ?_
  refine Eq.mp (congrArg (fun z => Ev l G mX12_needSign 0 z [] σ (xrV rr) σ') (show [(0, va_rf (some a0)), (1, .int v1)] = lv_args 0 [va_rf (some a0), .int v1] by simp [lv_args, x_cat, x_catI, x_catJ])) ?_
  refine ev_aload_n (j := 0) (x := (some a0)) dX12_needSign_0 rfl rfl ?_
  obtain ⟨c_4, h⟩ := x_chk_e h
  rcases x_bind_e h with ⟨v_1, σ_2, h_3, h⟩ | ⟨E_17, σ_2, h_3, h⟩
  · have z9 := x_call (M := mX12_needSign) (M' := mX12_ok) (pc := 1) (st := [va_rf (some a0)]) (rest := []) (av := [va_rf (some a0)]) (x_linkV (M := mX12_needSign) (M' := mX12_ok) (As := []) (index := 121) (C := RX12) (T := TX12) (xE_12 c_4) rfl wd_640 wd_641 (wG_in (List.mem_append_left _ (List.mem_of_getElem? (i := 37) rfl)) rfl) xw_X12_ok rfl (by decide) rfl rfl dX12_needSign_1) (ev_X12_ok hO hP h_3) xw_X12_ok rfl wd_198 dX12_needSign_1 (by decide) (by decide) (by simp [x_cat, x_catI, x_catJ])
    refine x_callR z9 ?_
    refine ev_at (st' := [.int v_1]) rfl rfl ?_
    by_cases c_5 : v_1 = 0
    · rw [if_pos c_5] at h
      refine ev_if_eq (x := v_1) (tgt := 23) dX12_needSign_4 (by decide) (fun _ => ?_) (fun q9 => absurd c_5 q9)
      exact ev_sub [0] rfl (ev_X12_needSign_p23 hO hP h)
    · rw [if_neg c_5] at h
      refine ev_if_eq (x := v_1) (tgt := 23) dX12_needSign_4 (by decide) (fun q9 => absurd q9 c_5) (fun _ => ?_)
      refine ev_aload_n (j := 0) (x := (some a0)) dX12_needSign_7 rfl rfl ?_
      refine ev_iload_n (j := 1) (x := v1) dX12_needSign_8 rfl rfl ?_
      obtain ⟨c_9, h⟩ := x_chk_e h
      rcases x_bind_e h with ⟨v_6, σ_7, h_8, h⟩ | ⟨E_16, σ_7, h_8, h⟩
      · have z9 := x_call (M := mX12_needSign) (M' := mX12_isSign) (pc := 9) (st := [.int v1, va_rf (some a0)]) (rest := []) (av := [va_rf (some a0), .int v1]) (x_linkV (M := mX12_needSign) (M' := mX12_isSign) (As := [.int v1]) (index := 166) (C := RX12) (T := TX12) (xE_12 c_9) rfl wd_682 wd_683 (wG_in (List.mem_append_left _ (List.mem_of_getElem? (i := 50) rfl)) rfl) xw_X12_isSign rfl (by decide) rfl rfl dX12_needSign_9) (ev_X12_isSign hO hP h_8) xw_X12_isSign rfl wd_198 dX12_needSign_9 (by decide) (by decide) (by simp [x_cat, x_catI, x_catJ])
        refine x_callR z9 ?_
        refine ev_at (st' := [.int v_6]) rfl rfl ?_
        by_cases c_10 : v_6 = 0
        · rw [if_pos c_10] at h
          refine ev_if_ne (x := v_6) (tgt := 23) dX12_needSign_12 (by decide) (fun q9 => absurd c_10 q9) (fun _ => ?_)
          refine ev_aload_n (j := 0) (x := (some a0)) dX12_needSign_15 rfl rfl ?_
          refine ev_aload_n (j := 0) (x := (some a0)) dX12_needSign_16 rfl rfl ?_
          obtain ⟨c_11, h⟩ := x_chk_e h
          refine ev_get (C := RX12) (T := TX12) (k := 36) inX12 (xE_12 c_11) rfl (by decide) wd_646 (Or.inl rfl) rfl dX12_needSign_17 ?_
          rcases x_bind_e h with ⟨v_12, σ_13, h_14, h⟩ | ⟨E_15, σ_13, h_14, h⟩
          · have z9 := x_call (M := mX12_needSign) (M' := mX12_fail) (pc := 20) (st := [.int (σ_7.I 1136 a0), va_rf (some a0)]) (rest := []) (av := [va_rf (some a0), .int (σ_7.I 1136 a0)]) (x_linkV (M := mX12_needSign) (M' := mX12_fail) (As := [.int (σ_7.I 1136 a0)]) (index := 150) (C := RX12) (T := TX12) (xE_12 c_11) rfl wd_657 wd_658 (wG_in (List.mem_append_left _ (List.mem_of_getElem? (i := 39) rfl)) rfl) xw_X12_fail rfl (by decide) rfl rfl dX12_needSign_20) (ev_X12_fail hO hP h_14) xw_X12_fail rfl wd_198 dX12_needSign_20 (by decide) (by decide) (by simp [x_cat, x_catI, x_catJ])
            refine x_callR z9 ?_
            refine ev_at (st' := []) rfl rfl ?_
            exact ev_sub [0] rfl (ev_X12_needSign_p23 hO hP h)
          · have z9 := x_call (M := mX12_needSign) (M' := mX12_fail) (pc := 20) (st := [.int (σ_7.I 1136 a0), va_rf (some a0)]) (rest := []) (av := [va_rf (some a0), .int (σ_7.I 1136 a0)]) (x_linkV (M := mX12_needSign) (M' := mX12_fail) (As := [.int (σ_7.I 1136 a0)]) (index := 150) (C := RX12) (T := TX12) (xE_12 c_11) rfl wd_657 wd_658 (wG_in (List.mem_append_left _ (List.mem_of_getElem? (i := 39) rfl)) rfl) xw_X12_fail rfl (by decide) rfl rfl dX12_needSign_20) (ev_X12_fail hO hP h_14) xw_X12_fail rfl wd_198 dX12_needSign_20 (by decide) (by decide) (by simp [x_cat, x_catI, x_catJ])
            cases h
            exact x_callX z9 (evX_out rfl)
        · rw [if_neg c_10] at h
          refine ev_if_ne (x := v_6) (tgt := 23) dX12_needSign_12 (by decide) (fun _ => ?_) (fun q9 => absurd q9 c_10)
          exact ev_sub [0] rfl (ev_X12_needSign_p23 hO hP h)
      · have z9 := x_call (M := mX12_needSign) (M' := mX12_isSign) (pc := 9) (st := [.int v1, va_rf (some a0)]) (rest := []) (av := [va_rf (some a0), .int v1]) (x_linkV (M := mX12_needSign) (M' := mX12_isSign) (As := [.int v1]) (index := 166) (C := RX12) (T := TX12) (xE_12 c_9) rfl wd_682 wd_683 (wG_in (List.mem_append_left _ (List.mem_of_getElem? (i := 50) rfl)) rfl) xw_X12_isSign rfl (by decide) rfl rfl dX12_needSign_9) (ev_X12_isSign hO hP h_8) xw_X12_isSign rfl wd_198 dX12_needSign_9 (by decide) (by decide) (by simp [x_cat, x_catI, x_catJ])
        cases h
        exact x_callX z9 (evX_out rfl)
  · have z9 := x_call (M := mX12_needSign) (M' := mX12_ok) (pc := 1) (st := [va_rf (some a0)]) (rest := []) (av := [va_rf (some a0)]) (x_linkV (M := mX12_needSign) (M' := mX12_ok) (As := []) (index := 121) (C := RX12) (T := TX12) (xE_12 c_4) rfl wd_640 wd_641 (wG_in (List.mem_append_left _ (List.mem_of_getElem? (i := 37) rfl)) rfl) xw_X12_ok rfl (by decide) rfl rfl dX12_needSign_1) (ev_X12_ok hO hP h_3) xw_X12_ok rfl wd_198 dX12_needSign_1 (by decide) (by decide) (by simp [x_cat, x_catI, x_catJ])
    cases h
    exact x_callX z9 (evX_out rfl)
set_option maxHeartbeats 4000000 in
set_option maxRecDepth 100000 in
theorem ev_X12_netCell {l : Launch} {G : xG} (hO : x_OK l G) {P : xP} (hP : x_PG P G) {a0 : Nat} {v1 : Int32} {σ σ' : xS} {rr : Int32 ⊕ String} (h : dm_X12_netCell P a0 v1 σ = some (rr, σ')) : EvM l G mX12_netCell [va_rf (some a0), .int v1] σ (xrI rr) σ' := by
  unfold dm_X12_netCell at h
  refine evM_of hO (by decide +kernel) (x_lenI (by simp [x_cat, x_catI, x_catJ, mX12_netCell, xM.maxL])) ?_
  refine Eq.mp (congrArg (fun z => Ev l G mX12_netCell 0 z [] σ (xrI rr) σ') (show [(0, va_rf (some a0)), (1, .int v1)] = lv_args 0 [va_rf (some a0), .int v1] by simp [lv_args, x_cat, x_catI, x_catJ])) ?_
  refine ev_bipush (v := 16) dX12_netCell_0 (by decide) ?_
  refine ev_aload_n (j := 0) (x := (some a0)) dX12_netCell_2 rfl rfl ?_
  obtain ⟨c_4, h⟩ := x_chk_e h
  rcases x_bind_e h with ⟨v_1, σ_2, h_3, h⟩ | ⟨E_5, σ_2, h_3, h⟩
  · have z9 := x_call (M := mX12_netCell) (M' := mX12_mod) (pc := 3) (st := [va_rf (some a0), .int 16]) (rest := [.int 16]) (av := [va_rf (some a0)]) (x_linkV (M := mX12_netCell) (M' := mX12_mod) (As := []) (index := 175) (C := RX12) (T := TX12) (xE_12 c_4) rfl wd_676 wd_677 (wG_in (List.mem_append_left _ (List.mem_of_getElem? (i := 48) rfl)) rfl) xw_X12_mod rfl (by decide) rfl rfl dX12_netCell_3) (ev_X12_mod hO hP h_3) xw_X12_mod rfl wd_198 dX12_netCell_3 (by decide) (by decide) (by simp [x_cat, x_catI, x_catJ])
    refine x_callR z9 ?_
    refine ev_at (st' := [.int v_1, .int 16]) rfl rfl ?_
    refine ev_imul (x := 16) (y := v_1) dX12_netCell_6 ?_
    refine ev_iload_n (j := 1) (x := v1) dX12_netCell_7 rfl rfl ?_
    refine ev_iadd (x := (16 * v_1)) (y := v1) dX12_netCell_8 ?_
    cases h
    exact ev_iret rfl rfl dX12_netCell_9
  · have z9 := x_call (M := mX12_netCell) (M' := mX12_mod) (pc := 3) (st := [va_rf (some a0), .int 16]) (rest := [.int 16]) (av := [va_rf (some a0)]) (x_linkV (M := mX12_netCell) (M' := mX12_mod) (As := []) (index := 175) (C := RX12) (T := TX12) (xE_12 c_4) rfl wd_676 wd_677 (wG_in (List.mem_append_left _ (List.mem_of_getElem? (i := 48) rfl)) rfl) xw_X12_mod rfl (by decide) rfl rfl dX12_netCell_3) (ev_X12_mod hO hP h_3) xw_X12_mod rfl wd_198 dX12_netCell_3 (by decide) (by decide) (by simp [x_cat, x_catI, x_catJ])
    cases h
    exact x_callX z9 (evX_out rfl)
set_option maxHeartbeats 4000000 in
set_option maxRecDepth 100000 in
theorem ev_X12_netNamed_p40 {l : Launch} {G : xG} (hO : x_OK l G) {P : xP} (hP : x_PG P G) {a0 : Nat} {k4 : Int32 → Int32 → Int32 → xS → xO Int32} (hk4 : ∀ {v1 : Int32} {v2 : Int32} {v3 : Int32} {σ σ' : xS} {rr : Int32 ⊕ String}, k4 v1 v2 v3 σ = some (rr, σ') → Ev l G mX12_netNamed 4 [(0, va_rf (some a0)), (1, .int v1), (2, .int v2), (3, .int v3)] [] σ (xrI rr) σ') {v1 : Int32} {v3 : Int32} {s0 : Int32} {σ σ' : xS} {rr : Int32 ⊕ String} (h : dm_X12_netNamed_p40 P k4 a0 v1 v3 s0 σ = some (rr, σ')) : Ev l G mX12_netNamed 40 [(0, va_rf (some a0)), (1, .int v1), (3, .int v3)] [.int s0] σ (xrI rr) σ' := by
  unfold dm_X12_netNamed_p40 at h
  refine ev_istore_n (i := 2) (lv' := [(2, .int s0), (0, va_rf (some a0)), (1, .int v1), (3, .int v3)]) dX12_netNamed_40 rfl (by decide) rfl ?_
  obtain ⟨v_1, ev_1, h⟩ := x_let_e h
  refine ev_iinc (j := 3) (x := v3) (v := v_1) (lv' := [(3, .int v_1), (2, .int s0), (0, va_rf (some a0)), (1, .int v1)]) dX12_netNamed_41 rfl (by rw [ev_1]; rfl) (by decide) rfl ?_
  refine ev_goto (tgt := 4) dX12_netNamed_44 (by decide) ?_
  exact ev_sub [2, 3, 1, 0] rfl (hk4 h)
set_option maxHeartbeats 4000000 in
set_option maxRecDepth 100000 in
theorem ev_X12_netNamed_L4 {l : Launch} {G : xG} (hO : x_OK l G) {P : xP} (hP : x_PG P G) {a0 : Nat} : ∀ (n : Nat) {v1 : Int32} {v2 : Int32} {v3 : Int32} {σ σ' : xS} {rr : Int32 ⊕ String}, dm_X12_netNamed_L4 P a0 n v1 v2 v3 σ = some (rr, σ') → Ev l G mX12_netNamed 4 [(0, va_rf (some a0)), (1, .int v1), (2, .int v2), (3, .int v3)] [] σ (xrI rr) σ' := by
  intro n
  induction n with
  | zero => intro v1 v2 v3 σ σ' rr h; cases h
  | succ n ih =>
    intro v1 v2 v3 σ σ' rr h
    rw [dm_X12_netNamed_L4] at h
    refine ev_iload_n (j := 3) (x := v3) dX12_netNamed_4 rfl rfl ?_
    refine ev_aload_n (j := 0) (x := (some a0)) dX12_netNamed_5 rfl rfl ?_
    obtain ⟨c_1, h⟩ := x_chk_e h
    refine ev_get (C := RX12) (T := TX12) (k := 9) inX12 (xE_12 c_1) rfl (by decide) wd_156 (Or.inl rfl) rfl dX12_netNamed_6 ?_
    refine ev_aload_n (j := 0) (x := (some a0)) dX12_netNamed_9 rfl rfl ?_
    rcases x_bind_e h with ⟨v_2, σ_3, h_4, h⟩ | ⟨E_21, σ_3, h_4, h⟩
    · have z9 := x_call (M := mX12_netNamed) (M' := mX12_mod) (pc := 10) (st := [va_rf (some a0), va_rf (σ.R 1109 a0), .int v3]) (rest := [va_rf (σ.R 1109 a0), .int v3]) (av := [va_rf (some a0)]) (x_linkV (M := mX12_netNamed) (M' := mX12_mod) (As := []) (index := 175) (C := RX12) (T := TX12) (xE_12 c_1) rfl wd_676 wd_677 (wG_in (List.mem_append_left _ (List.mem_of_getElem? (i := 48) rfl)) rfl) xw_X12_mod rfl (by decide) rfl rfl dX12_netNamed_10) (ev_X12_mod hO hP h_4) xw_X12_mod rfl wd_198 dX12_netNamed_10 (by decide) (by decide) (by simp [x_cat, x_catI, x_catJ])
      refine x_callR z9 ?_
      refine ev_at (st' := [.int v_2, va_rf (σ.R 1109 a0), .int v3]) rfl rfl ?_
      obtain ⟨a_5, ea_5, h⟩ := x_some_e h
      refine ev_at (st' := [.int v_2, va_rf (some a_5), .int v3]) rfl (by rw [ea_5]) ?_
      obtain ⟨c_6, h⟩ := x_chk_e h
      refine ev_iald_31 c_6.1 c_6.2 dX12_netNamed_13 ?_
      by_cases c_7 : (σ_3.AI a_5 (Int32.toNatClampNeg v_2)) ≤ v3
      · rw [if_pos c_7] at h
        refine ev_icmp_ge (x := v3) (y := (σ_3.AI a_5 (Int32.toNatClampNeg v_2))) (tgt := 47) dX12_netNamed_14 (by decide) (fun _ => ?_) (fun q9 => absurd c_7 q9)
        refine ev_iload_n (j := 2) (x := v2) dX12_netNamed_47 rfl rfl ?_
        cases h
        exact ev_iret rfl rfl dX12_netNamed_48
      · rw [if_neg c_7] at h
        refine ev_icmp_ge (x := v3) (y := (σ_3.AI a_5 (Int32.toNatClampNeg v_2))) (tgt := 47) dX12_netNamed_14 (by decide) (fun q9 => absurd q9 c_7) (fun _ => ?_)
        refine ev_aload_n (j := 0) (x := (some a0)) dX12_netNamed_17 rfl rfl ?_
        refine ev_aload_n (j := 0) (x := (some a0)) dX12_netNamed_18 rfl rfl ?_
        obtain ⟨c_8, h⟩ := x_chk_e h
        refine ev_get (C := RX12) (T := TX12) (k := 10) inX12 (xE_12 c_8) rfl (by decide) wd_157 (Or.inl rfl) rfl dX12_netNamed_19 ?_
        refine ev_aload_n (j := 0) (x := (some a0)) dX12_netNamed_22 rfl rfl ?_
        refine ev_iload_n (j := 3) (x := v3) dX12_netNamed_23 rfl rfl ?_
        rcases x_bind_e h with ⟨v_9, σ_10, h_11, h⟩ | ⟨E_20, σ_10, h_11, h⟩
        · have z9 := x_call (M := mX12_netNamed) (M' := mX12_netCell) (pc := 24) (st := [.int v3, va_rf (some a0), va_rf (σ_3.R 1110 a0), va_rf (some a0)]) (rest := [va_rf (σ_3.R 1110 a0), va_rf (some a0)]) (av := [va_rf (some a0), .int v3]) (x_linkV (M := mX12_netNamed) (M' := mX12_netCell) (As := [.int v3]) (index := 178) (C := RX12) (T := TX12) (xE_12 c_8) rfl wd_685 wd_686 (wG_in (List.mem_append_left _ (List.mem_of_getElem? (i := 53) rfl)) rfl) xw_X12_netCell rfl (by decide) rfl rfl dX12_netNamed_24) (ev_X12_netCell hO hP h_11) xw_X12_netCell rfl wd_198 dX12_netNamed_24 (by decide) (by decide) (by simp [x_cat, x_catI, x_catJ])
          refine x_callR z9 ?_
          refine ev_at (st' := [.int v_9, va_rf (σ_3.R 1110 a0), va_rf (some a0)]) rfl rfl ?_
          obtain ⟨a_12, ea_12, h⟩ := x_some_e h
          refine ev_at (st' := [.int v_9, va_rf (some a_12), va_rf (some a0)]) rfl (by rw [ea_12]) ?_
          obtain ⟨c_13, h⟩ := x_chk_e h
          refine ev_iald_31 c_13.1 c_13.2 dX12_netNamed_27 ?_
          refine ev_iload_n (j := 1) (x := v1) dX12_netNamed_28 rfl rfl ?_
          obtain ⟨c_17, h⟩ := x_chk_e h
          rcases x_bind_e h with ⟨v_14, σ_15, h_16, h⟩ | ⟨E_19, σ_15, h_16, h⟩
          · have z9 := x_call (M := mX12_netNamed) (M' := mX12_areSame) (pc := 29) (st := [.int v1, .int (σ_10.AI a_12 (Int32.toNatClampNeg v_9)), va_rf (some a0)]) (rest := []) (av := [va_rf (some a0), .int (σ_10.AI a_12 (Int32.toNatClampNeg v_9)), .int v1]) (x_linkV (M := mX12_netNamed) (M' := mX12_areSame) (As := [.int (σ_10.AI a_12 (Int32.toNatClampNeg v_9)), .int v1]) (index := 181) (C := RX12) (T := TX12) (xE_12 c_17) rfl wd_673 wd_674 (wG_in (List.mem_append_left _ (List.mem_of_getElem? (i := 46) rfl)) rfl) xw_X12_areSame rfl (by decide) rfl rfl dX12_netNamed_29) (ev_X12_areSame hO hP h_16) xw_X12_areSame rfl wd_198 dX12_netNamed_29 (by decide) (by decide) (by simp [x_cat, x_catI, x_catJ])
            refine x_callR z9 ?_
            refine ev_at (st' := [.int v_14]) rfl rfl ?_
            by_cases c_18 : v_14 = 0
            · rw [if_pos c_18] at h
              refine ev_if_eq (x := v_14) (tgt := 39) dX12_netNamed_32 (by decide) (fun _ => ?_) (fun q9 => absurd c_18 q9)
              refine ev_iload_n (j := 2) (x := v2) dX12_netNamed_39 rfl rfl ?_
              exact ev_sub [0, 1, 3] rfl (ev_X12_netNamed_p40 hO hP ih h)
            · rw [if_neg c_18] at h
              refine ev_if_eq (x := v_14) (tgt := 39) dX12_netNamed_32 (by decide) (fun q9 => absurd q9 c_18) (fun _ => ?_)
              refine ev_iload_n (j := 3) (x := v3) dX12_netNamed_35 rfl rfl ?_
              refine ev_goto (tgt := 40) dX12_netNamed_36 (by decide) ?_
              exact ev_sub [0, 1, 3] rfl (ev_X12_netNamed_p40 hO hP ih h)
          · have z9 := x_call (M := mX12_netNamed) (M' := mX12_areSame) (pc := 29) (st := [.int v1, .int (σ_10.AI a_12 (Int32.toNatClampNeg v_9)), va_rf (some a0)]) (rest := []) (av := [va_rf (some a0), .int (σ_10.AI a_12 (Int32.toNatClampNeg v_9)), .int v1]) (x_linkV (M := mX12_netNamed) (M' := mX12_areSame) (As := [.int (σ_10.AI a_12 (Int32.toNatClampNeg v_9)), .int v1]) (index := 181) (C := RX12) (T := TX12) (xE_12 c_17) rfl wd_673 wd_674 (wG_in (List.mem_append_left _ (List.mem_of_getElem? (i := 46) rfl)) rfl) xw_X12_areSame rfl (by decide) rfl rfl dX12_netNamed_29) (ev_X12_areSame hO hP h_16) xw_X12_areSame rfl wd_198 dX12_netNamed_29 (by decide) (by decide) (by simp [x_cat, x_catI, x_catJ])
            cases h
            exact x_callX z9 (evX_out rfl)
        · have z9 := x_call (M := mX12_netNamed) (M' := mX12_netCell) (pc := 24) (st := [.int v3, va_rf (some a0), va_rf (σ_3.R 1110 a0), va_rf (some a0)]) (rest := [va_rf (σ_3.R 1110 a0), va_rf (some a0)]) (av := [va_rf (some a0), .int v3]) (x_linkV (M := mX12_netNamed) (M' := mX12_netCell) (As := [.int v3]) (index := 178) (C := RX12) (T := TX12) (xE_12 c_8) rfl wd_685 wd_686 (wG_in (List.mem_append_left _ (List.mem_of_getElem? (i := 53) rfl)) rfl) xw_X12_netCell rfl (by decide) rfl rfl dX12_netNamed_24) (ev_X12_netCell hO hP h_11) xw_X12_netCell rfl wd_198 dX12_netNamed_24 (by decide) (by decide) (by simp [x_cat, x_catI, x_catJ])
          cases h
          exact x_callX z9 (evX_out rfl)
    · have z9 := x_call (M := mX12_netNamed) (M' := mX12_mod) (pc := 10) (st := [va_rf (some a0), va_rf (σ.R 1109 a0), .int v3]) (rest := [va_rf (σ.R 1109 a0), .int v3]) (av := [va_rf (some a0)]) (x_linkV (M := mX12_netNamed) (M' := mX12_mod) (As := []) (index := 175) (C := RX12) (T := TX12) (xE_12 c_1) rfl wd_676 wd_677 (wG_in (List.mem_append_left _ (List.mem_of_getElem? (i := 48) rfl)) rfl) xw_X12_mod rfl (by decide) rfl rfl dX12_netNamed_10) (ev_X12_mod hO hP h_4) xw_X12_mod rfl wd_198 dX12_netNamed_10 (by decide) (by decide) (by simp [x_cat, x_catI, x_catJ])
      cases h
      exact x_callX z9 (evX_out rfl)
set_option maxHeartbeats 4000000 in
set_option maxRecDepth 100000 in
theorem ev_X12_netNamed {l : Launch} {G : xG} (hO : x_OK l G) {P : xP} (hP : x_PG P G) {a0 : Nat} {v1 : Int32} {σ σ' : xS} {rr : Int32 ⊕ String} (h : dm_X12_netNamed P a0 v1 σ = some (rr, σ')) : EvM l G mX12_netNamed [va_rf (some a0), .int v1] σ (xrI rr) σ' := by
  unfold dm_X12_netNamed at h
  refine evM_of hO (by decide +kernel) (x_lenI (by simp [x_cat, x_catI, x_catJ, mX12_netNamed, xM.maxL])) ?_
  refine Eq.mp (congrArg (fun z => Ev l G mX12_netNamed 0 z [] σ (xrI rr) σ') (show [(0, va_rf (some a0)), (1, .int v1)] = lv_args 0 [va_rf (some a0), .int v1] by simp [lv_args, x_cat, x_catI, x_catJ])) ?_
  refine ev_iconst (v := -1) dX12_netNamed_0 (by decide) ?_
  refine ev_istore_n (i := 2) (lv' := [(2, .int (-1)), (0, va_rf (some a0)), (1, .int v1)]) dX12_netNamed_1 rfl (by decide) rfl ?_
  refine ev_iconst (v := 0) dX12_netNamed_2 (by decide) ?_
  refine ev_istore_n (i := 3) (lv' := [(3, .int 0), (2, .int (-1)), (0, va_rf (some a0)), (1, .int v1)]) dX12_netNamed_3 rfl (by decide) rfl ?_
  exact ev_sub [2, 3, 1, 0] rfl (ev_X12_netNamed_L4 hO hP P.N h)
set_option maxHeartbeats 4000000 in
set_option maxRecDepth 100000 in
theorem ev_X12_addNet {l : Launch} {G : xG} (hO : x_OK l G) {P : xP} (hP : x_PG P G) {a0 : Nat} {v1 : Int32} {v2 : Int32} {v3 : Int32} {σ σ' : xS} {rr : Unit ⊕ String} (h : dm_X12_addNet P a0 v1 v2 v3 σ = some (rr, σ')) : EvM l G mX12_addNet [va_rf (some a0), .int v1, .int v2, .int v3] σ (xrV rr) σ' := by
  unfold dm_X12_addNet at h
  refine evM_of hO (by decide +kernel) (x_lenI (by simp [x_cat, x_catI, x_catJ, mX12_addNet, xM.maxL])) ?_
  refine Eq.mp (congrArg (fun z => Ev l G mX12_addNet 0 z [] σ (xrV rr) σ') (show [(0, va_rf (some a0)), (1, .int v1), (2, .int v2), (3, .int v3)] = lv_args 0 [va_rf (some a0), .int v1, .int v2, .int v3] by simp [lv_args, x_cat, x_catI, x_catJ])) ?_
  refine ev_aload_n (j := 0) (x := (some a0)) dX12_addNet_0 rfl rfl ?_
  obtain ⟨c_1, h⟩ := x_chk_e h
  refine ev_get (C := RX12) (T := TX12) (k := 9) inX12 (xE_12 c_1) rfl (by decide) wd_156 (Or.inl rfl) rfl dX12_addNet_1 ?_
  refine ev_aload_n (j := 0) (x := (some a0)) dX12_addNet_4 rfl rfl ?_
  rcases x_bind_e h with ⟨v_2, σ_3, h_4, h⟩ | ⟨E_50, σ_3, h_4, h⟩
  · have z9 := x_call (M := mX12_addNet) (M' := mX12_mod) (pc := 5) (st := [va_rf (some a0), va_rf (σ.R 1109 a0)]) (rest := [va_rf (σ.R 1109 a0)]) (av := [va_rf (some a0)]) (x_linkV (M := mX12_addNet) (M' := mX12_mod) (As := []) (index := 175) (C := RX12) (T := TX12) (xE_12 c_1) rfl wd_676 wd_677 (wG_in (List.mem_append_left _ (List.mem_of_getElem? (i := 48) rfl)) rfl) xw_X12_mod rfl (by decide) rfl rfl dX12_addNet_5) (ev_X12_mod hO hP h_4) xw_X12_mod rfl wd_198 dX12_addNet_5 (by decide) (by decide) (by simp [x_cat, x_catI, x_catJ])
    refine x_callR z9 ?_
    refine ev_at (st' := [.int v_2, va_rf (σ.R 1109 a0)]) rfl rfl ?_
    obtain ⟨a_5, ea_5, h⟩ := x_some_e h
    refine ev_at (st' := [.int v_2, va_rf (some a_5)]) rfl (by rw [ea_5]) ?_
    obtain ⟨c_6, h⟩ := x_chk_e h
    refine ev_iald_31 c_6.1 c_6.2 dX12_addNet_8 ?_
    obtain ⟨v_7, ev_7, h⟩ := x_let_e h
    rw [← ev_7]
    refine ev_istore (i := 4) (lv' := [(4, .int v_7), (0, va_rf (some a0)), (1, .int v1), (2, .int v2), (3, .int v3)]) dX12_addNet_9 (by decide) rfl ?_
    refine ev_aload_n (j := 1) (x := (some a0)) dX12_addNet_11 rfl rfl ?_
    obtain ⟨c_8, h⟩ := x_chk_e h
    refine ev_get (C := RX12) (T := TX12) (k := 10) inX12 (xE_12 c_8) rfl (by decide) wd_157 (Or.inl rfl) rfl dX12_addNet_12 ?_
    refine ev_aload_n (j := 1) (x := (some a0)) dX12_addNet_15 rfl rfl ?_
    refine ev_iload (j := 0) (x := v_7) dX12_addNet_16 rfl ?_
    rcases x_bind_e h with ⟨v_9, σ_10, h_11, h⟩ | ⟨E_49, σ_10, h_11, h⟩
    · have z9 := x_call (M := mX12_addNet) (M' := mX12_netCell) (pc := 18) (st := [.int v_7, va_rf (some a0), va_rf (σ_3.R 1110 a0)]) (rest := [va_rf (σ_3.R 1110 a0)]) (av := [va_rf (some a0), .int v_7]) (x_linkV (M := mX12_addNet) (M' := mX12_netCell) (As := [.int v_7]) (index := 178) (C := RX12) (T := TX12) (xE_12 c_8) rfl wd_685 wd_686 (wG_in (List.mem_append_left _ (List.mem_of_getElem? (i := 53) rfl)) rfl) xw_X12_netCell rfl (by decide) rfl rfl dX12_addNet_18) (ev_X12_netCell hO hP h_11) xw_X12_netCell rfl wd_198 dX12_addNet_18 (by decide) (by decide) (by simp [x_cat, x_catI, x_catJ])
      refine x_callR z9 ?_
      refine ev_at (st' := [.int v_9, va_rf (σ_3.R 1110 a0)]) rfl rfl ?_
      refine ev_aload_n (j := 1) (x := (some a0)) dX12_addNet_21 rfl rfl ?_
      obtain ⟨c_12, h⟩ := x_chk_e h
      refine ev_get (C := RX12) (T := TX12) (k := 36) inX12 (xE_12 c_12) rfl (by decide) wd_646 (Or.inl rfl) rfl dX12_addNet_22 ?_
      obtain ⟨a_13, ea_13, h⟩ := x_some_e h
      refine ev_at (st' := [.int (σ_10.I 1136 a0), .int v_9, va_rf (some a_13)]) rfl (by rw [ea_13]) ?_
      obtain ⟨c_14, h⟩ := x_chk_e h
      obtain ⟨σ_15, eσ_15, h⟩ := x_let_e h
      refine ev_iast_31 c_14.1 c_14.2.1 (hP.2.2.2.1 ▸ c_14.2.2) dX12_addNet_25 (eσ_15 ▸ ?_)
      refine ev_aload_n (j := 1) (x := (some a0)) dX12_addNet_26 rfl rfl ?_
      obtain ⟨c_16, h⟩ := x_chk_e h
      refine ev_get (C := RX12) (T := TX12) (k := 11) inX12 (xE_12 c_16) rfl (by decide) wd_158 (Or.inl rfl) rfl dX12_addNet_27 ?_
      refine ev_aload_n (j := 1) (x := (some a0)) dX12_addNet_30 rfl rfl ?_
      refine ev_iload (j := 0) (x := v_7) dX12_addNet_31 rfl ?_
      rcases x_bind_e h with ⟨v_17, σ_18, h_19, h⟩ | ⟨E_48, σ_18, h_19, h⟩
      · have z9 := x_call (M := mX12_addNet) (M' := mX12_netCell) (pc := 33) (st := [.int v_7, va_rf (some a0), va_rf (σ_15.R 1111 a0)]) (rest := [va_rf (σ_15.R 1111 a0)]) (av := [va_rf (some a0), .int v_7]) (x_linkV (M := mX12_addNet) (M' := mX12_netCell) (As := [.int v_7]) (index := 178) (C := RX12) (T := TX12) (xE_12 c_16) rfl wd_685 wd_686 (wG_in (List.mem_append_left _ (List.mem_of_getElem? (i := 53) rfl)) rfl) xw_X12_netCell rfl (by decide) rfl rfl dX12_addNet_33) (ev_X12_netCell hO hP h_19) xw_X12_netCell rfl wd_198 dX12_addNet_33 (by decide) (by decide) (by simp [x_cat, x_catI, x_catJ])
        refine x_callR z9 ?_
        refine ev_at (st' := [.int v_17, va_rf (σ_15.R 1111 a0)]) rfl rfl ?_
        refine ev_iload_n (j := 2) (x := v1) dX12_addNet_36 rfl rfl ?_
        obtain ⟨a_20, ea_20, h⟩ := x_some_e h
        refine ev_at (st' := [.int v1, .int v_17, va_rf (some a_20)]) rfl (by rw [ea_20]) ?_
        obtain ⟨c_21, h⟩ := x_chk_e h
        obtain ⟨σ_22, eσ_22, h⟩ := x_let_e h
        refine ev_iast_31 c_21.1 c_21.2.1 (hP.2.2.2.1 ▸ c_21.2.2) dX12_addNet_37 (eσ_22 ▸ ?_)
        refine ev_aload_n (j := 1) (x := (some a0)) dX12_addNet_38 rfl rfl ?_
        obtain ⟨c_23, h⟩ := x_chk_e h
        refine ev_get (C := RX12) (T := TX12) (k := 12) inX12 (xE_12 c_23) rfl (by decide) wd_159 (Or.inl rfl) rfl dX12_addNet_39 ?_
        refine ev_aload_n (j := 1) (x := (some a0)) dX12_addNet_42 rfl rfl ?_
        refine ev_iload (j := 0) (x := v_7) dX12_addNet_43 rfl ?_
        rcases x_bind_e h with ⟨v_24, σ_25, h_26, h⟩ | ⟨E_47, σ_25, h_26, h⟩
        · have z9 := x_call (M := mX12_addNet) (M' := mX12_netCell) (pc := 45) (st := [.int v_7, va_rf (some a0), va_rf (σ_22.R 1112 a0)]) (rest := [va_rf (σ_22.R 1112 a0)]) (av := [va_rf (some a0), .int v_7]) (x_linkV (M := mX12_addNet) (M' := mX12_netCell) (As := [.int v_7]) (index := 178) (C := RX12) (T := TX12) (xE_12 c_23) rfl wd_685 wd_686 (wG_in (List.mem_append_left _ (List.mem_of_getElem? (i := 53) rfl)) rfl) xw_X12_netCell rfl (by decide) rfl rfl dX12_addNet_45) (ev_X12_netCell hO hP h_26) xw_X12_netCell rfl wd_198 dX12_addNet_45 (by decide) (by decide) (by simp [x_cat, x_catI, x_catJ])
          refine x_callR z9 ?_
          refine ev_at (st' := [.int v_24, va_rf (σ_22.R 1112 a0)]) rfl rfl ?_
          refine ev_iload_n (j := 3) (x := v2) dX12_addNet_48 rfl rfl ?_
          obtain ⟨a_27, ea_27, h⟩ := x_some_e h
          refine ev_at (st' := [.int v2, .int v_24, va_rf (some a_27)]) rfl (by rw [ea_27]) ?_
          obtain ⟨c_28, h⟩ := x_chk_e h
          obtain ⟨σ_29, eσ_29, h⟩ := x_let_e h
          refine ev_iast_31 c_28.1 c_28.2.1 (hP.2.2.2.1 ▸ c_28.2.2) dX12_addNet_49 (eσ_29 ▸ ?_)
          refine ev_aload_n (j := 1) (x := (some a0)) dX12_addNet_50 rfl rfl ?_
          obtain ⟨c_30, h⟩ := x_chk_e h
          refine ev_get (C := RX12) (T := TX12) (k := 14) inX12 (xE_12 c_30) rfl (by decide) wd_162 (Or.inl rfl) rfl dX12_addNet_51 ?_
          refine ev_aload_n (j := 1) (x := (some a0)) dX12_addNet_54 rfl rfl ?_
          refine ev_iload (j := 0) (x := v_7) dX12_addNet_55 rfl ?_
          rcases x_bind_e h with ⟨v_31, σ_32, h_33, h⟩ | ⟨E_46, σ_32, h_33, h⟩
          · have z9 := x_call (M := mX12_addNet) (M' := mX12_netCell) (pc := 57) (st := [.int v_7, va_rf (some a0), va_rf (σ_29.R 1114 a0)]) (rest := [va_rf (σ_29.R 1114 a0)]) (av := [va_rf (some a0), .int v_7]) (x_linkV (M := mX12_addNet) (M' := mX12_netCell) (As := [.int v_7]) (index := 178) (C := RX12) (T := TX12) (xE_12 c_30) rfl wd_685 wd_686 (wG_in (List.mem_append_left _ (List.mem_of_getElem? (i := 53) rfl)) rfl) xw_X12_netCell rfl (by decide) rfl rfl dX12_addNet_57) (ev_X12_netCell hO hP h_33) xw_X12_netCell rfl wd_198 dX12_addNet_57 (by decide) (by decide) (by simp [x_cat, x_catI, x_catJ])
            refine x_callR z9 ?_
            refine ev_at (st' := [.int v_31, va_rf (σ_29.R 1114 a0)]) rfl rfl ?_
            refine ev_iload_n (j := 4) (x := v3) dX12_addNet_60 rfl rfl ?_
            obtain ⟨a_34, ea_34, h⟩ := x_some_e h
            refine ev_at (st' := [.int v3, .int v_31, va_rf (some a_34)]) rfl (by rw [ea_34]) ?_
            obtain ⟨c_35, h⟩ := x_chk_e h
            obtain ⟨σ_36, eσ_36, h⟩ := x_let_e h
            refine ev_zast_33 c_35.1 c_35.2.1 (hP.2.2.2.1 ▸ c_35.2.2.1) (x_boolN c_35.2.2.2) dX12_addNet_61 (eσ_36 ▸ ?_)
            refine ev_aload_n (j := 1) (x := (some a0)) dX12_addNet_62 rfl rfl ?_
            obtain ⟨c_37, h⟩ := x_chk_e h
            refine ev_get (C := RX12) (T := TX12) (k := 9) inX12 (xE_12 c_37) rfl (by decide) wd_156 (Or.inl rfl) rfl dX12_addNet_63 ?_
            refine ev_aload_n (j := 1) (x := (some a0)) dX12_addNet_66 rfl rfl ?_
            rcases x_bind_e h with ⟨v_38, σ_39, h_40, h⟩ | ⟨E_45, σ_39, h_40, h⟩
            · have z9 := x_call (M := mX12_addNet) (M' := mX12_mod) (pc := 67) (st := [va_rf (some a0), va_rf (σ_36.R 1109 a0)]) (rest := [va_rf (σ_36.R 1109 a0)]) (av := [va_rf (some a0)]) (x_linkV (M := mX12_addNet) (M' := mX12_mod) (As := []) (index := 175) (C := RX12) (T := TX12) (xE_12 c_37) rfl wd_676 wd_677 (wG_in (List.mem_append_left _ (List.mem_of_getElem? (i := 48) rfl)) rfl) xw_X12_mod rfl (by decide) rfl rfl dX12_addNet_67) (ev_X12_mod hO hP h_40) xw_X12_mod rfl wd_198 dX12_addNet_67 (by decide) (by decide) (by simp [x_cat, x_catI, x_catJ])
              refine x_callR z9 ?_
              refine ev_at (st' := [.int v_38, va_rf (σ_36.R 1109 a0)]) rfl rfl ?_
              refine ev_dup2_11 dX12_addNet_70 rfl (x_cat _) ?_
              obtain ⟨a_41, ea_41, h⟩ := x_some_e h
              refine ev_at (st' := [.int v_38, va_rf (some a_41), .int v_38, va_rf (σ_36.R 1109 a0)]) rfl (by rw [ea_41]) ?_
              obtain ⟨c_42, h⟩ := x_chk_e h
              refine ev_iald_31 c_42.1 c_42.2 dX12_addNet_71 ?_
              refine ev_iconst (v := 1) dX12_addNet_72 (by decide) ?_
              refine ev_iadd (x := (σ_39.AI a_41 (Int32.toNatClampNeg v_38))) (y := 1) dX12_addNet_73 ?_
              refine ev_at (st' := [.int ((σ_39.AI a_41 (Int32.toNatClampNeg v_38)) + 1), .int v_38, va_rf (some a_41)]) rfl (by rw [ea_41]) ?_
              obtain ⟨c_43, h⟩ := x_chk_e h
              obtain ⟨σ_44, eσ_44, h⟩ := x_let_e h
              refine ev_iast_31 c_43.1 c_43.2.1 (hP.2.2.2.1 ▸ c_43.2.2) dX12_addNet_74 (eσ_44 ▸ ?_)
              cases h
              exact ev_vret rfl dX12_addNet_75
            · have z9 := x_call (M := mX12_addNet) (M' := mX12_mod) (pc := 67) (st := [va_rf (some a0), va_rf (σ_36.R 1109 a0)]) (rest := [va_rf (σ_36.R 1109 a0)]) (av := [va_rf (some a0)]) (x_linkV (M := mX12_addNet) (M' := mX12_mod) (As := []) (index := 175) (C := RX12) (T := TX12) (xE_12 c_37) rfl wd_676 wd_677 (wG_in (List.mem_append_left _ (List.mem_of_getElem? (i := 48) rfl)) rfl) xw_X12_mod rfl (by decide) rfl rfl dX12_addNet_67) (ev_X12_mod hO hP h_40) xw_X12_mod rfl wd_198 dX12_addNet_67 (by decide) (by decide) (by simp [x_cat, x_catI, x_catJ])
              cases h
              exact x_callX z9 (evX_out rfl)
          · have z9 := x_call (M := mX12_addNet) (M' := mX12_netCell) (pc := 57) (st := [.int v_7, va_rf (some a0), va_rf (σ_29.R 1114 a0)]) (rest := [va_rf (σ_29.R 1114 a0)]) (av := [va_rf (some a0), .int v_7]) (x_linkV (M := mX12_addNet) (M' := mX12_netCell) (As := [.int v_7]) (index := 178) (C := RX12) (T := TX12) (xE_12 c_30) rfl wd_685 wd_686 (wG_in (List.mem_append_left _ (List.mem_of_getElem? (i := 53) rfl)) rfl) xw_X12_netCell rfl (by decide) rfl rfl dX12_addNet_57) (ev_X12_netCell hO hP h_33) xw_X12_netCell rfl wd_198 dX12_addNet_57 (by decide) (by decide) (by simp [x_cat, x_catI, x_catJ])
            cases h
            exact x_callX z9 (evX_out rfl)
        · have z9 := x_call (M := mX12_addNet) (M' := mX12_netCell) (pc := 45) (st := [.int v_7, va_rf (some a0), va_rf (σ_22.R 1112 a0)]) (rest := [va_rf (σ_22.R 1112 a0)]) (av := [va_rf (some a0), .int v_7]) (x_linkV (M := mX12_addNet) (M' := mX12_netCell) (As := [.int v_7]) (index := 178) (C := RX12) (T := TX12) (xE_12 c_23) rfl wd_685 wd_686 (wG_in (List.mem_append_left _ (List.mem_of_getElem? (i := 53) rfl)) rfl) xw_X12_netCell rfl (by decide) rfl rfl dX12_addNet_45) (ev_X12_netCell hO hP h_26) xw_X12_netCell rfl wd_198 dX12_addNet_45 (by decide) (by decide) (by simp [x_cat, x_catI, x_catJ])
          cases h
          exact x_callX z9 (evX_out rfl)
      · have z9 := x_call (M := mX12_addNet) (M' := mX12_netCell) (pc := 33) (st := [.int v_7, va_rf (some a0), va_rf (σ_15.R 1111 a0)]) (rest := [va_rf (σ_15.R 1111 a0)]) (av := [va_rf (some a0), .int v_7]) (x_linkV (M := mX12_addNet) (M' := mX12_netCell) (As := [.int v_7]) (index := 178) (C := RX12) (T := TX12) (xE_12 c_16) rfl wd_685 wd_686 (wG_in (List.mem_append_left _ (List.mem_of_getElem? (i := 53) rfl)) rfl) xw_X12_netCell rfl (by decide) rfl rfl dX12_addNet_33) (ev_X12_netCell hO hP h_19) xw_X12_netCell rfl wd_198 dX12_addNet_33 (by decide) (by decide) (by simp [x_cat, x_catI, x_catJ])
        cases h
        exact x_callX z9 (evX_out rfl)
    · have z9 := x_call (M := mX12_addNet) (M' := mX12_netCell) (pc := 18) (st := [.int v_7, va_rf (some a0), va_rf (σ_3.R 1110 a0)]) (rest := [va_rf (σ_3.R 1110 a0)]) (av := [va_rf (some a0), .int v_7]) (x_linkV (M := mX12_addNet) (M' := mX12_netCell) (As := [.int v_7]) (index := 178) (C := RX12) (T := TX12) (xE_12 c_8) rfl wd_685 wd_686 (wG_in (List.mem_append_left _ (List.mem_of_getElem? (i := 53) rfl)) rfl) xw_X12_netCell rfl (by decide) rfl rfl dX12_addNet_18) (ev_X12_netCell hO hP h_11) xw_X12_netCell rfl wd_198 dX12_addNet_18 (by decide) (by decide) (by simp [x_cat, x_catI, x_catJ])
      cases h
      exact x_callX z9 (evX_out rfl)
  · have z9 := x_call (M := mX12_addNet) (M' := mX12_mod) (pc := 5) (st := [va_rf (some a0), va_rf (σ.R 1109 a0)]) (rest := [va_rf (σ.R 1109 a0)]) (av := [va_rf (some a0)]) (x_linkV (M := mX12_addNet) (M' := mX12_mod) (As := []) (index := 175) (C := RX12) (T := TX12) (xE_12 c_1) rfl wd_676 wd_677 (wG_in (List.mem_append_left _ (List.mem_of_getElem? (i := 48) rfl)) rfl) xw_X12_mod rfl (by decide) rfl rfl dX12_addNet_5) (ev_X12_mod hO hP h_4) xw_X12_mod rfl wd_198 dX12_addNet_5 (by decide) (by decide) (by simp [x_cat, x_catI, x_catJ])
    cases h
    exact x_callX z9 (evX_out rfl)
set_option maxHeartbeats 4000000 in
set_option maxRecDepth 100000 in
theorem ev_X12_takePort_p72 {l : Launch} {G : xG} (hO : x_OK l G) {P : xP} (hP : x_PG P G) {a0 : Nat} {σ σ' : xS} {rr : Unit ⊕ String} (h : dm_X12_takePort_p72 P a0 σ = some (rr, σ')) : Ev l G mX12_takePort 72 [(0, va_rf (some a0))] [] σ (xrV rr) σ' := by
  unfold dm_X12_takePort_p72 at h
  refine ev_aload_n (j := 0) (x := (some a0)) dX12_takePort_72 rfl rfl ?_
  obtain ⟨c_4, h⟩ := x_chk_e h
  rcases x_bind_e h with ⟨v_1, σ_2, h_3, h⟩ | ⟨E_5, σ_2, h_3, h⟩
  · have z9 := x_call (M := mX12_takePort) (M' := mX12_next) (pc := 73) (st := [va_rf (some a0)]) (rest := []) (av := [va_rf (some a0)]) (x_linkV (M := mX12_takePort) (M' := mX12_next) (As := []) (index := 169) (C := RX12) (T := TX12) (xE_12 c_4) rfl wd_679 wd_680 (wG_in (List.mem_append_left _ (List.mem_of_getElem? (i := 36) rfl)) rfl) xw_X12_next rfl (by decide) rfl rfl dX12_takePort_73) (ev_X12_next hO hP h_3) xw_X12_next rfl wd_198 dX12_takePort_73 (by decide) (by decide) (by simp [x_cat, x_catI, x_catJ])
    refine x_callR z9 ?_
    refine ev_at (st' := []) rfl rfl ?_
    cases h
    exact ev_vret rfl dX12_takePort_76
  · have z9 := x_call (M := mX12_takePort) (M' := mX12_next) (pc := 73) (st := [va_rf (some a0)]) (rest := []) (av := [va_rf (some a0)]) (x_linkV (M := mX12_takePort) (M' := mX12_next) (As := []) (index := 169) (C := RX12) (T := TX12) (xE_12 c_4) rfl wd_679 wd_680 (wG_in (List.mem_append_left _ (List.mem_of_getElem? (i := 36) rfl)) rfl) xw_X12_next rfl (by decide) rfl rfl dX12_takePort_73) (ev_X12_next hO hP h_3) xw_X12_next rfl wd_198 dX12_takePort_73 (by decide) (by decide) (by simp [x_cat, x_catI, x_catJ])
    cases h
    exact x_callX z9 (evX_out rfl)
set_option maxHeartbeats 4000000 in
set_option maxRecDepth 100000 in
theorem ev_X12_takePort_p45 {l : Launch} {G : xG} (hO : x_OK l G) {P : xP} (hP : x_PG P G) {a0 : Nat} {σ σ' : xS} {rr : Unit ⊕ String} (h : dm_X12_takePort_p45 P a0 σ = some (rr, σ')) : Ev l G mX12_takePort 45 [(0, va_rf (some a0))] [] σ (xrV rr) σ' := by
  unfold dm_X12_takePort_p45 at h
  refine ev_aload_n (j := 0) (x := (some a0)) dX12_takePort_45 rfl rfl ?_
  obtain ⟨c_4, h⟩ := x_chk_e h
  rcases x_bind_e h with ⟨v_1, σ_2, h_3, h⟩ | ⟨E_20, σ_2, h_3, h⟩
  · have z9 := x_call (M := mX12_takePort) (M' := mX12_ok) (pc := 46) (st := [va_rf (some a0)]) (rest := []) (av := [va_rf (some a0)]) (x_linkV (M := mX12_takePort) (M' := mX12_ok) (As := []) (index := 121) (C := RX12) (T := TX12) (xE_12 c_4) rfl wd_640 wd_641 (wG_in (List.mem_append_left _ (List.mem_of_getElem? (i := 37) rfl)) rfl) xw_X12_ok rfl (by decide) rfl rfl dX12_takePort_46) (ev_X12_ok hO hP h_3) xw_X12_ok rfl wd_198 dX12_takePort_46 (by decide) (by decide) (by simp [x_cat, x_catI, x_catJ])
    refine x_callR z9 ?_
    refine ev_at (st' := [.int v_1]) rfl rfl ?_
    by_cases c_5 : v_1 = 0
    · rw [if_pos c_5] at h
      refine ev_if_eq (x := v_1) (tgt := 72) dX12_takePort_49 (by decide) (fun _ => ?_) (fun q9 => absurd c_5 q9)
      exact ev_sub [0] rfl (ev_X12_takePort_p72 hO hP h)
    · rw [if_neg c_5] at h
      refine ev_if_eq (x := v_1) (tgt := 72) dX12_takePort_49 (by decide) (fun q9 => absurd q9 c_5) (fun _ => ?_)
      refine ev_aload_n (j := 0) (x := (some a0)) dX12_takePort_52 rfl rfl ?_
      refine ev_iconst (v := 0) dX12_takePort_53 (by decide) ?_
      refine ev_iconst (v := 0) dX12_takePort_54 (by decide) ?_
      refine ev_iconst (v := 0) dX12_takePort_55 (by decide) ?_
      obtain ⟨c_9, h⟩ := x_chk_e h
      rcases x_bind_e h with ⟨v_6, σ_7, h_8, h⟩ | ⟨E_19, σ_7, h_8, h⟩
      · have z9 := x_call (M := mX12_takePort) (M' := mX12_addNet) (pc := 56) (st := [.int 0, .int 0, .int 0, va_rf (some a0)]) (rest := []) (av := [va_rf (some a0), .int 0, .int 0, .int 0]) (x_linkV (M := mX12_takePort) (M' := mX12_addNet) (As := [.int 0, .int 0, .int 0]) (index := 191) (C := RX12) (T := TX12) (xE_12 c_9) rfl wd_691 wd_692 (wG_in (List.mem_append_left _ (List.mem_of_getElem? (i := 54) rfl)) rfl) xw_X12_addNet rfl (by decide) rfl rfl dX12_takePort_56) (ev_X12_addNet hO hP h_8) xw_X12_addNet rfl wd_198 dX12_takePort_56 (by decide) (by decide) (by simp [x_cat, x_catI, x_catJ])
        refine x_callR z9 ?_
        refine ev_at (st' := []) rfl rfl ?_
        refine ev_aload_n (j := 0) (x := (some a0)) dX12_takePort_59 rfl rfl ?_
        obtain ⟨c_10, h⟩ := x_chk_e h
        refine ev_get (C := RX12) (T := TX12) (k := 8) inX12 (xE_12 c_10) rfl (by decide) wd_155 (Or.inl rfl) rfl dX12_takePort_60 ?_
        refine ev_aload_n (j := 0) (x := (some a0)) dX12_takePort_63 rfl rfl ?_
        rcases x_bind_e h with ⟨v_11, σ_12, h_13, h⟩ | ⟨E_18, σ_12, h_13, h⟩
        · have z9 := x_call (M := mX12_takePort) (M' := mX12_mod) (pc := 64) (st := [va_rf (some a0), va_rf (σ_7.R 1108 a0)]) (rest := [va_rf (σ_7.R 1108 a0)]) (av := [va_rf (some a0)]) (x_linkV (M := mX12_takePort) (M' := mX12_mod) (As := []) (index := 175) (C := RX12) (T := TX12) (xE_12 c_10) rfl wd_676 wd_677 (wG_in (List.mem_append_left _ (List.mem_of_getElem? (i := 48) rfl)) rfl) xw_X12_mod rfl (by decide) rfl rfl dX12_takePort_64) (ev_X12_mod hO hP h_13) xw_X12_mod rfl wd_198 dX12_takePort_64 (by decide) (by decide) (by simp [x_cat, x_catI, x_catJ])
          refine x_callR z9 ?_
          refine ev_at (st' := [.int v_11, va_rf (σ_7.R 1108 a0)]) rfl rfl ?_
          refine ev_dup2_11 dX12_takePort_67 rfl (x_cat _) ?_
          obtain ⟨a_14, ea_14, h⟩ := x_some_e h
          refine ev_at (st' := [.int v_11, va_rf (some a_14), .int v_11, va_rf (σ_7.R 1108 a0)]) rfl (by rw [ea_14]) ?_
          obtain ⟨c_15, h⟩ := x_chk_e h
          refine ev_iald_31 c_15.1 c_15.2 dX12_takePort_68 ?_
          refine ev_iconst (v := 1) dX12_takePort_69 (by decide) ?_
          refine ev_iadd (x := (σ_12.AI a_14 (Int32.toNatClampNeg v_11))) (y := 1) dX12_takePort_70 ?_
          refine ev_at (st' := [.int ((σ_12.AI a_14 (Int32.toNatClampNeg v_11)) + 1), .int v_11, va_rf (some a_14)]) rfl (by rw [ea_14]) ?_
          obtain ⟨c_16, h⟩ := x_chk_e h
          obtain ⟨σ_17, eσ_17, h⟩ := x_let_e h
          refine ev_iast_31 c_16.1 c_16.2.1 (hP.2.2.2.1 ▸ c_16.2.2) dX12_takePort_71 (eσ_17 ▸ ?_)
          exact ev_sub [0] rfl (ev_X12_takePort_p72 hO hP h)
        · have z9 := x_call (M := mX12_takePort) (M' := mX12_mod) (pc := 64) (st := [va_rf (some a0), va_rf (σ_7.R 1108 a0)]) (rest := [va_rf (σ_7.R 1108 a0)]) (av := [va_rf (some a0)]) (x_linkV (M := mX12_takePort) (M' := mX12_mod) (As := []) (index := 175) (C := RX12) (T := TX12) (xE_12 c_10) rfl wd_676 wd_677 (wG_in (List.mem_append_left _ (List.mem_of_getElem? (i := 48) rfl)) rfl) xw_X12_mod rfl (by decide) rfl rfl dX12_takePort_64) (ev_X12_mod hO hP h_13) xw_X12_mod rfl wd_198 dX12_takePort_64 (by decide) (by decide) (by simp [x_cat, x_catI, x_catJ])
          cases h
          exact x_callX z9 (evX_out rfl)
      · have z9 := x_call (M := mX12_takePort) (M' := mX12_addNet) (pc := 56) (st := [.int 0, .int 0, .int 0, va_rf (some a0)]) (rest := []) (av := [va_rf (some a0), .int 0, .int 0, .int 0]) (x_linkV (M := mX12_takePort) (M' := mX12_addNet) (As := [.int 0, .int 0, .int 0]) (index := 191) (C := RX12) (T := TX12) (xE_12 c_9) rfl wd_691 wd_692 (wG_in (List.mem_append_left _ (List.mem_of_getElem? (i := 54) rfl)) rfl) xw_X12_addNet rfl (by decide) rfl rfl dX12_takePort_56) (ev_X12_addNet hO hP h_8) xw_X12_addNet rfl wd_198 dX12_takePort_56 (by decide) (by decide) (by simp [x_cat, x_catI, x_catJ])
        cases h
        exact x_callX z9 (evX_out rfl)
  · have z9 := x_call (M := mX12_takePort) (M' := mX12_ok) (pc := 46) (st := [va_rf (some a0)]) (rest := []) (av := [va_rf (some a0)]) (x_linkV (M := mX12_takePort) (M' := mX12_ok) (As := []) (index := 121) (C := RX12) (T := TX12) (xE_12 c_4) rfl wd_640 wd_641 (wG_in (List.mem_append_left _ (List.mem_of_getElem? (i := 37) rfl)) rfl) xw_X12_ok rfl (by decide) rfl rfl dX12_takePort_46) (ev_X12_ok hO hP h_3) xw_X12_ok rfl wd_198 dX12_takePort_46 (by decide) (by decide) (by simp [x_cat, x_catI, x_catJ])
    cases h
    exact x_callX z9 (evX_out rfl)
set_option maxHeartbeats 4000000 in
set_option maxRecDepth 100000 in
theorem ev_X12_takePort_p37 {l : Launch} {G : xG} (hO : x_OK l G) {P : xP} (hP : x_PG P G) {a0 : Nat} {σ σ' : xS} {rr : Unit ⊕ String} (h : dm_X12_takePort_p37 P a0 σ = some (rr, σ')) : Ev l G mX12_takePort 37 [(0, va_rf (some a0))] [] σ (xrV rr) σ' := by
  unfold dm_X12_takePort_p37 at h
  refine ev_aload_n (j := 0) (x := (some a0)) dX12_takePort_37 rfl rfl ?_
  refine ev_aload_n (j := 0) (x := (some a0)) dX12_takePort_38 rfl rfl ?_
  obtain ⟨c_1, h⟩ := x_chk_e h
  refine ev_get (C := RX12) (T := TX12) (k := 36) inX12 (xE_12 c_1) rfl (by decide) wd_646 (Or.inl rfl) rfl dX12_takePort_39 ?_
  rcases x_bind_e h with ⟨v_2, σ_3, h_4, h⟩ | ⟨E_5, σ_3, h_4, h⟩
  · have z9 := x_call (M := mX12_takePort) (M' := mX12_fail) (pc := 42) (st := [.int (σ.I 1136 a0), va_rf (some a0)]) (rest := []) (av := [va_rf (some a0), .int (σ.I 1136 a0)]) (x_linkV (M := mX12_takePort) (M' := mX12_fail) (As := [.int (σ.I 1136 a0)]) (index := 150) (C := RX12) (T := TX12) (xE_12 c_1) rfl wd_657 wd_658 (wG_in (List.mem_append_left _ (List.mem_of_getElem? (i := 39) rfl)) rfl) xw_X12_fail rfl (by decide) rfl rfl dX12_takePort_42) (ev_X12_fail hO hP h_4) xw_X12_fail rfl wd_198 dX12_takePort_42 (by decide) (by decide) (by simp [x_cat, x_catI, x_catJ])
    refine x_callR z9 ?_
    refine ev_at (st' := []) rfl rfl ?_
    exact ev_sub [0] rfl (ev_X12_takePort_p45 hO hP h)
  · have z9 := x_call (M := mX12_takePort) (M' := mX12_fail) (pc := 42) (st := [.int (σ.I 1136 a0), va_rf (some a0)]) (rest := []) (av := [va_rf (some a0), .int (σ.I 1136 a0)]) (x_linkV (M := mX12_takePort) (M' := mX12_fail) (As := [.int (σ.I 1136 a0)]) (index := 150) (C := RX12) (T := TX12) (xE_12 c_1) rfl wd_657 wd_658 (wG_in (List.mem_append_left _ (List.mem_of_getElem? (i := 39) rfl)) rfl) xw_X12_fail rfl (by decide) rfl rfl dX12_takePort_42) (ev_X12_fail hO hP h_4) xw_X12_fail rfl wd_198 dX12_takePort_42 (by decide) (by decide) (by simp [x_cat, x_catI, x_catJ])
    cases h
    exact x_callX z9 (evX_out rfl)
set_option maxHeartbeats 4000000 in
set_option maxRecDepth 100000 in
theorem ev_X12_takePort {l : Launch} {G : xG} (hO : x_OK l G) {P : xP} (hP : x_PG P G) {a0 : Nat} {σ σ' : xS} {rr : Unit ⊕ String} (h : dm_X12_takePort P a0 σ = some (rr, σ')) : EvM l G mX12_takePort [va_rf (some a0)] σ (xrV rr) σ' := by
  unfold dm_X12_takePort at h
  refine evM_of hO (by decide +kernel) (x_lenI (by simp [x_cat, x_catI, x_catJ, mX12_takePort, xM.maxL])) ?_
  refine Eq.mp (congrArg (fun z => Ev l G mX12_takePort 0 z [] σ (xrV rr) σ') (show [(0, va_rf (some a0))] = lv_args 0 [va_rf (some a0)] by simp [lv_args, x_cat, x_catI, x_catJ])) ?_
  refine ev_aload_n (j := 0) (x := (some a0)) dX12_takePort_0 rfl rfl ?_
  obtain ⟨c_4, h⟩ := x_chk_e h
  rcases x_bind_e h with ⟨v_1, σ_2, h_3, h⟩ | ⟨E_25, σ_2, h_3, h⟩
  · have z9 := x_call (M := mX12_takePort) (M' := mX12_needName) (pc := 1) (st := [va_rf (some a0)]) (rest := []) (av := [va_rf (some a0)]) (x_linkV (M := mX12_takePort) (M' := mX12_needName) (As := []) (index := 185) (C := RX12) (T := TX12) (xE_12 c_4) rfl wd_670 wd_671 (wG_in (List.mem_append_left _ (List.mem_of_getElem? (i := 45) rfl)) rfl) xw_X12_needName rfl (by decide) rfl rfl dX12_takePort_1) (ev_X12_needName hO hP h_3) xw_X12_needName rfl wd_198 dX12_takePort_1 (by decide) (by decide) (by simp [x_cat, x_catI, x_catJ])
    refine x_callR z9 ?_
    refine ev_at (st' := []) rfl rfl ?_
    refine ev_aload_n (j := 0) (x := (some a0)) dX12_takePort_4 rfl rfl ?_
    obtain ⟨c_8, h⟩ := x_chk_e h
    rcases x_bind_e h with ⟨v_5, σ_6, h_7, h⟩ | ⟨E_24, σ_6, h_7, h⟩
    · have z9 := x_call (M := mX12_takePort) (M' := mX12_ok) (pc := 5) (st := [va_rf (some a0)]) (rest := []) (av := [va_rf (some a0)]) (x_linkV (M := mX12_takePort) (M' := mX12_ok) (As := []) (index := 121) (C := RX12) (T := TX12) (xE_12 c_8) rfl wd_640 wd_641 (wG_in (List.mem_append_left _ (List.mem_of_getElem? (i := 37) rfl)) rfl) xw_X12_ok rfl (by decide) rfl rfl dX12_takePort_5) (ev_X12_ok hO hP h_7) xw_X12_ok rfl wd_198 dX12_takePort_5 (by decide) (by decide) (by simp [x_cat, x_catI, x_catJ])
      refine x_callR z9 ?_
      refine ev_at (st' := [.int v_5]) rfl rfl ?_
      by_cases c_9 : v_5 = 0
      · rw [if_pos c_9] at h
        refine ev_if_eq (x := v_5) (tgt := 45) dX12_takePort_8 (by decide) (fun _ => ?_) (fun q9 => absurd c_9 q9)
        exact ev_sub [0] rfl (ev_X12_takePort_p45 hO hP h)
      · rw [if_neg c_9] at h
        refine ev_if_eq (x := v_5) (tgt := 45) dX12_takePort_8 (by decide) (fun q9 => absurd q9 c_9) (fun _ => ?_)
        refine ev_aload_n (j := 0) (x := (some a0)) dX12_takePort_11 rfl rfl ?_
        obtain ⟨c_10, h⟩ := x_chk_e h
        refine ev_get (C := RX12) (T := TX12) (k := 9) inX12 (xE_12 c_10) rfl (by decide) wd_156 (Or.inl rfl) rfl dX12_takePort_12 ?_
        refine ev_aload_n (j := 0) (x := (some a0)) dX12_takePort_15 rfl rfl ?_
        rcases x_bind_e h with ⟨v_11, σ_12, h_13, h⟩ | ⟨E_23, σ_12, h_13, h⟩
        · have z9 := x_call (M := mX12_takePort) (M' := mX12_mod) (pc := 16) (st := [va_rf (some a0), va_rf (σ_6.R 1109 a0)]) (rest := [va_rf (σ_6.R 1109 a0)]) (av := [va_rf (some a0)]) (x_linkV (M := mX12_takePort) (M' := mX12_mod) (As := []) (index := 175) (C := RX12) (T := TX12) (xE_12 c_10) rfl wd_676 wd_677 (wG_in (List.mem_append_left _ (List.mem_of_getElem? (i := 48) rfl)) rfl) xw_X12_mod rfl (by decide) rfl rfl dX12_takePort_16) (ev_X12_mod hO hP h_13) xw_X12_mod rfl wd_198 dX12_takePort_16 (by decide) (by decide) (by simp [x_cat, x_catI, x_catJ])
          refine x_callR z9 ?_
          refine ev_at (st' := [.int v_11, va_rf (σ_6.R 1109 a0)]) rfl rfl ?_
          obtain ⟨a_14, ea_14, h⟩ := x_some_e h
          refine ev_at (st' := [.int v_11, va_rf (some a_14)]) rfl (by rw [ea_14]) ?_
          obtain ⟨c_15, h⟩ := x_chk_e h
          refine ev_iald_31 c_15.1 c_15.2 dX12_takePort_19 ?_
          refine ev_bipush (v := 16) dX12_takePort_20 (by decide) ?_
          by_cases c_16 : (σ_12.AI a_14 (Int32.toNatClampNeg v_11)) = 16
          · rw [if_pos c_16] at h
            refine ev_icmp_eq (x := (σ_12.AI a_14 (Int32.toNatClampNeg v_11))) (y := 16) (tgt := 37) dX12_takePort_22 (by decide) (fun _ => ?_) (fun q9 => absurd c_16 q9)
            exact ev_sub [0] rfl (ev_X12_takePort_p37 hO hP h)
          · rw [if_neg c_16] at h
            refine ev_icmp_eq (x := (σ_12.AI a_14 (Int32.toNatClampNeg v_11))) (y := 16) (tgt := 37) dX12_takePort_22 (by decide) (fun q9 => absurd q9 c_16) (fun _ => ?_)
            refine ev_aload_n (j := 0) (x := (some a0)) dX12_takePort_25 rfl rfl ?_
            refine ev_aload_n (j := 0) (x := (some a0)) dX12_takePort_26 rfl rfl ?_
            obtain ⟨c_17, h⟩ := x_chk_e h
            refine ev_get (C := RX12) (T := TX12) (k := 36) inX12 (xE_12 c_17) rfl (by decide) wd_646 (Or.inl rfl) rfl dX12_takePort_27 ?_
            rcases x_bind_e h with ⟨v_18, σ_19, h_20, h⟩ | ⟨E_22, σ_19, h_20, h⟩
            · have z9 := x_call (M := mX12_takePort) (M' := mX12_netNamed) (pc := 30) (st := [.int (σ_12.I 1136 a0), va_rf (some a0)]) (rest := []) (av := [va_rf (some a0), .int (σ_12.I 1136 a0)]) (x_linkV (M := mX12_takePort) (M' := mX12_netNamed) (As := [.int (σ_12.I 1136 a0)]) (index := 188) (C := RX12) (T := TX12) (xE_12 c_17) rfl wd_688 wd_689 (wG_in (List.mem_append_left _ (List.mem_of_getElem? (i := 52) rfl)) rfl) xw_X12_netNamed rfl (by decide) rfl rfl dX12_takePort_30) (ev_X12_netNamed hO hP h_20) xw_X12_netNamed rfl wd_198 dX12_takePort_30 (by decide) (by decide) (by simp [x_cat, x_catI, x_catJ])
              refine x_callR z9 ?_
              refine ev_at (st' := [.int v_18]) rfl rfl ?_
              refine ev_iconst (v := -1) dX12_takePort_33 (by decide) ?_
              by_cases c_21 : v_18 = (-1)
              · rw [if_pos c_21] at h
                refine ev_icmp_eq (x := v_18) (y := (-1)) (tgt := 45) dX12_takePort_34 (by decide) (fun _ => ?_) (fun q9 => absurd c_21 q9)
                exact ev_sub [0] rfl (ev_X12_takePort_p45 hO hP h)
              · rw [if_neg c_21] at h
                refine ev_icmp_eq (x := v_18) (y := (-1)) (tgt := 45) dX12_takePort_34 (by decide) (fun q9 => absurd q9 c_21) (fun _ => ?_)
                exact ev_sub [0] rfl (ev_X12_takePort_p37 hO hP h)
            · have z9 := x_call (M := mX12_takePort) (M' := mX12_netNamed) (pc := 30) (st := [.int (σ_12.I 1136 a0), va_rf (some a0)]) (rest := []) (av := [va_rf (some a0), .int (σ_12.I 1136 a0)]) (x_linkV (M := mX12_takePort) (M' := mX12_netNamed) (As := [.int (σ_12.I 1136 a0)]) (index := 188) (C := RX12) (T := TX12) (xE_12 c_17) rfl wd_688 wd_689 (wG_in (List.mem_append_left _ (List.mem_of_getElem? (i := 52) rfl)) rfl) xw_X12_netNamed rfl (by decide) rfl rfl dX12_takePort_30) (ev_X12_netNamed hO hP h_20) xw_X12_netNamed rfl wd_198 dX12_takePort_30 (by decide) (by decide) (by simp [x_cat, x_catI, x_catJ])
              cases h
              exact x_callX z9 (evX_out rfl)
        · have z9 := x_call (M := mX12_takePort) (M' := mX12_mod) (pc := 16) (st := [va_rf (some a0), va_rf (σ_6.R 1109 a0)]) (rest := [va_rf (σ_6.R 1109 a0)]) (av := [va_rf (some a0)]) (x_linkV (M := mX12_takePort) (M' := mX12_mod) (As := []) (index := 175) (C := RX12) (T := TX12) (xE_12 c_10) rfl wd_676 wd_677 (wG_in (List.mem_append_left _ (List.mem_of_getElem? (i := 48) rfl)) rfl) xw_X12_mod rfl (by decide) rfl rfl dX12_takePort_16) (ev_X12_mod hO hP h_13) xw_X12_mod rfl wd_198 dX12_takePort_16 (by decide) (by decide) (by simp [x_cat, x_catI, x_catJ])
          cases h
          exact x_callX z9 (evX_out rfl)
    · have z9 := x_call (M := mX12_takePort) (M' := mX12_ok) (pc := 5) (st := [va_rf (some a0)]) (rest := []) (av := [va_rf (some a0)]) (x_linkV (M := mX12_takePort) (M' := mX12_ok) (As := []) (index := 121) (C := RX12) (T := TX12) (xE_12 c_8) rfl wd_640 wd_641 (wG_in (List.mem_append_left _ (List.mem_of_getElem? (i := 37) rfl)) rfl) xw_X12_ok rfl (by decide) rfl rfl dX12_takePort_5) (ev_X12_ok hO hP h_7) xw_X12_ok rfl wd_198 dX12_takePort_5 (by decide) (by decide) (by simp [x_cat, x_catI, x_catJ])
      cases h
      exact x_callX z9 (evX_out rfl)
  · have z9 := x_call (M := mX12_takePort) (M' := mX12_needName) (pc := 1) (st := [va_rf (some a0)]) (rest := []) (av := [va_rf (some a0)]) (x_linkV (M := mX12_takePort) (M' := mX12_needName) (As := []) (index := 185) (C := RX12) (T := TX12) (xE_12 c_4) rfl wd_670 wd_671 (wG_in (List.mem_append_left _ (List.mem_of_getElem? (i := 45) rfl)) rfl) xw_X12_needName rfl (by decide) rfl rfl dX12_takePort_1) (ev_X12_needName hO hP h_3) xw_X12_needName rfl wd_198 dX12_takePort_1 (by decide) (by decide) (by simp [x_cat, x_catI, x_catJ])
    cases h
    exact x_callX z9 (evX_out rfl)
set_option maxHeartbeats 4000000 in
set_option maxRecDepth 100000 in
theorem ev_X12_needNumber_p39 {l : Launch} {G : xG} (hO : x_OK l G) {P : xP} (hP : x_PG P G) {a0 : Nat} {σ σ' : xS} {rr : Unit ⊕ String} (h : dm_X12_needNumber_p39 P a0 σ = some (rr, σ')) : Ev l G mX12_needNumber 39 [] [] σ (xrV rr) σ' := by
  unfold dm_X12_needNumber_p39 at h
  cases h
  exact ev_vret rfl dX12_needNumber_39
set_option maxHeartbeats 4000000 in
set_option maxRecDepth 100000 in
theorem ev_X12_needNumber_p31 {l : Launch} {G : xG} (hO : x_OK l G) {P : xP} (hP : x_PG P G) {a0 : Nat} {σ σ' : xS} {rr : Unit ⊕ String} (h : dm_X12_needNumber_p31 P a0 σ = some (rr, σ')) : Ev l G mX12_needNumber 31 [(0, va_rf (some a0))] [] σ (xrV rr) σ' := by
  unfold dm_X12_needNumber_p31 at h
  refine ev_aload_n (j := 0) (x := (some a0)) dX12_needNumber_31 rfl rfl ?_
  refine ev_aload_n (j := 0) (x := (some a0)) dX12_needNumber_32 rfl rfl ?_
  obtain ⟨c_1, h⟩ := x_chk_e h
  refine ev_get (C := RX12) (T := TX12) (k := 36) inX12 (xE_12 c_1) rfl (by decide) wd_646 (Or.inl rfl) rfl dX12_needNumber_33 ?_
  rcases x_bind_e h with ⟨v_2, σ_3, h_4, h⟩ | ⟨E_5, σ_3, h_4, h⟩
  · have z9 := x_call (M := mX12_needNumber) (M' := mX12_fail) (pc := 36) (st := [.int (σ.I 1136 a0), va_rf (some a0)]) (rest := []) (av := [va_rf (some a0), .int (σ.I 1136 a0)]) (x_linkV (M := mX12_needNumber) (M' := mX12_fail) (As := [.int (σ.I 1136 a0)]) (index := 150) (C := RX12) (T := TX12) (xE_12 c_1) rfl wd_657 wd_658 (wG_in (List.mem_append_left _ (List.mem_of_getElem? (i := 39) rfl)) rfl) xw_X12_fail rfl (by decide) rfl rfl dX12_needNumber_36) (ev_X12_fail hO hP h_4) xw_X12_fail rfl wd_198 dX12_needNumber_36 (by decide) (by decide) (by simp [x_cat, x_catI, x_catJ])
    refine x_callR z9 ?_
    refine ev_at (st' := []) rfl rfl ?_
    exact ev_sub [] rfl (ev_X12_needNumber_p39 hO hP h)
  · have z9 := x_call (M := mX12_needNumber) (M' := mX12_fail) (pc := 36) (st := [.int (σ.I 1136 a0), va_rf (some a0)]) (rest := []) (av := [va_rf (some a0), .int (σ.I 1136 a0)]) (x_linkV (M := mX12_needNumber) (M' := mX12_fail) (As := [.int (σ.I 1136 a0)]) (index := 150) (C := RX12) (T := TX12) (xE_12 c_1) rfl wd_657 wd_658 (wG_in (List.mem_append_left _ (List.mem_of_getElem? (i := 39) rfl)) rfl) xw_X12_fail rfl (by decide) rfl rfl dX12_needNumber_36) (ev_X12_fail hO hP h_4) xw_X12_fail rfl wd_198 dX12_needNumber_36 (by decide) (by decide) (by simp [x_cat, x_catI, x_catJ])
    cases h
    exact x_callX z9 (evX_out rfl)
set_option maxHeartbeats 4000000 in
set_option maxRecDepth 100000 in
theorem ev_X12_needNumber {l : Launch} {G : xG} (hO : x_OK l G) {P : xP} (hP : x_PG P G) {a0 : Nat} {v1 : Int32} {v2 : Int32} {σ σ' : xS} {rr : Unit ⊕ String} (h : dm_X12_needNumber P a0 v1 v2 σ = some (rr, σ')) : EvM l G mX12_needNumber [va_rf (some a0), .int v1, .int v2] σ (xrV rr) σ' := by
  unfold dm_X12_needNumber at h
  refine evM_of hO (by decide +kernel) (x_lenI (by simp [x_cat, x_catI, x_catJ, mX12_needNumber, xM.maxL])) ?_
  refine Eq.mp (congrArg (fun z => Ev l G mX12_needNumber 0 z [] σ (xrV rr) σ') (show [(0, va_rf (some a0)), (1, .int v1), (2, .int v2)] = lv_args 0 [va_rf (some a0), .int v1, .int v2] by simp [lv_args, x_cat, x_catI, x_catJ])) ?_
  refine ev_aload_n (j := 0) (x := (some a0)) dX12_needNumber_0 rfl rfl ?_
  obtain ⟨c_4, h⟩ := x_chk_e h
  rcases x_bind_e h with ⟨v_1, σ_2, h_3, h⟩ | ⟨E_10, σ_2, h_3, h⟩
  · have z9 := x_call (M := mX12_needNumber) (M' := mX12_ok) (pc := 1) (st := [va_rf (some a0)]) (rest := []) (av := [va_rf (some a0)]) (x_linkV (M := mX12_needNumber) (M' := mX12_ok) (As := []) (index := 121) (C := RX12) (T := TX12) (xE_12 c_4) rfl wd_640 wd_641 (wG_in (List.mem_append_left _ (List.mem_of_getElem? (i := 37) rfl)) rfl) xw_X12_ok rfl (by decide) rfl rfl dX12_needNumber_1) (ev_X12_ok hO hP h_3) xw_X12_ok rfl wd_198 dX12_needNumber_1 (by decide) (by decide) (by simp [x_cat, x_catI, x_catJ])
    refine x_callR z9 ?_
    refine ev_at (st' := [.int v_1]) rfl rfl ?_
    by_cases c_5 : v_1 = 0
    · rw [if_pos c_5] at h
      refine ev_if_eq (x := v_1) (tgt := 39) dX12_needNumber_4 (by decide) (fun _ => ?_) (fun q9 => absurd c_5 q9)
      exact ev_sub [] rfl (ev_X12_needNumber_p39 hO hP h)
    · rw [if_neg c_5] at h
      refine ev_if_eq (x := v_1) (tgt := 39) dX12_needNumber_4 (by decide) (fun q9 => absurd q9 c_5) (fun _ => ?_)
      refine ev_aload_n (j := 0) (x := (some a0)) dX12_needNumber_7 rfl rfl ?_
      obtain ⟨c_6, h⟩ := x_chk_e h
      refine ev_get (C := RX12) (T := TX12) (k := 35) inX12 (xE_12 c_6) rfl (by decide) wd_653 (Or.inl rfl) rfl dX12_needNumber_8 ?_
      refine ev_iconst (v := 2) dX12_needNumber_11 (by decide) ?_
      by_cases c_7 : (σ_2.I 1135 a0) = 2
      · rw [if_pos c_7] at h
        refine ev_icmp_ne (x := (σ_2.I 1135 a0)) (y := 2) (tgt := 31) dX12_needNumber_12 (by decide) (fun q9 => absurd c_7 q9) (fun _ => ?_)
        refine ev_aload_n (j := 0) (x := (some a0)) dX12_needNumber_15 rfl rfl ?_
        refine ev_get (C := RX12) (T := TX12) (k := 38) inX12 (xE_12 c_6) rfl (by decide) wd_654 (Or.inl rfl) rfl dX12_needNumber_16 ?_
        refine ev_iload_n (j := 1) (x := v1) dX12_needNumber_19 rfl rfl ?_
        by_cases c_8 : (σ_2.I 1138 a0) < v1
        · rw [if_pos c_8] at h
          refine ev_icmp_lt (x := (σ_2.I 1138 a0)) (y := v1) (tgt := 31) dX12_needNumber_20 (by decide) (fun _ => ?_) (fun q9 => absurd c_8 q9)
          exact ev_sub [0] rfl (ev_X12_needNumber_p31 hO hP h)
        · rw [if_neg c_8] at h
          refine ev_icmp_lt (x := (σ_2.I 1138 a0)) (y := v1) (tgt := 31) dX12_needNumber_20 (by decide) (fun q9 => absurd q9 c_8) (fun _ => ?_)
          refine ev_aload_n (j := 0) (x := (some a0)) dX12_needNumber_23 rfl rfl ?_
          refine ev_get (C := RX12) (T := TX12) (k := 38) inX12 (xE_12 c_6) rfl (by decide) wd_654 (Or.inl rfl) rfl dX12_needNumber_24 ?_
          refine ev_iload_n (j := 2) (x := v2) dX12_needNumber_27 rfl rfl ?_
          by_cases c_9 : (σ_2.I 1138 a0) ≤ v2
          · rw [if_pos c_9] at h
            refine ev_icmp_le (x := (σ_2.I 1138 a0)) (y := v2) (tgt := 39) dX12_needNumber_28 (by decide) (fun _ => ?_) (fun q9 => absurd c_9 q9)
            exact ev_sub [] rfl (ev_X12_needNumber_p39 hO hP h)
          · rw [if_neg c_9] at h
            refine ev_icmp_le (x := (σ_2.I 1138 a0)) (y := v2) (tgt := 39) dX12_needNumber_28 (by decide) (fun q9 => absurd q9 c_9) (fun _ => ?_)
            exact ev_sub [0] rfl (ev_X12_needNumber_p31 hO hP h)
      · rw [if_neg c_7] at h
        refine ev_icmp_ne (x := (σ_2.I 1135 a0)) (y := 2) (tgt := 31) dX12_needNumber_12 (by decide) (fun _ => ?_) (fun q9 => absurd q9 c_7)
        exact ev_sub [0] rfl (ev_X12_needNumber_p31 hO hP h)
  · have z9 := x_call (M := mX12_needNumber) (M' := mX12_ok) (pc := 1) (st := [va_rf (some a0)]) (rest := []) (av := [va_rf (some a0)]) (x_linkV (M := mX12_needNumber) (M' := mX12_ok) (As := []) (index := 121) (C := RX12) (T := TX12) (xE_12 c_4) rfl wd_640 wd_641 (wG_in (List.mem_append_left _ (List.mem_of_getElem? (i := 37) rfl)) rfl) xw_X12_ok rfl (by decide) rfl rfl dX12_needNumber_1) (ev_X12_ok hO hP h_3) xw_X12_ok rfl wd_198 dX12_needNumber_1 (by decide) (by decide) (by simp [x_cat, x_catI, x_catJ])
    cases h
    exact x_callX z9 (evX_out rfl)
set_option maxHeartbeats 4000000 in
set_option maxRecDepth 100000 in
theorem ev_X12_takeLongNet_p158 {l : Launch} {G : xG} (hO : x_OK l G) {P : xP} (hP : x_PG P G) {a0 : Nat} {σ σ' : xS} {rr : Unit ⊕ String} (h : dm_X12_takeLongNet_p158 P a0 σ = some (rr, σ')) : Ev l G mX12_takeLongNet 158 [(0, va_rf (some a0))] [] σ (xrV rr) σ' := by
  unfold dm_X12_takeLongNet_p158 at h
  refine ev_aload_n (j := 0) (x := (some a0)) dX12_takeLongNet_158 rfl rfl ?_
  obtain ⟨c_4, h⟩ := x_chk_e h
  rcases x_bind_e h with ⟨v_1, σ_2, h_3, h⟩ | ⟨E_5, σ_2, h_3, h⟩
  · have z9 := x_call (M := mX12_takeLongNet) (M' := mX12_next) (pc := 159) (st := [va_rf (some a0)]) (rest := []) (av := [va_rf (some a0)]) (x_linkV (M := mX12_takeLongNet) (M' := mX12_next) (As := []) (index := 169) (C := RX12) (T := TX12) (xE_12 c_4) rfl wd_679 wd_680 (wG_in (List.mem_append_left _ (List.mem_of_getElem? (i := 36) rfl)) rfl) xw_X12_next rfl (by decide) rfl rfl dX12_takeLongNet_159) (ev_X12_next hO hP h_3) xw_X12_next rfl wd_198 dX12_takeLongNet_159 (by decide) (by decide) (by simp [x_cat, x_catI, x_catJ])
    refine x_callR z9 ?_
    refine ev_at (st' := []) rfl rfl ?_
    cases h
    exact ev_vret rfl dX12_takeLongNet_162
  · have z9 := x_call (M := mX12_takeLongNet) (M' := mX12_next) (pc := 159) (st := [va_rf (some a0)]) (rest := []) (av := [va_rf (some a0)]) (x_linkV (M := mX12_takeLongNet) (M' := mX12_next) (As := []) (index := 169) (C := RX12) (T := TX12) (xE_12 c_4) rfl wd_679 wd_680 (wG_in (List.mem_append_left _ (List.mem_of_getElem? (i := 36) rfl)) rfl) xw_X12_next rfl (by decide) rfl rfl dX12_takeLongNet_159) (ev_X12_next hO hP h_3) xw_X12_next rfl wd_198 dX12_takeLongNet_159 (by decide) (by decide) (by simp [x_cat, x_catI, x_catJ])
    cases h
    exact x_callX z9 (evX_out rfl)
set_option maxHeartbeats 4000000 in
set_option maxRecDepth 100000 in
theorem ev_X12_takeLongNet_p67 {l : Launch} {G : xG} (hO : x_OK l G) {P : xP} (hP : x_PG P G) {a0 : Nat} {σ σ' : xS} {rr : Unit ⊕ String} (h : dm_X12_takeLongNet_p67 P a0 σ = some (rr, σ')) : Ev l G mX12_takeLongNet 67 [(0, va_rf (some a0))] [] σ (xrV rr) σ' := by
  unfold dm_X12_takeLongNet_p67 at h
  refine ev_aload_n (j := 0) (x := (some a0)) dX12_takeLongNet_67 rfl rfl ?_
  refine ev_aload_n (j := 0) (x := (some a0)) dX12_takeLongNet_68 rfl rfl ?_
  obtain ⟨c_1, h⟩ := x_chk_e h
  refine ev_get (C := RX12) (T := TX12) (k := 36) inX12 (xE_12 c_1) rfl (by decide) wd_646 (Or.inl rfl) rfl dX12_takeLongNet_69 ?_
  rcases x_bind_e h with ⟨v_2, σ_3, h_4, h⟩ | ⟨E_5, σ_3, h_4, h⟩
  · have z9 := x_call (M := mX12_takeLongNet) (M' := mX12_fail) (pc := 72) (st := [.int (σ.I 1136 a0), va_rf (some a0)]) (rest := []) (av := [va_rf (some a0), .int (σ.I 1136 a0)]) (x_linkV (M := mX12_takeLongNet) (M' := mX12_fail) (As := [.int (σ.I 1136 a0)]) (index := 150) (C := RX12) (T := TX12) (xE_12 c_1) rfl wd_657 wd_658 (wG_in (List.mem_append_left _ (List.mem_of_getElem? (i := 39) rfl)) rfl) xw_X12_fail rfl (by decide) rfl rfl dX12_takeLongNet_72) (ev_X12_fail hO hP h_4) xw_X12_fail rfl wd_198 dX12_takeLongNet_72 (by decide) (by decide) (by simp [x_cat, x_catI, x_catJ])
    refine x_callR z9 ?_
    refine ev_at (st' := []) rfl rfl ?_
    refine ev_goto (tgt := 158) dX12_takeLongNet_75 (by decide) ?_
    exact ev_sub [0] rfl (ev_X12_takeLongNet_p158 hO hP h)
  · have z9 := x_call (M := mX12_takeLongNet) (M' := mX12_fail) (pc := 72) (st := [.int (σ.I 1136 a0), va_rf (some a0)]) (rest := []) (av := [va_rf (some a0), .int (σ.I 1136 a0)]) (x_linkV (M := mX12_takeLongNet) (M' := mX12_fail) (As := [.int (σ.I 1136 a0)]) (index := 150) (C := RX12) (T := TX12) (xE_12 c_1) rfl wd_657 wd_658 (wG_in (List.mem_append_left _ (List.mem_of_getElem? (i := 39) rfl)) rfl) xw_X12_fail rfl (by decide) rfl rfl dX12_takeLongNet_72) (ev_X12_fail hO hP h_4) xw_X12_fail rfl wd_198 dX12_takeLongNet_72 (by decide) (by decide) (by simp [x_cat, x_catI, x_catJ])
    cases h
    exact x_callX z9 (evX_out rfl)
set_option maxHeartbeats 4000000 in
set_option maxRecDepth 100000 in
theorem ev_X12_takeLongNet_p140 {l : Launch} {G : xG} (hO : x_OK l G) {P : xP} (hP : x_PG P G) {a0 : Nat} {σ σ' : xS} {rr : Unit ⊕ String} (h : dm_X12_takeLongNet_p140 P a0 σ = some (rr, σ')) : Ev l G mX12_takeLongNet 140 [(0, va_rf (some a0))] [] σ (xrV rr) σ' := by
  unfold dm_X12_takeLongNet_p140 at h
  refine ev_aload_n (j := 0) (x := (some a0)) dX12_takeLongNet_140 rfl rfl ?_
  refine ev_aload_n (j := 0) (x := (some a0)) dX12_takeLongNet_141 rfl rfl ?_
  obtain ⟨c_1, h⟩ := x_chk_e h
  refine ev_get (C := RX12) (T := TX12) (k := 36) inX12 (xE_12 c_1) rfl (by decide) wd_646 (Or.inl rfl) rfl dX12_takeLongNet_142 ?_
  rcases x_bind_e h with ⟨v_2, σ_3, h_4, h⟩ | ⟨E_5, σ_3, h_4, h⟩
  · have z9 := x_call (M := mX12_takeLongNet) (M' := mX12_fail) (pc := 145) (st := [.int (σ.I 1136 a0), va_rf (some a0)]) (rest := []) (av := [va_rf (some a0), .int (σ.I 1136 a0)]) (x_linkV (M := mX12_takeLongNet) (M' := mX12_fail) (As := [.int (σ.I 1136 a0)]) (index := 150) (C := RX12) (T := TX12) (xE_12 c_1) rfl wd_657 wd_658 (wG_in (List.mem_append_left _ (List.mem_of_getElem? (i := 39) rfl)) rfl) xw_X12_fail rfl (by decide) rfl rfl dX12_takeLongNet_145) (ev_X12_fail hO hP h_4) xw_X12_fail rfl wd_198 dX12_takeLongNet_145 (by decide) (by decide) (by simp [x_cat, x_catI, x_catJ])
    refine x_callR z9 ?_
    refine ev_at (st' := []) rfl rfl ?_
    refine ev_goto (tgt := 158) dX12_takeLongNet_148 (by decide) ?_
    exact ev_sub [0] rfl (ev_X12_takeLongNet_p158 hO hP h)
  · have z9 := x_call (M := mX12_takeLongNet) (M' := mX12_fail) (pc := 145) (st := [.int (σ.I 1136 a0), va_rf (some a0)]) (rest := []) (av := [va_rf (some a0), .int (σ.I 1136 a0)]) (x_linkV (M := mX12_takeLongNet) (M' := mX12_fail) (As := [.int (σ.I 1136 a0)]) (index := 150) (C := RX12) (T := TX12) (xE_12 c_1) rfl wd_657 wd_658 (wG_in (List.mem_append_left _ (List.mem_of_getElem? (i := 39) rfl)) rfl) xw_X12_fail rfl (by decide) rfl rfl dX12_takeLongNet_145) (ev_X12_fail hO hP h_4) xw_X12_fail rfl wd_198 dX12_takeLongNet_145 (by decide) (by decide) (by simp [x_cat, x_catI, x_catJ])
    cases h
    exact x_callX z9 (evX_out rfl)
set_option maxHeartbeats 4000000 in
set_option maxRecDepth 100000 in
theorem ev_X12_takeLongNet_p114 {l : Launch} {G : xG} (hO : x_OK l G) {P : xP} (hP : x_PG P G) {a0 : Nat} {v1 : Int32} {v2 : Int32} {v3 : Int32} {σ σ' : xS} {rr : Unit ⊕ String} (h : dm_X12_takeLongNet_p114 P a0 v1 v2 v3 σ = some (rr, σ')) : Ev l G mX12_takeLongNet 114 [(0, va_rf (some a0)), (1, .int v1), (2, .int v2), (3, .int v3)] [] σ (xrV rr) σ' := by
  unfold dm_X12_takeLongNet_p114 at h
  refine ev_aload_n (j := 0) (x := (some a0)) dX12_takeLongNet_114 rfl rfl ?_
  obtain ⟨c_4, h⟩ := x_chk_e h
  rcases x_bind_e h with ⟨v_1, σ_2, h_3, h⟩ | ⟨E_20, σ_2, h_3, h⟩
  · have z9 := x_call (M := mX12_takeLongNet) (M' := mX12_ok) (pc := 115) (st := [va_rf (some a0)]) (rest := []) (av := [va_rf (some a0)]) (x_linkV (M := mX12_takeLongNet) (M' := mX12_ok) (As := []) (index := 121) (C := RX12) (T := TX12) (xE_12 c_4) rfl wd_640 wd_641 (wG_in (List.mem_append_left _ (List.mem_of_getElem? (i := 37) rfl)) rfl) xw_X12_ok rfl (by decide) rfl rfl dX12_takeLongNet_115) (ev_X12_ok hO hP h_3) xw_X12_ok rfl wd_198 dX12_takeLongNet_115 (by decide) (by decide) (by simp [x_cat, x_catI, x_catJ])
    refine x_callR z9 ?_
    refine ev_at (st' := [.int v_1]) rfl rfl ?_
    by_cases c_5 : v_1 = 0
    · rw [if_pos c_5] at h
      refine ev_if_eq (x := v_1) (tgt := 158) dX12_takeLongNet_118 (by decide) (fun _ => ?_) (fun q9 => absurd c_5 q9)
      exact ev_sub [0] rfl (ev_X12_takeLongNet_p158 hO hP h)
    · rw [if_neg c_5] at h
      refine ev_if_eq (x := v_1) (tgt := 158) dX12_takeLongNet_118 (by decide) (fun q9 => absurd q9 c_5) (fun _ => ?_)
      refine ev_iload_n (j := 3) (x := v3) dX12_takeLongNet_121 rfl rfl ?_
      refine ev_iconst (v := -1) dX12_takeLongNet_122 (by decide) ?_
      by_cases c_6 : v3 = (-1)
      · rw [if_pos c_6] at h
        refine ev_icmp_ne (x := v3) (y := (-1)) (tgt := 140) dX12_takeLongNet_123 (by decide) (fun q9 => absurd c_6 q9) (fun _ => ?_)
        refine ev_aload_n (j := 0) (x := (some a0)) dX12_takeLongNet_126 rfl rfl ?_
        obtain ⟨c_7, h⟩ := x_chk_e h
        refine ev_get (C := RX12) (T := TX12) (k := 9) inX12 (xE_12 c_7) rfl (by decide) wd_156 (Or.inl rfl) rfl dX12_takeLongNet_127 ?_
        refine ev_aload_n (j := 0) (x := (some a0)) dX12_takeLongNet_130 rfl rfl ?_
        rcases x_bind_e h with ⟨v_8, σ_9, h_10, h⟩ | ⟨E_19, σ_9, h_10, h⟩
        · have z9 := x_call (M := mX12_takeLongNet) (M' := mX12_mod) (pc := 131) (st := [va_rf (some a0), va_rf (σ_2.R 1109 a0)]) (rest := [va_rf (σ_2.R 1109 a0)]) (av := [va_rf (some a0)]) (x_linkV (M := mX12_takeLongNet) (M' := mX12_mod) (As := []) (index := 175) (C := RX12) (T := TX12) (xE_12 c_7) rfl wd_676 wd_677 (wG_in (List.mem_append_left _ (List.mem_of_getElem? (i := 48) rfl)) rfl) xw_X12_mod rfl (by decide) rfl rfl dX12_takeLongNet_131) (ev_X12_mod hO hP h_10) xw_X12_mod rfl wd_198 dX12_takeLongNet_131 (by decide) (by decide) (by simp [x_cat, x_catI, x_catJ])
          refine x_callR z9 ?_
          refine ev_at (st' := [.int v_8, va_rf (σ_2.R 1109 a0)]) rfl rfl ?_
          obtain ⟨a_11, ea_11, h⟩ := x_some_e h
          refine ev_at (st' := [.int v_8, va_rf (some a_11)]) rfl (by rw [ea_11]) ?_
          obtain ⟨c_12, h⟩ := x_chk_e h
          refine ev_iald_31 c_12.1 c_12.2 dX12_takeLongNet_134 ?_
          refine ev_bipush (v := 16) dX12_takeLongNet_135 (by decide) ?_
          by_cases c_13 : (σ_9.AI a_11 (Int32.toNatClampNeg v_8)) = 16
          · rw [if_pos c_13] at h
            refine ev_icmp_ne (x := (σ_9.AI a_11 (Int32.toNatClampNeg v_8))) (y := 16) (tgt := 151) dX12_takeLongNet_137 (by decide) (fun q9 => absurd c_13 q9) (fun _ => ?_)
            exact ev_sub [0] rfl (ev_X12_takeLongNet_p140 hO hP h)
          · rw [if_neg c_13] at h
            refine ev_icmp_ne (x := (σ_9.AI a_11 (Int32.toNatClampNeg v_8))) (y := 16) (tgt := 151) dX12_takeLongNet_137 (by decide) (fun _ => ?_) (fun q9 => absurd q9 c_13)
            refine ev_aload_n (j := 0) (x := (some a0)) dX12_takeLongNet_151 rfl rfl ?_
            refine ev_iload_n (j := 1) (x := v1) dX12_takeLongNet_152 rfl rfl ?_
            refine ev_iload_n (j := 2) (x := v2) dX12_takeLongNet_153 rfl rfl ?_
            refine ev_iconst (v := 1) dX12_takeLongNet_154 (by decide) ?_
            obtain ⟨c_17, h⟩ := x_chk_e h
            rcases x_bind_e h with ⟨v_14, σ_15, h_16, h⟩ | ⟨E_18, σ_15, h_16, h⟩
            · have z9 := x_call (M := mX12_takeLongNet) (M' := mX12_addNet) (pc := 155) (st := [.int 1, .int v2, .int v1, va_rf (some a0)]) (rest := []) (av := [va_rf (some a0), .int v1, .int v2, .int 1]) (x_linkV (M := mX12_takeLongNet) (M' := mX12_addNet) (As := [.int v1, .int v2, .int 1]) (index := 191) (C := RX12) (T := TX12) (xE_12 c_17) rfl wd_691 wd_692 (wG_in (List.mem_append_left _ (List.mem_of_getElem? (i := 54) rfl)) rfl) xw_X12_addNet rfl (by decide) rfl rfl dX12_takeLongNet_155) (ev_X12_addNet hO hP h_16) xw_X12_addNet rfl wd_198 dX12_takeLongNet_155 (by decide) (by decide) (by simp [x_cat, x_catI, x_catJ])
              refine x_callR z9 ?_
              refine ev_at (st' := []) rfl rfl ?_
              exact ev_sub [0] rfl (ev_X12_takeLongNet_p158 hO hP h)
            · have z9 := x_call (M := mX12_takeLongNet) (M' := mX12_addNet) (pc := 155) (st := [.int 1, .int v2, .int v1, va_rf (some a0)]) (rest := []) (av := [va_rf (some a0), .int v1, .int v2, .int 1]) (x_linkV (M := mX12_takeLongNet) (M' := mX12_addNet) (As := [.int v1, .int v2, .int 1]) (index := 191) (C := RX12) (T := TX12) (xE_12 c_17) rfl wd_691 wd_692 (wG_in (List.mem_append_left _ (List.mem_of_getElem? (i := 54) rfl)) rfl) xw_X12_addNet rfl (by decide) rfl rfl dX12_takeLongNet_155) (ev_X12_addNet hO hP h_16) xw_X12_addNet rfl wd_198 dX12_takeLongNet_155 (by decide) (by decide) (by simp [x_cat, x_catI, x_catJ])
              cases h
              exact x_callX z9 (evX_out rfl)
        · have z9 := x_call (M := mX12_takeLongNet) (M' := mX12_mod) (pc := 131) (st := [va_rf (some a0), va_rf (σ_2.R 1109 a0)]) (rest := [va_rf (σ_2.R 1109 a0)]) (av := [va_rf (some a0)]) (x_linkV (M := mX12_takeLongNet) (M' := mX12_mod) (As := []) (index := 175) (C := RX12) (T := TX12) (xE_12 c_7) rfl wd_676 wd_677 (wG_in (List.mem_append_left _ (List.mem_of_getElem? (i := 48) rfl)) rfl) xw_X12_mod rfl (by decide) rfl rfl dX12_takeLongNet_131) (ev_X12_mod hO hP h_10) xw_X12_mod rfl wd_198 dX12_takeLongNet_131 (by decide) (by decide) (by simp [x_cat, x_catI, x_catJ])
          cases h
          exact x_callX z9 (evX_out rfl)
      · rw [if_neg c_6] at h
        refine ev_icmp_ne (x := v3) (y := (-1)) (tgt := 140) dX12_takeLongNet_123 (by decide) (fun _ => ?_) (fun q9 => absurd q9 c_6)
        exact ev_sub [0] rfl (ev_X12_takeLongNet_p140 hO hP h)
  · have z9 := x_call (M := mX12_takeLongNet) (M' := mX12_ok) (pc := 115) (st := [va_rf (some a0)]) (rest := []) (av := [va_rf (some a0)]) (x_linkV (M := mX12_takeLongNet) (M' := mX12_ok) (As := []) (index := 121) (C := RX12) (T := TX12) (xE_12 c_4) rfl wd_640 wd_641 (wG_in (List.mem_append_left _ (List.mem_of_getElem? (i := 37) rfl)) rfl) xw_X12_ok rfl (by decide) rfl rfl dX12_takeLongNet_115) (ev_X12_ok hO hP h_3) xw_X12_ok rfl wd_198 dX12_takeLongNet_115 (by decide) (by decide) (by simp [x_cat, x_catI, x_catJ])
    cases h
    exact x_callX z9 (evX_out rfl)
set_option maxHeartbeats 4000000 in
set_option maxRecDepth 100000 in
theorem ev_X12_takeLongNet_p23 {l : Launch} {G : xG} (hO : x_OK l G) {P : xP} (hP : x_PG P G) {a0 : Nat} {v1 : Int32} {v2 : Int32} {s0 : Int32} {σ σ' : xS} {rr : Unit ⊕ String} (h : dm_X12_takeLongNet_p23 P a0 v1 v2 s0 σ = some (rr, σ')) : Ev l G mX12_takeLongNet 23 [(0, va_rf (some a0)), (1, .int v1), (2, .int v2)] [.int s0] σ (xrV rr) σ' := by
  unfold dm_X12_takeLongNet_p23 at h
  refine ev_istore_n (i := 3) (lv' := [(3, .int s0), (0, va_rf (some a0)), (1, .int v1), (2, .int v2)]) dX12_takeLongNet_23 rfl (by decide) rfl ?_
  refine ev_aload_n (j := 1) (x := (some a0)) dX12_takeLongNet_24 rfl rfl ?_
  obtain ⟨c_4, h⟩ := x_chk_e h
  rcases x_bind_e h with ⟨v_1, σ_2, h_3, h⟩ | ⟨E_48, σ_2, h_3, h⟩
  · have z9 := x_call (M := mX12_takeLongNet) (M' := mX12_ok) (pc := 25) (st := [va_rf (some a0)]) (rest := []) (av := [va_rf (some a0)]) (x_linkV (M := mX12_takeLongNet) (M' := mX12_ok) (As := []) (index := 121) (C := RX12) (T := TX12) (xE_12 c_4) rfl wd_640 wd_641 (wG_in (List.mem_append_left _ (List.mem_of_getElem? (i := 37) rfl)) rfl) xw_X12_ok rfl (by decide) rfl rfl dX12_takeLongNet_25) (ev_X12_ok hO hP h_3) xw_X12_ok rfl wd_198 dX12_takeLongNet_25 (by decide) (by decide) (by simp [x_cat, x_catI, x_catJ])
    refine x_callR z9 ?_
    refine ev_at (st' := [.int v_1]) rfl rfl ?_
    by_cases c_5 : v_1 = 0
    · rw [if_pos c_5] at h
      refine ev_if_eq (x := v_1) (tgt := 114) dX12_takeLongNet_28 (by decide) (fun _ => ?_) (fun q9 => absurd c_5 q9)
      exact ev_sub [1, 2, 3, 0] rfl (ev_X12_takeLongNet_p114 hO hP h)
    · rw [if_neg c_5] at h
      refine ev_if_eq (x := v_1) (tgt := 114) dX12_takeLongNet_28 (by decide) (fun q9 => absurd q9 c_5) (fun _ => ?_)
      refine ev_iload_n (j := 2) (x := v1) dX12_takeLongNet_31 rfl rfl ?_
      refine ev_iconst (v := 2) dX12_takeLongNet_32 (by decide) ?_
      by_cases c_6 : 2 ≤ v1
      · rw [if_pos c_6] at h
        refine ev_icmp_ge (x := v1) (y := 2) (tgt := 114) dX12_takeLongNet_33 (by decide) (fun _ => ?_) (fun q9 => absurd c_6 q9)
        exact ev_sub [1, 2, 3, 0] rfl (ev_X12_takeLongNet_p114 hO hP h)
      · rw [if_neg c_6] at h
        refine ev_icmp_ge (x := v1) (y := 2) (tgt := 114) dX12_takeLongNet_33 (by decide) (fun q9 => absurd q9 c_6) (fun _ => ?_)
        refine ev_iload_n (j := 0) (x := s0) dX12_takeLongNet_36 rfl rfl ?_
        refine ev_iconst (v := -1) dX12_takeLongNet_37 (by decide) ?_
        by_cases c_7 : s0 = (-1)
        · rw [if_pos c_7] at h
          refine ev_icmp_eq (x := s0) (y := (-1)) (tgt := 67) dX12_takeLongNet_38 (by decide) (fun _ => ?_) (fun q9 => absurd c_7 q9)
          exact ev_sub [1] rfl (ev_X12_takeLongNet_p67 hO hP h)
        · rw [if_neg c_7] at h
          refine ev_icmp_eq (x := s0) (y := (-1)) (tgt := 67) dX12_takeLongNet_38 (by decide) (fun q9 => absurd q9 c_7) (fun _ => ?_)
          refine ev_iload_n (j := 0) (x := s0) dX12_takeLongNet_41 rfl rfl ?_
          refine ev_aload_n (j := 1) (x := (some a0)) dX12_takeLongNet_42 rfl rfl ?_
          obtain ⟨c_8, h⟩ := x_chk_e h
          refine ev_get (C := RX12) (T := TX12) (k := 8) inX12 (xE_12 c_8) rfl (by decide) wd_155 (Or.inl rfl) rfl dX12_takeLongNet_43 ?_
          refine ev_aload_n (j := 1) (x := (some a0)) dX12_takeLongNet_46 rfl rfl ?_
          rcases x_bind_e h with ⟨v_9, σ_10, h_11, h⟩ | ⟨E_47, σ_10, h_11, h⟩
          · have z9 := x_call (M := mX12_takeLongNet) (M' := mX12_mod) (pc := 47) (st := [va_rf (some a0), va_rf (σ_2.R 1108 a0), .int s0]) (rest := [va_rf (σ_2.R 1108 a0), .int s0]) (av := [va_rf (some a0)]) (x_linkV (M := mX12_takeLongNet) (M' := mX12_mod) (As := []) (index := 175) (C := RX12) (T := TX12) (xE_12 c_8) rfl wd_676 wd_677 (wG_in (List.mem_append_left _ (List.mem_of_getElem? (i := 48) rfl)) rfl) xw_X12_mod rfl (by decide) rfl rfl dX12_takeLongNet_47) (ev_X12_mod hO hP h_11) xw_X12_mod rfl wd_198 dX12_takeLongNet_47 (by decide) (by decide) (by simp [x_cat, x_catI, x_catJ])
            refine x_callR z9 ?_
            refine ev_at (st' := [.int v_9, va_rf (σ_2.R 1108 a0), .int s0]) rfl rfl ?_
            obtain ⟨a_12, ea_12, h⟩ := x_some_e h
            refine ev_at (st' := [.int v_9, va_rf (some a_12), .int s0]) rfl (by rw [ea_12]) ?_
            obtain ⟨c_13, h⟩ := x_chk_e h
            refine ev_iald_31 c_13.1 c_13.2 dX12_takeLongNet_50 ?_
            by_cases c_14 : (σ_10.AI a_12 (Int32.toNatClampNeg v_9)) ≤ s0
            · rw [if_pos c_14] at h
              refine ev_icmp_ge (x := s0) (y := (σ_10.AI a_12 (Int32.toNatClampNeg v_9))) (tgt := 67) dX12_takeLongNet_51 (by decide) (fun _ => ?_) (fun q9 => absurd c_14 q9)
              exact ev_sub [1] rfl (ev_X12_takeLongNet_p67 hO hP h)
            · rw [if_neg c_14] at h
              refine ev_icmp_ge (x := s0) (y := (σ_10.AI a_12 (Int32.toNatClampNeg v_9))) (tgt := 67) dX12_takeLongNet_51 (by decide) (fun q9 => absurd q9 c_14) (fun _ => ?_)
              refine ev_aload_n (j := 1) (x := (some a0)) dX12_takeLongNet_54 rfl rfl ?_
              obtain ⟨c_15, h⟩ := x_chk_e h
              refine ev_get (C := RX12) (T := TX12) (k := 14) inX12 (xE_12 c_15) rfl (by decide) wd_162 (Or.inl rfl) rfl dX12_takeLongNet_55 ?_
              refine ev_aload_n (j := 1) (x := (some a0)) dX12_takeLongNet_58 rfl rfl ?_
              refine ev_iload_n (j := 0) (x := s0) dX12_takeLongNet_59 rfl rfl ?_
              rcases x_bind_e h with ⟨v_16, σ_17, h_18, h⟩ | ⟨E_46, σ_17, h_18, h⟩
              · have z9 := x_call (M := mX12_takeLongNet) (M' := mX12_netCell) (pc := 60) (st := [.int s0, va_rf (some a0), va_rf (σ_10.R 1114 a0)]) (rest := [va_rf (σ_10.R 1114 a0)]) (av := [va_rf (some a0), .int s0]) (x_linkV (M := mX12_takeLongNet) (M' := mX12_netCell) (As := [.int s0]) (index := 178) (C := RX12) (T := TX12) (xE_12 c_15) rfl wd_685 wd_686 (wG_in (List.mem_append_left _ (List.mem_of_getElem? (i := 53) rfl)) rfl) xw_X12_netCell rfl (by decide) rfl rfl dX12_takeLongNet_60) (ev_X12_netCell hO hP h_18) xw_X12_netCell rfl wd_198 dX12_takeLongNet_60 (by decide) (by decide) (by simp [x_cat, x_catI, x_catJ])
                refine x_callR z9 ?_
                refine ev_at (st' := [.int v_16, va_rf (σ_10.R 1114 a0)]) rfl rfl ?_
                obtain ⟨a_19, ea_19, h⟩ := x_some_e h
                refine ev_at (st' := [.int v_16, va_rf (some a_19)]) rfl (by rw [ea_19]) ?_
                obtain ⟨c_20, h⟩ := x_chk_e h
                refine ev_zald_33 c_20.1 c_20.2 dX12_takeLongNet_63 ?_
                by_cases c_21 : (σ_17.AI a_19 (Int32.toNatClampNeg v_16)) = 0
                · rw [if_pos c_21] at h
                  refine ev_if_eq (x := (σ_17.AI a_19 (Int32.toNatClampNeg v_16))) (tgt := 78) dX12_takeLongNet_64 (by decide) (fun _ => ?_) (fun q9 => absurd c_21 q9)
                  refine ev_aload_n (j := 1) (x := (some a0)) dX12_takeLongNet_78 rfl rfl ?_
                  obtain ⟨c_22, h⟩ := x_chk_e h
                  refine ev_get (C := RX12) (T := TX12) (k := 11) inX12 (xE_12 c_22) rfl (by decide) wd_158 (Or.inl rfl) rfl dX12_takeLongNet_79 ?_
                  refine ev_aload_n (j := 1) (x := (some a0)) dX12_takeLongNet_82 rfl rfl ?_
                  refine ev_iload_n (j := 0) (x := s0) dX12_takeLongNet_83 rfl rfl ?_
                  rcases x_bind_e h with ⟨v_23, σ_24, h_25, h⟩ | ⟨E_45, σ_24, h_25, h⟩
                  · have z9 := x_call (M := mX12_takeLongNet) (M' := mX12_netCell) (pc := 84) (st := [.int s0, va_rf (some a0), va_rf (σ_17.R 1111 a0)]) (rest := [va_rf (σ_17.R 1111 a0)]) (av := [va_rf (some a0), .int s0]) (x_linkV (M := mX12_takeLongNet) (M' := mX12_netCell) (As := [.int s0]) (index := 178) (C := RX12) (T := TX12) (xE_12 c_22) rfl wd_685 wd_686 (wG_in (List.mem_append_left _ (List.mem_of_getElem? (i := 53) rfl)) rfl) xw_X12_netCell rfl (by decide) rfl rfl dX12_takeLongNet_84) (ev_X12_netCell hO hP h_25) xw_X12_netCell rfl wd_198 dX12_takeLongNet_84 (by decide) (by decide) (by simp [x_cat, x_catI, x_catJ])
                    refine x_callR z9 ?_
                    refine ev_at (st' := [.int v_23, va_rf (σ_17.R 1111 a0)]) rfl rfl ?_
                    refine ev_iload_n (j := 2) (x := v1) dX12_takeLongNet_87 rfl rfl ?_
                    obtain ⟨a_26, ea_26, h⟩ := x_some_e h
                    refine ev_at (st' := [.int v1, .int v_23, va_rf (some a_26)]) rfl (by rw [ea_26]) ?_
                    obtain ⟨c_27, h⟩ := x_chk_e h
                    obtain ⟨σ_28, eσ_28, h⟩ := x_let_e h
                    refine ev_iast_31 c_27.1 c_27.2.1 (hP.2.2.2.1 ▸ c_27.2.2) dX12_takeLongNet_88 (eσ_28 ▸ ?_)
                    refine ev_aload_n (j := 1) (x := (some a0)) dX12_takeLongNet_89 rfl rfl ?_
                    obtain ⟨c_29, h⟩ := x_chk_e h
                    refine ev_get (C := RX12) (T := TX12) (k := 12) inX12 (xE_12 c_29) rfl (by decide) wd_159 (Or.inl rfl) rfl dX12_takeLongNet_90 ?_
                    refine ev_aload_n (j := 1) (x := (some a0)) dX12_takeLongNet_93 rfl rfl ?_
                    refine ev_iload_n (j := 0) (x := s0) dX12_takeLongNet_94 rfl rfl ?_
                    rcases x_bind_e h with ⟨v_30, σ_31, h_32, h⟩ | ⟨E_44, σ_31, h_32, h⟩
                    · have z9 := x_call (M := mX12_takeLongNet) (M' := mX12_netCell) (pc := 95) (st := [.int s0, va_rf (some a0), va_rf (σ_28.R 1112 a0)]) (rest := [va_rf (σ_28.R 1112 a0)]) (av := [va_rf (some a0), .int s0]) (x_linkV (M := mX12_takeLongNet) (M' := mX12_netCell) (As := [.int s0]) (index := 178) (C := RX12) (T := TX12) (xE_12 c_29) rfl wd_685 wd_686 (wG_in (List.mem_append_left _ (List.mem_of_getElem? (i := 53) rfl)) rfl) xw_X12_netCell rfl (by decide) rfl rfl dX12_takeLongNet_95) (ev_X12_netCell hO hP h_32) xw_X12_netCell rfl wd_198 dX12_takeLongNet_95 (by decide) (by decide) (by simp [x_cat, x_catI, x_catJ])
                      refine x_callR z9 ?_
                      refine ev_at (st' := [.int v_30, va_rf (σ_28.R 1112 a0)]) rfl rfl ?_
                      refine ev_iload_n (j := 3) (x := v2) dX12_takeLongNet_98 rfl rfl ?_
                      obtain ⟨a_33, ea_33, h⟩ := x_some_e h
                      refine ev_at (st' := [.int v2, .int v_30, va_rf (some a_33)]) rfl (by rw [ea_33]) ?_
                      obtain ⟨c_34, h⟩ := x_chk_e h
                      obtain ⟨σ_35, eσ_35, h⟩ := x_let_e h
                      refine ev_iast_31 c_34.1 c_34.2.1 (hP.2.2.2.1 ▸ c_34.2.2) dX12_takeLongNet_99 (eσ_35 ▸ ?_)
                      refine ev_aload_n (j := 1) (x := (some a0)) dX12_takeLongNet_100 rfl rfl ?_
                      obtain ⟨c_36, h⟩ := x_chk_e h
                      refine ev_get (C := RX12) (T := TX12) (k := 14) inX12 (xE_12 c_36) rfl (by decide) wd_162 (Or.inl rfl) rfl dX12_takeLongNet_101 ?_
                      refine ev_aload_n (j := 1) (x := (some a0)) dX12_takeLongNet_104 rfl rfl ?_
                      refine ev_iload_n (j := 0) (x := s0) dX12_takeLongNet_105 rfl rfl ?_
                      rcases x_bind_e h with ⟨v_37, σ_38, h_39, h⟩ | ⟨E_43, σ_38, h_39, h⟩
                      · have z9 := x_call (M := mX12_takeLongNet) (M' := mX12_netCell) (pc := 106) (st := [.int s0, va_rf (some a0), va_rf (σ_35.R 1114 a0)]) (rest := [va_rf (σ_35.R 1114 a0)]) (av := [va_rf (some a0), .int s0]) (x_linkV (M := mX12_takeLongNet) (M' := mX12_netCell) (As := [.int s0]) (index := 178) (C := RX12) (T := TX12) (xE_12 c_36) rfl wd_685 wd_686 (wG_in (List.mem_append_left _ (List.mem_of_getElem? (i := 53) rfl)) rfl) xw_X12_netCell rfl (by decide) rfl rfl dX12_takeLongNet_106) (ev_X12_netCell hO hP h_39) xw_X12_netCell rfl wd_198 dX12_takeLongNet_106 (by decide) (by decide) (by simp [x_cat, x_catI, x_catJ])
                        refine x_callR z9 ?_
                        refine ev_at (st' := [.int v_37, va_rf (σ_35.R 1114 a0)]) rfl rfl ?_
                        refine ev_iconst (v := 1) dX12_takeLongNet_109 (by decide) ?_
                        obtain ⟨a_40, ea_40, h⟩ := x_some_e h
                        refine ev_at (st' := [.int 1, .int v_37, va_rf (some a_40)]) rfl (by rw [ea_40]) ?_
                        obtain ⟨c_41, h⟩ := x_chk_e h
                        obtain ⟨σ_42, eσ_42, h⟩ := x_let_e h
                        refine ev_zast_33 c_41.1 c_41.2.1 (hP.2.2.2.1 ▸ c_41.2.2.1) (x_boolN c_41.2.2.2) dX12_takeLongNet_110 (eσ_42 ▸ ?_)
                        refine ev_goto (tgt := 158) dX12_takeLongNet_111 (by decide) ?_
                        exact ev_sub [1] rfl (ev_X12_takeLongNet_p158 hO hP h)
                      · have z9 := x_call (M := mX12_takeLongNet) (M' := mX12_netCell) (pc := 106) (st := [.int s0, va_rf (some a0), va_rf (σ_35.R 1114 a0)]) (rest := [va_rf (σ_35.R 1114 a0)]) (av := [va_rf (some a0), .int s0]) (x_linkV (M := mX12_takeLongNet) (M' := mX12_netCell) (As := [.int s0]) (index := 178) (C := RX12) (T := TX12) (xE_12 c_36) rfl wd_685 wd_686 (wG_in (List.mem_append_left _ (List.mem_of_getElem? (i := 53) rfl)) rfl) xw_X12_netCell rfl (by decide) rfl rfl dX12_takeLongNet_106) (ev_X12_netCell hO hP h_39) xw_X12_netCell rfl wd_198 dX12_takeLongNet_106 (by decide) (by decide) (by simp [x_cat, x_catI, x_catJ])
                        cases h
                        exact x_callX z9 (evX_out rfl)
                    · have z9 := x_call (M := mX12_takeLongNet) (M' := mX12_netCell) (pc := 95) (st := [.int s0, va_rf (some a0), va_rf (σ_28.R 1112 a0)]) (rest := [va_rf (σ_28.R 1112 a0)]) (av := [va_rf (some a0), .int s0]) (x_linkV (M := mX12_takeLongNet) (M' := mX12_netCell) (As := [.int s0]) (index := 178) (C := RX12) (T := TX12) (xE_12 c_29) rfl wd_685 wd_686 (wG_in (List.mem_append_left _ (List.mem_of_getElem? (i := 53) rfl)) rfl) xw_X12_netCell rfl (by decide) rfl rfl dX12_takeLongNet_95) (ev_X12_netCell hO hP h_32) xw_X12_netCell rfl wd_198 dX12_takeLongNet_95 (by decide) (by decide) (by simp [x_cat, x_catI, x_catJ])
                      cases h
                      exact x_callX z9 (evX_out rfl)
                  · have z9 := x_call (M := mX12_takeLongNet) (M' := mX12_netCell) (pc := 84) (st := [.int s0, va_rf (some a0), va_rf (σ_17.R 1111 a0)]) (rest := [va_rf (σ_17.R 1111 a0)]) (av := [va_rf (some a0), .int s0]) (x_linkV (M := mX12_takeLongNet) (M' := mX12_netCell) (As := [.int s0]) (index := 178) (C := RX12) (T := TX12) (xE_12 c_22) rfl wd_685 wd_686 (wG_in (List.mem_append_left _ (List.mem_of_getElem? (i := 53) rfl)) rfl) xw_X12_netCell rfl (by decide) rfl rfl dX12_takeLongNet_84) (ev_X12_netCell hO hP h_25) xw_X12_netCell rfl wd_198 dX12_takeLongNet_84 (by decide) (by decide) (by simp [x_cat, x_catI, x_catJ])
                    cases h
                    exact x_callX z9 (evX_out rfl)
                · rw [if_neg c_21] at h
                  refine ev_if_eq (x := (σ_17.AI a_19 (Int32.toNatClampNeg v_16))) (tgt := 78) dX12_takeLongNet_64 (by decide) (fun q9 => absurd q9 c_21) (fun _ => ?_)
                  exact ev_sub [1] rfl (ev_X12_takeLongNet_p67 hO hP h)
              · have z9 := x_call (M := mX12_takeLongNet) (M' := mX12_netCell) (pc := 60) (st := [.int s0, va_rf (some a0), va_rf (σ_10.R 1114 a0)]) (rest := [va_rf (σ_10.R 1114 a0)]) (av := [va_rf (some a0), .int s0]) (x_linkV (M := mX12_takeLongNet) (M' := mX12_netCell) (As := [.int s0]) (index := 178) (C := RX12) (T := TX12) (xE_12 c_15) rfl wd_685 wd_686 (wG_in (List.mem_append_left _ (List.mem_of_getElem? (i := 53) rfl)) rfl) xw_X12_netCell rfl (by decide) rfl rfl dX12_takeLongNet_60) (ev_X12_netCell hO hP h_18) xw_X12_netCell rfl wd_198 dX12_takeLongNet_60 (by decide) (by decide) (by simp [x_cat, x_catI, x_catJ])
                cases h
                exact x_callX z9 (evX_out rfl)
          · have z9 := x_call (M := mX12_takeLongNet) (M' := mX12_mod) (pc := 47) (st := [va_rf (some a0), va_rf (σ_2.R 1108 a0), .int s0]) (rest := [va_rf (σ_2.R 1108 a0), .int s0]) (av := [va_rf (some a0)]) (x_linkV (M := mX12_takeLongNet) (M' := mX12_mod) (As := []) (index := 175) (C := RX12) (T := TX12) (xE_12 c_8) rfl wd_676 wd_677 (wG_in (List.mem_append_left _ (List.mem_of_getElem? (i := 48) rfl)) rfl) xw_X12_mod rfl (by decide) rfl rfl dX12_takeLongNet_47) (ev_X12_mod hO hP h_11) xw_X12_mod rfl wd_198 dX12_takeLongNet_47 (by decide) (by decide) (by simp [x_cat, x_catI, x_catJ])
            cases h
            exact x_callX z9 (evX_out rfl)
  · have z9 := x_call (M := mX12_takeLongNet) (M' := mX12_ok) (pc := 25) (st := [va_rf (some a0)]) (rest := []) (av := [va_rf (some a0)]) (x_linkV (M := mX12_takeLongNet) (M' := mX12_ok) (As := []) (index := 121) (C := RX12) (T := TX12) (xE_12 c_4) rfl wd_640 wd_641 (wG_in (List.mem_append_left _ (List.mem_of_getElem? (i := 37) rfl)) rfl) xw_X12_ok rfl (by decide) rfl rfl dX12_takeLongNet_25) (ev_X12_ok hO hP h_3) xw_X12_ok rfl wd_198 dX12_takeLongNet_25 (by decide) (by decide) (by simp [x_cat, x_catI, x_catJ])
    cases h
    exact x_callX z9 (evX_out rfl)
set_option maxHeartbeats 4000000 in
set_option maxRecDepth 100000 in
theorem ev_X12_takeLongNet {l : Launch} {G : xG} (hO : x_OK l G) {P : xP} (hP : x_PG P G) {a0 : Nat} {v1 : Int32} {v2 : Int32} {σ σ' : xS} {rr : Unit ⊕ String} (h : dm_X12_takeLongNet P a0 v1 v2 σ = some (rr, σ')) : EvM l G mX12_takeLongNet [va_rf (some a0), .int v1, .int v2] σ (xrV rr) σ' := by
  unfold dm_X12_takeLongNet at h
  refine evM_of hO (by decide +kernel) (x_lenI (by simp [x_cat, x_catI, x_catJ, mX12_takeLongNet, xM.maxL])) ?_
  refine Eq.mp (congrArg (fun z => Ev l G mX12_takeLongNet 0 z [] σ (xrV rr) σ') (show [(0, va_rf (some a0)), (1, .int v1), (2, .int v2)] = lv_args 0 [va_rf (some a0), .int v1, .int v2] by simp [lv_args, x_cat, x_catI, x_catJ])) ?_
  refine ev_aload_n (j := 0) (x := (some a0)) dX12_takeLongNet_0 rfl rfl ?_
  obtain ⟨c_4, h⟩ := x_chk_e h
  rcases x_bind_e h with ⟨v_1, σ_2, h_3, h⟩ | ⟨E_16, σ_2, h_3, h⟩
  · have z9 := x_call (M := mX12_takeLongNet) (M' := mX12_needName) (pc := 1) (st := [va_rf (some a0)]) (rest := []) (av := [va_rf (some a0)]) (x_linkV (M := mX12_takeLongNet) (M' := mX12_needName) (As := []) (index := 185) (C := RX12) (T := TX12) (xE_12 c_4) rfl wd_670 wd_671 (wG_in (List.mem_append_left _ (List.mem_of_getElem? (i := 45) rfl)) rfl) xw_X12_needName rfl (by decide) rfl rfl dX12_takeLongNet_1) (ev_X12_needName hO hP h_3) xw_X12_needName rfl wd_198 dX12_takeLongNet_1 (by decide) (by decide) (by simp [x_cat, x_catI, x_catJ])
    refine x_callR z9 ?_
    refine ev_at (st' := []) rfl rfl ?_
    refine ev_aload_n (j := 0) (x := (some a0)) dX12_takeLongNet_4 rfl rfl ?_
    obtain ⟨c_8, h⟩ := x_chk_e h
    rcases x_bind_e h with ⟨v_5, σ_6, h_7, h⟩ | ⟨E_15, σ_6, h_7, h⟩
    · have z9 := x_call (M := mX12_takeLongNet) (M' := mX12_ok) (pc := 5) (st := [va_rf (some a0)]) (rest := []) (av := [va_rf (some a0)]) (x_linkV (M := mX12_takeLongNet) (M' := mX12_ok) (As := []) (index := 121) (C := RX12) (T := TX12) (xE_12 c_8) rfl wd_640 wd_641 (wG_in (List.mem_append_left _ (List.mem_of_getElem? (i := 37) rfl)) rfl) xw_X12_ok rfl (by decide) rfl rfl dX12_takeLongNet_5) (ev_X12_ok hO hP h_7) xw_X12_ok rfl wd_198 dX12_takeLongNet_5 (by decide) (by decide) (by simp [x_cat, x_catI, x_catJ])
      refine x_callR z9 ?_
      refine ev_at (st' := [.int v_5]) rfl rfl ?_
      by_cases c_9 : v_5 = 0
      · rw [if_pos c_9] at h
        refine ev_if_eq (x := v_5) (tgt := 22) dX12_takeLongNet_8 (by decide) (fun _ => ?_) (fun q9 => absurd c_9 q9)
        refine ev_iconst (v := -1) dX12_takeLongNet_22 (by decide) ?_
        exact ev_sub [0, 1, 2] rfl (ev_X12_takeLongNet_p23 hO hP h)
      · rw [if_neg c_9] at h
        refine ev_if_eq (x := v_5) (tgt := 22) dX12_takeLongNet_8 (by decide) (fun q9 => absurd q9 c_9) (fun _ => ?_)
        refine ev_aload_n (j := 0) (x := (some a0)) dX12_takeLongNet_11 rfl rfl ?_
        refine ev_aload_n (j := 0) (x := (some a0)) dX12_takeLongNet_12 rfl rfl ?_
        obtain ⟨c_10, h⟩ := x_chk_e h
        refine ev_get (C := RX12) (T := TX12) (k := 36) inX12 (xE_12 c_10) rfl (by decide) wd_646 (Or.inl rfl) rfl dX12_takeLongNet_13 ?_
        rcases x_bind_e h with ⟨v_11, σ_12, h_13, h⟩ | ⟨E_14, σ_12, h_13, h⟩
        · have z9 := x_call (M := mX12_takeLongNet) (M' := mX12_netNamed) (pc := 16) (st := [.int (σ_6.I 1136 a0), va_rf (some a0)]) (rest := []) (av := [va_rf (some a0), .int (σ_6.I 1136 a0)]) (x_linkV (M := mX12_takeLongNet) (M' := mX12_netNamed) (As := [.int (σ_6.I 1136 a0)]) (index := 188) (C := RX12) (T := TX12) (xE_12 c_10) rfl wd_688 wd_689 (wG_in (List.mem_append_left _ (List.mem_of_getElem? (i := 52) rfl)) rfl) xw_X12_netNamed rfl (by decide) rfl rfl dX12_takeLongNet_16) (ev_X12_netNamed hO hP h_13) xw_X12_netNamed rfl wd_198 dX12_takeLongNet_16 (by decide) (by decide) (by simp [x_cat, x_catI, x_catJ])
          refine x_callR z9 ?_
          refine ev_at (st' := [.int v_11]) rfl rfl ?_
          refine ev_goto (tgt := 23) dX12_takeLongNet_19 (by decide) ?_
          exact ev_sub [0, 1, 2] rfl (ev_X12_takeLongNet_p23 hO hP h)
        · have z9 := x_call (M := mX12_takeLongNet) (M' := mX12_netNamed) (pc := 16) (st := [.int (σ_6.I 1136 a0), va_rf (some a0)]) (rest := []) (av := [va_rf (some a0), .int (σ_6.I 1136 a0)]) (x_linkV (M := mX12_takeLongNet) (M' := mX12_netNamed) (As := [.int (σ_6.I 1136 a0)]) (index := 188) (C := RX12) (T := TX12) (xE_12 c_10) rfl wd_688 wd_689 (wG_in (List.mem_append_left _ (List.mem_of_getElem? (i := 52) rfl)) rfl) xw_X12_netNamed rfl (by decide) rfl rfl dX12_takeLongNet_16) (ev_X12_netNamed hO hP h_13) xw_X12_netNamed rfl wd_198 dX12_takeLongNet_16 (by decide) (by decide) (by simp [x_cat, x_catI, x_catJ])
          cases h
          exact x_callX z9 (evX_out rfl)
    · have z9 := x_call (M := mX12_takeLongNet) (M' := mX12_ok) (pc := 5) (st := [va_rf (some a0)]) (rest := []) (av := [va_rf (some a0)]) (x_linkV (M := mX12_takeLongNet) (M' := mX12_ok) (As := []) (index := 121) (C := RX12) (T := TX12) (xE_12 c_8) rfl wd_640 wd_641 (wG_in (List.mem_append_left _ (List.mem_of_getElem? (i := 37) rfl)) rfl) xw_X12_ok rfl (by decide) rfl rfl dX12_takeLongNet_5) (ev_X12_ok hO hP h_7) xw_X12_ok rfl wd_198 dX12_takeLongNet_5 (by decide) (by decide) (by simp [x_cat, x_catI, x_catJ])
      cases h
      exact x_callX z9 (evX_out rfl)
  · have z9 := x_call (M := mX12_takeLongNet) (M' := mX12_needName) (pc := 1) (st := [va_rf (some a0)]) (rest := []) (av := [va_rf (some a0)]) (x_linkV (M := mX12_takeLongNet) (M' := mX12_needName) (As := []) (index := 185) (C := RX12) (T := TX12) (xE_12 c_4) rfl wd_670 wd_671 (wG_in (List.mem_append_left _ (List.mem_of_getElem? (i := 45) rfl)) rfl) xw_X12_needName rfl (by decide) rfl rfl dX12_takeLongNet_1) (ev_X12_needName hO hP h_3) xw_X12_needName rfl wd_198 dX12_takeLongNet_1 (by decide) (by decide) (by simp [x_cat, x_catI, x_catJ])
    cases h
    exact x_callX z9 (evX_out rfl)
set_option maxHeartbeats 4000000 in
set_option maxRecDepth 100000 in
theorem ev_X12_longNets_p96 {l : Launch} {G : xG} (hO : x_OK l G) {P : xP} (hP : x_PG P G) {a0 : Nat} {σ σ' : xS} {rr : Unit ⊕ String} (h : dm_X12_longNets_p96 P a0 σ = some (rr, σ')) : Ev l G mX12_longNets 96 [(0, va_rf (some a0))] [] σ (xrV rr) σ' := by
  unfold dm_X12_longNets_p96 at h
  refine ev_aload_n (j := 0) (x := (some a0)) dX12_longNets_96 rfl rfl ?_
  refine ev_bipush (v := 59) dX12_longNets_97 (by decide) ?_
  obtain ⟨c_4, h⟩ := x_chk_e h
  rcases x_bind_e h with ⟨v_1, σ_2, h_3, h⟩ | ⟨E_5, σ_2, h_3, h⟩
  · have z9 := x_call (M := mX12_longNets) (M' := mX12_needSign) (pc := 99) (st := [.int 59, va_rf (some a0)]) (rest := []) (av := [va_rf (some a0), .int 59]) (x_linkV (M := mX12_longNets) (M' := mX12_needSign) (As := [.int 59]) (index := 199) (C := RX12) (T := TX12) (xE_12 c_4) rfl wd_697 wd_698 (wG_in (List.mem_append_left _ (List.mem_of_getElem? (i := 49) rfl)) rfl) xw_X12_needSign rfl (by decide) rfl rfl dX12_longNets_99) (ev_X12_needSign hO hP h_3) xw_X12_needSign rfl wd_198 dX12_longNets_99 (by decide) (by decide) (by simp [x_cat, x_catI, x_catJ])
    refine x_callR z9 ?_
    refine ev_at (st' := []) rfl rfl ?_
    cases h
    exact ev_vret rfl dX12_longNets_102
  · have z9 := x_call (M := mX12_longNets) (M' := mX12_needSign) (pc := 99) (st := [.int 59, va_rf (some a0)]) (rest := []) (av := [va_rf (some a0), .int 59]) (x_linkV (M := mX12_longNets) (M' := mX12_needSign) (As := [.int 59]) (index := 199) (C := RX12) (T := TX12) (xE_12 c_4) rfl wd_697 wd_698 (wG_in (List.mem_append_left _ (List.mem_of_getElem? (i := 49) rfl)) rfl) xw_X12_needSign rfl (by decide) rfl rfl dX12_longNets_99) (ev_X12_needSign hO hP h_3) xw_X12_needSign rfl wd_198 dX12_longNets_99 (by decide) (by decide) (by simp [x_cat, x_catI, x_catJ])
    cases h
    exact x_callX z9 (evX_out rfl)
set_option maxHeartbeats 4000000 in
set_option maxRecDepth 100000 in
theorem ev_X12_longNets_L61 {l : Launch} {G : xG} (hO : x_OK l G) {P : xP} (hP : x_PG P G) {a0 : Nat} : ∀ (n : Nat) {v1 : Int32} {v2 : Int32} {v3 : Int32} {σ σ' : xS} {rr : Unit ⊕ String}, dm_X12_longNets_L61 P a0 n v1 v2 v3 σ = some (rr, σ') → Ev l G mX12_longNets 61 [(0, va_rf (some a0)), (1, .int v1), (2, .int v2), (3, .int v3)] [] σ (xrV rr) σ' := by
  intro n
  induction n with
  | zero => intro v1 v2 v3 σ σ' rr h; cases h
  | succ n ih =>
    intro v1 v2 v3 σ σ' rr h
    rw [dm_X12_longNets_L61] at h
    refine ev_iload_n (j := 3) (x := v3) dX12_longNets_61 rfl rfl ?_
    by_cases c_1 : v3 = 0
    · rw [if_pos c_1] at h
      refine ev_if_eq (x := v3) (tgt := 96) dX12_longNets_62 (by decide) (fun _ => ?_) (fun q9 => absurd c_1 q9)
      exact ev_sub [0] rfl (ev_X12_longNets_p96 hO hP h)
    · rw [if_neg c_1] at h
      refine ev_if_eq (x := v3) (tgt := 96) dX12_longNets_62 (by decide) (fun q9 => absurd q9 c_1) (fun _ => ?_)
      refine ev_aload_n (j := 0) (x := (some a0)) dX12_longNets_65 rfl rfl ?_
      obtain ⟨c_5, h⟩ := x_chk_e h
      rcases x_bind_e h with ⟨v_2, σ_3, h_4, h⟩ | ⟨E_23, σ_3, h_4, h⟩
      · have z9 := x_call (M := mX12_longNets) (M' := mX12_ok) (pc := 66) (st := [va_rf (some a0)]) (rest := []) (av := [va_rf (some a0)]) (x_linkV (M := mX12_longNets) (M' := mX12_ok) (As := []) (index := 121) (C := RX12) (T := TX12) (xE_12 c_5) rfl wd_640 wd_641 (wG_in (List.mem_append_left _ (List.mem_of_getElem? (i := 37) rfl)) rfl) xw_X12_ok rfl (by decide) rfl rfl dX12_longNets_66) (ev_X12_ok hO hP h_4) xw_X12_ok rfl wd_198 dX12_longNets_66 (by decide) (by decide) (by simp [x_cat, x_catI, x_catJ])
        refine x_callR z9 ?_
        refine ev_at (st' := [.int v_2]) rfl rfl ?_
        by_cases c_6 : v_2 = 0
        · rw [if_pos c_6] at h
          refine ev_if_eq (x := v_2) (tgt := 96) dX12_longNets_69 (by decide) (fun _ => ?_) (fun q9 => absurd c_6 q9)
          exact ev_sub [0] rfl (ev_X12_longNets_p96 hO hP h)
        · rw [if_neg c_6] at h
          refine ev_if_eq (x := v_2) (tgt := 96) dX12_longNets_69 (by decide) (fun q9 => absurd q9 c_6) (fun _ => ?_)
          refine ev_aload_n (j := 0) (x := (some a0)) dX12_longNets_72 rfl rfl ?_
          refine ev_iload_n (j := 1) (x := v1) dX12_longNets_73 rfl rfl ?_
          refine ev_iload_n (j := 2) (x := v2) dX12_longNets_74 rfl rfl ?_
          obtain ⟨c_10, h⟩ := x_chk_e h
          rcases x_bind_e h with ⟨v_7, σ_8, h_9, h⟩ | ⟨E_22, σ_8, h_9, h⟩
          · have z9 := x_call (M := mX12_longNets) (M' := mX12_takeLongNet) (pc := 75) (st := [.int v2, .int v1, va_rf (some a0)]) (rest := []) (av := [va_rf (some a0), .int v1, .int v2]) (x_linkV (M := mX12_longNets) (M' := mX12_takeLongNet) (As := [.int v1, .int v2]) (index := 202) (C := RX12) (T := TX12) (xE_12 c_10) rfl wd_700 wd_701 (wG_in (List.mem_append_left _ (List.mem_of_getElem? (i := 57) rfl)) rfl) xw_X12_takeLongNet rfl (by decide) rfl rfl dX12_longNets_75) (ev_X12_takeLongNet hO hP h_9) xw_X12_takeLongNet rfl wd_198 dX12_longNets_75 (by decide) (by decide) (by simp [x_cat, x_catI, x_catJ])
            refine x_callR z9 ?_
            refine ev_at (st' := []) rfl rfl ?_
            refine ev_aload_n (j := 0) (x := (some a0)) dX12_longNets_78 rfl rfl ?_
            refine ev_bipush (v := 44) dX12_longNets_79 (by decide) ?_
            obtain ⟨c_14, h⟩ := x_chk_e h
            rcases x_bind_e h with ⟨v_11, σ_12, h_13, h⟩ | ⟨E_21, σ_12, h_13, h⟩
            · have z9 := x_call (M := mX12_longNets) (M' := mX12_isSign) (pc := 81) (st := [.int 44, va_rf (some a0)]) (rest := []) (av := [va_rf (some a0), .int 44]) (x_linkV (M := mX12_longNets) (M' := mX12_isSign) (As := [.int 44]) (index := 166) (C := RX12) (T := TX12) (xE_12 c_14) rfl wd_682 wd_683 (wG_in (List.mem_append_left _ (List.mem_of_getElem? (i := 50) rfl)) rfl) xw_X12_isSign rfl (by decide) rfl rfl dX12_longNets_81) (ev_X12_isSign hO hP h_13) xw_X12_isSign rfl wd_198 dX12_longNets_81 (by decide) (by decide) (by simp [x_cat, x_catI, x_catJ])
              refine x_callR z9 ?_
              refine ev_at (st' := [.int v_11]) rfl rfl ?_
              refine ev_istore_n (i := 3) (lv' := [(3, .int v_11), (0, va_rf (some a0)), (1, .int v1), (2, .int v2)]) dX12_longNets_84 rfl (by decide) rfl ?_
              refine ev_iload_n (j := 0) (x := v_11) dX12_longNets_85 rfl rfl ?_
              by_cases c_15 : v_11 = 0
              · rw [if_pos c_15] at h
                refine ev_if_eq (x := v_11) (tgt := 61) dX12_longNets_86 (by decide) (fun _ => ?_) (fun q9 => absurd c_15 q9)
                exact ev_sub [1, 2, 3, 0] rfl (ih h)
              · rw [if_neg c_15] at h
                refine ev_if_eq (x := v_11) (tgt := 61) dX12_longNets_86 (by decide) (fun q9 => absurd q9 c_15) (fun _ => ?_)
                refine ev_aload_n (j := 1) (x := (some a0)) dX12_longNets_89 rfl rfl ?_
                obtain ⟨c_19, h⟩ := x_chk_e h
                rcases x_bind_e h with ⟨v_16, σ_17, h_18, h⟩ | ⟨E_20, σ_17, h_18, h⟩
                · have z9 := x_call (M := mX12_longNets) (M' := mX12_next) (pc := 90) (st := [va_rf (some a0)]) (rest := []) (av := [va_rf (some a0)]) (x_linkV (M := mX12_longNets) (M' := mX12_next) (As := []) (index := 169) (C := RX12) (T := TX12) (xE_12 c_19) rfl wd_679 wd_680 (wG_in (List.mem_append_left _ (List.mem_of_getElem? (i := 36) rfl)) rfl) xw_X12_next rfl (by decide) rfl rfl dX12_longNets_90) (ev_X12_next hO hP h_18) xw_X12_next rfl wd_198 dX12_longNets_90 (by decide) (by decide) (by simp [x_cat, x_catI, x_catJ])
                  refine x_callR z9 ?_
                  refine ev_at (st' := []) rfl rfl ?_
                  refine ev_goto (tgt := 61) dX12_longNets_93 (by decide) ?_
                  exact ev_sub [1, 2, 3, 0] rfl (ih h)
                · have z9 := x_call (M := mX12_longNets) (M' := mX12_next) (pc := 90) (st := [va_rf (some a0)]) (rest := []) (av := [va_rf (some a0)]) (x_linkV (M := mX12_longNets) (M' := mX12_next) (As := []) (index := 169) (C := RX12) (T := TX12) (xE_12 c_19) rfl wd_679 wd_680 (wG_in (List.mem_append_left _ (List.mem_of_getElem? (i := 36) rfl)) rfl) xw_X12_next rfl (by decide) rfl rfl dX12_longNets_90) (ev_X12_next hO hP h_18) xw_X12_next rfl wd_198 dX12_longNets_90 (by decide) (by decide) (by simp [x_cat, x_catI, x_catJ])
                  cases h
                  exact x_callX z9 (evX_out rfl)
            · have z9 := x_call (M := mX12_longNets) (M' := mX12_isSign) (pc := 81) (st := [.int 44, va_rf (some a0)]) (rest := []) (av := [va_rf (some a0), .int 44]) (x_linkV (M := mX12_longNets) (M' := mX12_isSign) (As := [.int 44]) (index := 166) (C := RX12) (T := TX12) (xE_12 c_14) rfl wd_682 wd_683 (wG_in (List.mem_append_left _ (List.mem_of_getElem? (i := 50) rfl)) rfl) xw_X12_isSign rfl (by decide) rfl rfl dX12_longNets_81) (ev_X12_isSign hO hP h_13) xw_X12_isSign rfl wd_198 dX12_longNets_81 (by decide) (by decide) (by simp [x_cat, x_catI, x_catJ])
              cases h
              exact x_callX z9 (evX_out rfl)
          · have z9 := x_call (M := mX12_longNets) (M' := mX12_takeLongNet) (pc := 75) (st := [.int v2, .int v1, va_rf (some a0)]) (rest := []) (av := [va_rf (some a0), .int v1, .int v2]) (x_linkV (M := mX12_longNets) (M' := mX12_takeLongNet) (As := [.int v1, .int v2]) (index := 202) (C := RX12) (T := TX12) (xE_12 c_10) rfl wd_700 wd_701 (wG_in (List.mem_append_left _ (List.mem_of_getElem? (i := 57) rfl)) rfl) xw_X12_takeLongNet rfl (by decide) rfl rfl dX12_longNets_75) (ev_X12_takeLongNet hO hP h_9) xw_X12_takeLongNet rfl wd_198 dX12_longNets_75 (by decide) (by decide) (by simp [x_cat, x_catI, x_catJ])
            cases h
            exact x_callX z9 (evX_out rfl)
      · have z9 := x_call (M := mX12_longNets) (M' := mX12_ok) (pc := 66) (st := [va_rf (some a0)]) (rest := []) (av := [va_rf (some a0)]) (x_linkV (M := mX12_longNets) (M' := mX12_ok) (As := []) (index := 121) (C := RX12) (T := TX12) (xE_12 c_5) rfl wd_640 wd_641 (wG_in (List.mem_append_left _ (List.mem_of_getElem? (i := 37) rfl)) rfl) xw_X12_ok rfl (by decide) rfl rfl dX12_longNets_66) (ev_X12_ok hO hP h_4) xw_X12_ok rfl wd_198 dX12_longNets_66 (by decide) (by decide) (by simp [x_cat, x_catI, x_catJ])
        cases h
        exact x_callX z9 (evX_out rfl)
set_option maxHeartbeats 4000000 in
set_option maxRecDepth 100000 in
theorem ev_X12_longNets_p59 {l : Launch} {G : xG} (hO : x_OK l G) {P : xP} (hP : x_PG P G) {a0 : Nat} {v1 : Int32} {v2 : Int32} {σ σ' : xS} {rr : Unit ⊕ String} (h : dm_X12_longNets_p59 P a0 v1 v2 σ = some (rr, σ')) : Ev l G mX12_longNets 59 [(0, va_rf (some a0)), (1, .int v1), (2, .int v2)] [] σ (xrV rr) σ' := by
  unfold dm_X12_longNets_p59 at h
  refine ev_iconst (v := 1) dX12_longNets_59 (by decide) ?_
  refine ev_istore_n (i := 3) (lv' := [(3, .int 1), (0, va_rf (some a0)), (1, .int v1), (2, .int v2)]) dX12_longNets_60 rfl (by decide) rfl ?_
  exact ev_sub [1, 2, 3, 0] rfl (ev_X12_longNets_L61 hO hP P.N h)
set_option maxHeartbeats 4000000 in
set_option maxRecDepth 100000 in
theorem ev_X12_longNets {l : Launch} {G : xG} (hO : x_OK l G) {P : xP} (hP : x_PG P G) {a0 : Nat} {v1 : Int32} {σ σ' : xS} {rr : Unit ⊕ String} (h : dm_X12_longNets P a0 v1 σ = some (rr, σ')) : EvM l G mX12_longNets [va_rf (some a0), .int v1] σ (xrV rr) σ' := by
  unfold dm_X12_longNets at h
  refine evM_of hO (by decide +kernel) (x_lenI (by simp [x_cat, x_catI, x_catJ, mX12_longNets, xM.maxL])) ?_
  refine Eq.mp (congrArg (fun z => Ev l G mX12_longNets 0 z [] σ (xrV rr) σ') (show [(0, va_rf (some a0)), (1, .int v1)] = lv_args 0 [va_rf (some a0), .int v1] by simp [lv_args, x_cat, x_catI, x_catJ])) ?_
  refine ev_aload_n (j := 0) (x := (some a0)) dX12_longNets_0 rfl rfl ?_
  obtain ⟨c_4, h⟩ := x_chk_e h
  rcases x_bind_e h with ⟨v_1, σ_2, h_3, h⟩ | ⟨E_47, σ_2, h_3, h⟩
  · have z9 := x_call (M := mX12_longNets) (M' := mX12_next) (pc := 1) (st := [va_rf (some a0)]) (rest := []) (av := [va_rf (some a0)]) (x_linkV (M := mX12_longNets) (M' := mX12_next) (As := []) (index := 169) (C := RX12) (T := TX12) (xE_12 c_4) rfl wd_679 wd_680 (wG_in (List.mem_append_left _ (List.mem_of_getElem? (i := 36) rfl)) rfl) xw_X12_next rfl (by decide) rfl rfl dX12_longNets_1) (ev_X12_next hO hP h_3) xw_X12_next rfl wd_198 dX12_longNets_1 (by decide) (by decide) (by simp [x_cat, x_catI, x_catJ])
    refine x_callR z9 ?_
    refine ev_at (st' := []) rfl rfl ?_
    refine ev_iconst (v := 1) dX12_longNets_4 (by decide) ?_
    refine ev_istore_n (i := 2) (lv' := [(2, .int 1), (0, va_rf (some a0)), (1, .int v1)]) dX12_longNets_5 rfl (by decide) rfl ?_
    refine ev_aload_n (j := 1) (x := (some a0)) dX12_longNets_6 rfl rfl ?_
    refine ev_bipush (v := 91) dX12_longNets_7 (by decide) ?_
    obtain ⟨c_8, h⟩ := x_chk_e h
    rcases x_bind_e h with ⟨v_5, σ_6, h_7, h⟩ | ⟨E_46, σ_6, h_7, h⟩
    · have z9 := x_call (M := mX12_longNets) (M' := mX12_isSign) (pc := 9) (st := [.int 91, va_rf (some a0)]) (rest := []) (av := [va_rf (some a0), .int 91]) (x_linkV (M := mX12_longNets) (M' := mX12_isSign) (As := [.int 91]) (index := 166) (C := RX12) (T := TX12) (xE_12 c_8) rfl wd_682 wd_683 (wG_in (List.mem_append_left _ (List.mem_of_getElem? (i := 50) rfl)) rfl) xw_X12_isSign rfl (by decide) rfl rfl dX12_longNets_9) (ev_X12_isSign hO hP h_7) xw_X12_isSign rfl wd_198 dX12_longNets_9 (by decide) (by decide) (by simp [x_cat, x_catI, x_catJ])
      refine x_callR z9 ?_
      refine ev_at (st' := [.int v_5]) rfl rfl ?_
      by_cases c_9 : v_5 = 0
      · rw [if_pos c_9] at h
        refine ev_if_eq (x := v_5) (tgt := 59) dX12_longNets_12 (by decide) (fun _ => ?_) (fun q9 => absurd c_9 q9)
        exact ev_sub [1, 2, 0] rfl (ev_X12_longNets_p59 hO hP h)
      · rw [if_neg c_9] at h
        refine ev_if_eq (x := v_5) (tgt := 59) dX12_longNets_12 (by decide) (fun q9 => absurd q9 c_9) (fun _ => ?_)
        refine ev_aload_n (j := 1) (x := (some a0)) dX12_longNets_15 rfl rfl ?_
        obtain ⟨c_13, h⟩ := x_chk_e h
        rcases x_bind_e h with ⟨v_10, σ_11, h_12, h⟩ | ⟨E_45, σ_11, h_12, h⟩
        · have z9 := x_call (M := mX12_longNets) (M' := mX12_next) (pc := 16) (st := [va_rf (some a0)]) (rest := []) (av := [va_rf (some a0)]) (x_linkV (M := mX12_longNets) (M' := mX12_next) (As := []) (index := 169) (C := RX12) (T := TX12) (xE_12 c_13) rfl wd_679 wd_680 (wG_in (List.mem_append_left _ (List.mem_of_getElem? (i := 36) rfl)) rfl) xw_X12_next rfl (by decide) rfl rfl dX12_longNets_16) (ev_X12_next hO hP h_12) xw_X12_next rfl wd_198 dX12_longNets_16 (by decide) (by decide) (by simp [x_cat, x_catI, x_catJ])
          refine x_callR z9 ?_
          refine ev_at (st' := []) rfl rfl ?_
          refine ev_aload_n (j := 1) (x := (some a0)) dX12_longNets_19 rfl rfl ?_
          refine ev_iconst (v := 0) dX12_longNets_20 (by decide) ?_
          refine ev_bipush (v := 7) dX12_longNets_21 (by decide) ?_
          obtain ⟨c_17, h⟩ := x_chk_e h
          rcases x_bind_e h with ⟨v_14, σ_15, h_16, h⟩ | ⟨E_44, σ_15, h_16, h⟩
          · have z9 := x_call (M := mX12_longNets) (M' := mX12_needNumber) (pc := 23) (st := [.int 7, .int 0, va_rf (some a0)]) (rest := []) (av := [va_rf (some a0), .int 0, .int 7]) (x_linkV (M := mX12_longNets) (M' := mX12_needNumber) (As := [.int 0, .int 7]) (index := 195) (C := RX12) (T := TX12) (xE_12 c_17) rfl wd_694 wd_695 (wG_in (List.mem_append_left _ (List.mem_of_getElem? (i := 56) rfl)) rfl) xw_X12_needNumber rfl (by decide) rfl rfl dX12_longNets_23) (ev_X12_needNumber hO hP h_16) xw_X12_needNumber rfl wd_198 dX12_longNets_23 (by decide) (by decide) (by simp [x_cat, x_catI, x_catJ])
            refine x_callR z9 ?_
            refine ev_at (st' := []) rfl rfl ?_
            refine ev_aload_n (j := 1) (x := (some a0)) dX12_longNets_26 rfl rfl ?_
            obtain ⟨c_18, h⟩ := x_chk_e h
            refine ev_get (C := RX12) (T := TX12) (k := 38) inX12 (xE_12 c_18) rfl (by decide) wd_654 (Or.inl rfl) rfl dX12_longNets_27 ?_
            refine ev_iconst (v := 1) dX12_longNets_30 (by decide) ?_
            refine ev_iadd (x := (σ_15.I 1138 a0)) (y := 1) dX12_longNets_31 ?_
            obtain ⟨v_19, ev_19, h⟩ := x_let_e h
            rw [← ev_19]
            refine ev_istore_n (i := 2) (lv' := [(2, .int v_19), (0, va_rf (some a0)), (1, .int v1)]) dX12_longNets_32 rfl (by decide) rfl ?_
            refine ev_aload_n (j := 1) (x := (some a0)) dX12_longNets_33 rfl rfl ?_
            rcases x_bind_e h with ⟨v_20, σ_21, h_22, h⟩ | ⟨E_43, σ_21, h_22, h⟩
            · have z9 := x_call (M := mX12_longNets) (M' := mX12_next) (pc := 34) (st := [va_rf (some a0)]) (rest := []) (av := [va_rf (some a0)]) (x_linkV (M := mX12_longNets) (M' := mX12_next) (As := []) (index := 169) (C := RX12) (T := TX12) (xE_12 c_18) rfl wd_679 wd_680 (wG_in (List.mem_append_left _ (List.mem_of_getElem? (i := 36) rfl)) rfl) xw_X12_next rfl (by decide) rfl rfl dX12_longNets_34) (ev_X12_next hO hP h_22) xw_X12_next rfl wd_198 dX12_longNets_34 (by decide) (by decide) (by simp [x_cat, x_catI, x_catJ])
              refine x_callR z9 ?_
              refine ev_at (st' := []) rfl rfl ?_
              refine ev_aload_n (j := 1) (x := (some a0)) dX12_longNets_37 rfl rfl ?_
              refine ev_bipush (v := 58) dX12_longNets_38 (by decide) ?_
              obtain ⟨c_26, h⟩ := x_chk_e h
              rcases x_bind_e h with ⟨v_23, σ_24, h_25, h⟩ | ⟨E_42, σ_24, h_25, h⟩
              · have z9 := x_call (M := mX12_longNets) (M' := mX12_needSign) (pc := 40) (st := [.int 58, va_rf (some a0)]) (rest := []) (av := [va_rf (some a0), .int 58]) (x_linkV (M := mX12_longNets) (M' := mX12_needSign) (As := [.int 58]) (index := 199) (C := RX12) (T := TX12) (xE_12 c_26) rfl wd_697 wd_698 (wG_in (List.mem_append_left _ (List.mem_of_getElem? (i := 49) rfl)) rfl) xw_X12_needSign rfl (by decide) rfl rfl dX12_longNets_40) (ev_X12_needSign hO hP h_25) xw_X12_needSign rfl wd_198 dX12_longNets_40 (by decide) (by decide) (by simp [x_cat, x_catI, x_catJ])
                refine x_callR z9 ?_
                refine ev_at (st' := []) rfl rfl ?_
                refine ev_aload_n (j := 1) (x := (some a0)) dX12_longNets_43 rfl rfl ?_
                refine ev_iconst (v := 0) dX12_longNets_44 (by decide) ?_
                refine ev_iconst (v := 0) dX12_longNets_45 (by decide) ?_
                obtain ⟨c_30, h⟩ := x_chk_e h
                rcases x_bind_e h with ⟨v_27, σ_28, h_29, h⟩ | ⟨E_41, σ_28, h_29, h⟩
                · have z9 := x_call (M := mX12_longNets) (M' := mX12_needNumber) (pc := 46) (st := [.int 0, .int 0, va_rf (some a0)]) (rest := []) (av := [va_rf (some a0), .int 0, .int 0]) (x_linkV (M := mX12_longNets) (M' := mX12_needNumber) (As := [.int 0, .int 0]) (index := 195) (C := RX12) (T := TX12) (xE_12 c_30) rfl wd_694 wd_695 (wG_in (List.mem_append_left _ (List.mem_of_getElem? (i := 56) rfl)) rfl) xw_X12_needNumber rfl (by decide) rfl rfl dX12_longNets_46) (ev_X12_needNumber hO hP h_29) xw_X12_needNumber rfl wd_198 dX12_longNets_46 (by decide) (by decide) (by simp [x_cat, x_catI, x_catJ])
                  refine x_callR z9 ?_
                  refine ev_at (st' := []) rfl rfl ?_
                  refine ev_aload_n (j := 1) (x := (some a0)) dX12_longNets_49 rfl rfl ?_
                  obtain ⟨c_34, h⟩ := x_chk_e h
                  rcases x_bind_e h with ⟨v_31, σ_32, h_33, h⟩ | ⟨E_40, σ_32, h_33, h⟩
                  · have z9 := x_call (M := mX12_longNets) (M' := mX12_next) (pc := 50) (st := [va_rf (some a0)]) (rest := []) (av := [va_rf (some a0)]) (x_linkV (M := mX12_longNets) (M' := mX12_next) (As := []) (index := 169) (C := RX12) (T := TX12) (xE_12 c_34) rfl wd_679 wd_680 (wG_in (List.mem_append_left _ (List.mem_of_getElem? (i := 36) rfl)) rfl) xw_X12_next rfl (by decide) rfl rfl dX12_longNets_50) (ev_X12_next hO hP h_33) xw_X12_next rfl wd_198 dX12_longNets_50 (by decide) (by decide) (by simp [x_cat, x_catI, x_catJ])
                    refine x_callR z9 ?_
                    refine ev_at (st' := []) rfl rfl ?_
                    refine ev_aload_n (j := 1) (x := (some a0)) dX12_longNets_53 rfl rfl ?_
                    refine ev_bipush (v := 93) dX12_longNets_54 (by decide) ?_
                    obtain ⟨c_38, h⟩ := x_chk_e h
                    rcases x_bind_e h with ⟨v_35, σ_36, h_37, h⟩ | ⟨E_39, σ_36, h_37, h⟩
                    · have z9 := x_call (M := mX12_longNets) (M' := mX12_needSign) (pc := 56) (st := [.int 93, va_rf (some a0)]) (rest := []) (av := [va_rf (some a0), .int 93]) (x_linkV (M := mX12_longNets) (M' := mX12_needSign) (As := [.int 93]) (index := 199) (C := RX12) (T := TX12) (xE_12 c_38) rfl wd_697 wd_698 (wG_in (List.mem_append_left _ (List.mem_of_getElem? (i := 49) rfl)) rfl) xw_X12_needSign rfl (by decide) rfl rfl dX12_longNets_56) (ev_X12_needSign hO hP h_37) xw_X12_needSign rfl wd_198 dX12_longNets_56 (by decide) (by decide) (by simp [x_cat, x_catI, x_catJ])
                      refine x_callR z9 ?_
                      refine ev_at (st' := []) rfl rfl ?_
                      exact ev_sub [1, 2, 0] rfl (ev_X12_longNets_p59 hO hP h)
                    · have z9 := x_call (M := mX12_longNets) (M' := mX12_needSign) (pc := 56) (st := [.int 93, va_rf (some a0)]) (rest := []) (av := [va_rf (some a0), .int 93]) (x_linkV (M := mX12_longNets) (M' := mX12_needSign) (As := [.int 93]) (index := 199) (C := RX12) (T := TX12) (xE_12 c_38) rfl wd_697 wd_698 (wG_in (List.mem_append_left _ (List.mem_of_getElem? (i := 49) rfl)) rfl) xw_X12_needSign rfl (by decide) rfl rfl dX12_longNets_56) (ev_X12_needSign hO hP h_37) xw_X12_needSign rfl wd_198 dX12_longNets_56 (by decide) (by decide) (by simp [x_cat, x_catI, x_catJ])
                      cases h
                      exact x_callX z9 (evX_out rfl)
                  · have z9 := x_call (M := mX12_longNets) (M' := mX12_next) (pc := 50) (st := [va_rf (some a0)]) (rest := []) (av := [va_rf (some a0)]) (x_linkV (M := mX12_longNets) (M' := mX12_next) (As := []) (index := 169) (C := RX12) (T := TX12) (xE_12 c_34) rfl wd_679 wd_680 (wG_in (List.mem_append_left _ (List.mem_of_getElem? (i := 36) rfl)) rfl) xw_X12_next rfl (by decide) rfl rfl dX12_longNets_50) (ev_X12_next hO hP h_33) xw_X12_next rfl wd_198 dX12_longNets_50 (by decide) (by decide) (by simp [x_cat, x_catI, x_catJ])
                    cases h
                    exact x_callX z9 (evX_out rfl)
                · have z9 := x_call (M := mX12_longNets) (M' := mX12_needNumber) (pc := 46) (st := [.int 0, .int 0, va_rf (some a0)]) (rest := []) (av := [va_rf (some a0), .int 0, .int 0]) (x_linkV (M := mX12_longNets) (M' := mX12_needNumber) (As := [.int 0, .int 0]) (index := 195) (C := RX12) (T := TX12) (xE_12 c_30) rfl wd_694 wd_695 (wG_in (List.mem_append_left _ (List.mem_of_getElem? (i := 56) rfl)) rfl) xw_X12_needNumber rfl (by decide) rfl rfl dX12_longNets_46) (ev_X12_needNumber hO hP h_29) xw_X12_needNumber rfl wd_198 dX12_longNets_46 (by decide) (by decide) (by simp [x_cat, x_catI, x_catJ])
                  cases h
                  exact x_callX z9 (evX_out rfl)
              · have z9 := x_call (M := mX12_longNets) (M' := mX12_needSign) (pc := 40) (st := [.int 58, va_rf (some a0)]) (rest := []) (av := [va_rf (some a0), .int 58]) (x_linkV (M := mX12_longNets) (M' := mX12_needSign) (As := [.int 58]) (index := 199) (C := RX12) (T := TX12) (xE_12 c_26) rfl wd_697 wd_698 (wG_in (List.mem_append_left _ (List.mem_of_getElem? (i := 49) rfl)) rfl) xw_X12_needSign rfl (by decide) rfl rfl dX12_longNets_40) (ev_X12_needSign hO hP h_25) xw_X12_needSign rfl wd_198 dX12_longNets_40 (by decide) (by decide) (by simp [x_cat, x_catI, x_catJ])
                cases h
                exact x_callX z9 (evX_out rfl)
            · have z9 := x_call (M := mX12_longNets) (M' := mX12_next) (pc := 34) (st := [va_rf (some a0)]) (rest := []) (av := [va_rf (some a0)]) (x_linkV (M := mX12_longNets) (M' := mX12_next) (As := []) (index := 169) (C := RX12) (T := TX12) (xE_12 c_18) rfl wd_679 wd_680 (wG_in (List.mem_append_left _ (List.mem_of_getElem? (i := 36) rfl)) rfl) xw_X12_next rfl (by decide) rfl rfl dX12_longNets_34) (ev_X12_next hO hP h_22) xw_X12_next rfl wd_198 dX12_longNets_34 (by decide) (by decide) (by simp [x_cat, x_catI, x_catJ])
              cases h
              exact x_callX z9 (evX_out rfl)
          · have z9 := x_call (M := mX12_longNets) (M' := mX12_needNumber) (pc := 23) (st := [.int 7, .int 0, va_rf (some a0)]) (rest := []) (av := [va_rf (some a0), .int 0, .int 7]) (x_linkV (M := mX12_longNets) (M' := mX12_needNumber) (As := [.int 0, .int 7]) (index := 195) (C := RX12) (T := TX12) (xE_12 c_17) rfl wd_694 wd_695 (wG_in (List.mem_append_left _ (List.mem_of_getElem? (i := 56) rfl)) rfl) xw_X12_needNumber rfl (by decide) rfl rfl dX12_longNets_23) (ev_X12_needNumber hO hP h_16) xw_X12_needNumber rfl wd_198 dX12_longNets_23 (by decide) (by decide) (by simp [x_cat, x_catI, x_catJ])
            cases h
            exact x_callX z9 (evX_out rfl)
        · have z9 := x_call (M := mX12_longNets) (M' := mX12_next) (pc := 16) (st := [va_rf (some a0)]) (rest := []) (av := [va_rf (some a0)]) (x_linkV (M := mX12_longNets) (M' := mX12_next) (As := []) (index := 169) (C := RX12) (T := TX12) (xE_12 c_13) rfl wd_679 wd_680 (wG_in (List.mem_append_left _ (List.mem_of_getElem? (i := 36) rfl)) rfl) xw_X12_next rfl (by decide) rfl rfl dX12_longNets_16) (ev_X12_next hO hP h_12) xw_X12_next rfl wd_198 dX12_longNets_16 (by decide) (by decide) (by simp [x_cat, x_catI, x_catJ])
          cases h
          exact x_callX z9 (evX_out rfl)
    · have z9 := x_call (M := mX12_longNets) (M' := mX12_isSign) (pc := 9) (st := [.int 91, va_rf (some a0)]) (rest := []) (av := [va_rf (some a0), .int 91]) (x_linkV (M := mX12_longNets) (M' := mX12_isSign) (As := [.int 91]) (index := 166) (C := RX12) (T := TX12) (xE_12 c_8) rfl wd_682 wd_683 (wG_in (List.mem_append_left _ (List.mem_of_getElem? (i := 50) rfl)) rfl) xw_X12_isSign rfl (by decide) rfl rfl dX12_longNets_9) (ev_X12_isSign hO hP h_7) xw_X12_isSign rfl wd_198 dX12_longNets_9 (by decide) (by decide) (by simp [x_cat, x_catI, x_catJ])
      cases h
      exact x_callX z9 (evX_out rfl)
  · have z9 := x_call (M := mX12_longNets) (M' := mX12_next) (pc := 1) (st := [va_rf (some a0)]) (rest := []) (av := [va_rf (some a0)]) (x_linkV (M := mX12_longNets) (M' := mX12_next) (As := []) (index := 169) (C := RX12) (T := TX12) (xE_12 c_4) rfl wd_679 wd_680 (wG_in (List.mem_append_left _ (List.mem_of_getElem? (i := 36) rfl)) rfl) xw_X12_next rfl (by decide) rfl rfl dX12_longNets_1) (ev_X12_next hO hP h_3) xw_X12_next rfl wd_198 dX12_longNets_1 (by decide) (by decide) (by simp [x_cat, x_catI, x_catJ])
    cases h
    exact x_callX z9 (evX_out rfl)
set_option maxHeartbeats 4000000 in
set_option maxRecDepth 100000 in
theorem ev_X12_takeDigits_p103 {l : Launch} {G : xG} (hO : x_OK l G) {P : xP} (hP : x_PG P G) {a0 : Nat} {k56 : Int32 → Int32 → Int32 → xS → xO Int32} (hk56 : ∀ {v2 : Int32} {v3 : Int32} {v4 : Int32} {σ σ' : xS} {rr : Int32 ⊕ String}, k56 v2 v3 v4 σ = some (rr, σ') → Ev l G mX12_takeDigits 56 [(0, va_rf (some a0)), (2, .int v2), (3, .int v3), (4, .int v4)] [] σ (xrI rr) σ') {v2 : Int32} {v4 : Int32} {s0 : Int32} {σ σ' : xS} {rr : Int32 ⊕ String} (h : dm_X12_takeDigits_p103 P k56 a0 v2 v4 s0 σ = some (rr, σ')) : Ev l G mX12_takeDigits 103 [(0, va_rf (some a0)), (2, .int v2), (4, .int v4)] [.int s0] σ (xrI rr) σ' := by
  unfold dm_X12_takeDigits_p103 at h
  refine ev_istore_n (i := 3) (lv' := [(3, .int s0), (0, va_rf (some a0)), (2, .int v2), (4, .int v4)]) dX12_takeDigits_103 rfl (by decide) rfl ?_
  obtain ⟨v_1, ev_1, h⟩ := x_let_e h
  refine ev_iinc (j := 3) (x := v4) (v := v_1) (lv' := [(4, .int v_1), (3, .int s0), (0, va_rf (some a0)), (2, .int v2)]) dX12_takeDigits_104 rfl (by rw [ev_1]; rfl) (by decide) rfl ?_
  refine ev_goto (tgt := 56) dX12_takeDigits_107 (by decide) ?_
  exact ev_sub [2, 3, 1, 0] rfl (hk56 h)
set_option maxHeartbeats 4000000 in
set_option maxRecDepth 100000 in
theorem ev_X12_takeDigits_p98 {l : Launch} {G : xG} (hO : x_OK l G) {P : xP} (hP : x_PG P G) {a0 : Nat} {k56 : Int32 → Int32 → Int32 → xS → xO Int32} (hk56 : ∀ {v2 : Int32} {v3 : Int32} {v4 : Int32} {σ σ' : xS} {rr : Int32 ⊕ String}, k56 v2 v3 v4 σ = some (rr, σ') → Ev l G mX12_takeDigits 56 [(0, va_rf (some a0)), (2, .int v2), (3, .int v3), (4, .int v4)] [] σ (xrI rr) σ') {v2 : Int32} {v4 : Int32} {σ σ' : xS} {rr : Int32 ⊕ String} (h : dm_X12_takeDigits_p98 P k56 a0 v2 v4 σ = some (rr, σ')) : Ev l G mX12_takeDigits 98 [(0, va_rf (some a0)), (2, .int v2), (4, .int v4)] [] σ (xrI rr) σ' := by
  unfold dm_X12_takeDigits_p98 at h
  refine ev_iconst (v := 1) dX12_takeDigits_98 (by decide) ?_
  refine ev_goto (tgt := 103) dX12_takeDigits_99 (by decide) ?_
  exact ev_sub [0, 1, 2] rfl (ev_X12_takeDigits_p103 hO hP hk56 h)
set_option maxHeartbeats 4000000 in
set_option maxRecDepth 100000 in
theorem ev_X12_takeDigits_p129 {l : Launch} {G : xG} (hO : x_OK l G) {P : xP} (hP : x_PG P G) {a0 : Nat} {v2 : Int32} {σ σ' : xS} {rr : Int32 ⊕ String} (h : dm_X12_takeDigits_p129 P a0 v2 σ = some (rr, σ')) : Ev l G mX12_takeDigits 129 [(2, .int v2)] [] σ (xrI rr) σ' := by
  unfold dm_X12_takeDigits_p129 at h
  refine ev_iload_n (j := 0) (x := v2) dX12_takeDigits_129 rfl rfl ?_
  cases h
  exact ev_iret rfl rfl dX12_takeDigits_130
set_option maxHeartbeats 4000000 in
set_option maxRecDepth 100000 in
theorem ev_X12_takeDigits_p110 {l : Launch} {G : xG} (hO : x_OK l G) {P : xP} (hP : x_PG P G) {a0 : Nat} {v2 : Int32} {v3 : Int32} {σ σ' : xS} {rr : Int32 ⊕ String} (h : dm_X12_takeDigits_p110 P a0 v2 v3 σ = some (rr, σ')) : Ev l G mX12_takeDigits 110 [(0, va_rf (some a0)), (2, .int v2), (3, .int v3)] [] σ (xrI rr) σ' := by
  unfold dm_X12_takeDigits_p110 at h
  refine ev_aload_n (j := 0) (x := (some a0)) dX12_takeDigits_110 rfl rfl ?_
  obtain ⟨c_4, h⟩ := x_chk_e h
  rcases x_bind_e h with ⟨v_1, σ_2, h_3, h⟩ | ⟨E_12, σ_2, h_3, h⟩
  · have z9 := x_call (M := mX12_takeDigits) (M' := mX12_ok) (pc := 111) (st := [va_rf (some a0)]) (rest := []) (av := [va_rf (some a0)]) (x_linkV (M := mX12_takeDigits) (M' := mX12_ok) (As := []) (index := 121) (C := RX12) (T := TX12) (xE_12 c_4) rfl wd_640 wd_641 (wG_in (List.mem_append_left _ (List.mem_of_getElem? (i := 37) rfl)) rfl) xw_X12_ok rfl (by decide) rfl rfl dX12_takeDigits_111) (ev_X12_ok hO hP h_3) xw_X12_ok rfl wd_198 dX12_takeDigits_111 (by decide) (by decide) (by simp [x_cat, x_catI, x_catJ])
    refine x_callR z9 ?_
    refine ev_at (st' := [.int v_1]) rfl rfl ?_
    by_cases c_5 : v_1 = 0
    · rw [if_pos c_5] at h
      refine ev_if_eq (x := v_1) (tgt := 129) dX12_takeDigits_114 (by decide) (fun _ => ?_) (fun q9 => absurd c_5 q9)
      exact ev_sub [1] rfl (ev_X12_takeDigits_p129 hO hP h)
    · rw [if_neg c_5] at h
      refine ev_if_eq (x := v_1) (tgt := 129) dX12_takeDigits_114 (by decide) (fun q9 => absurd q9 c_5) (fun _ => ?_)
      refine ev_iload_n (j := 2) (x := v3) dX12_takeDigits_117 rfl rfl ?_
      by_cases c_6 : v3 = 0
      · rw [if_pos c_6] at h
        refine ev_if_ne (x := v3) (tgt := 129) dX12_takeDigits_118 (by decide) (fun q9 => absurd c_6 q9) (fun _ => ?_)
        refine ev_aload_n (j := 0) (x := (some a0)) dX12_takeDigits_121 rfl rfl ?_
        refine ev_aload_n (j := 0) (x := (some a0)) dX12_takeDigits_122 rfl rfl ?_
        obtain ⟨c_7, h⟩ := x_chk_e h
        refine ev_get (C := RX12) (T := TX12) (k := 36) inX12 (xE_12 c_7) rfl (by decide) wd_646 (Or.inl rfl) rfl dX12_takeDigits_123 ?_
        rcases x_bind_e h with ⟨v_8, σ_9, h_10, h⟩ | ⟨E_11, σ_9, h_10, h⟩
        · have z9 := x_call (M := mX12_takeDigits) (M' := mX12_fail) (pc := 126) (st := [.int (σ_2.I 1136 a0), va_rf (some a0)]) (rest := []) (av := [va_rf (some a0), .int (σ_2.I 1136 a0)]) (x_linkV (M := mX12_takeDigits) (M' := mX12_fail) (As := [.int (σ_2.I 1136 a0)]) (index := 150) (C := RX12) (T := TX12) (xE_12 c_7) rfl wd_657 wd_658 (wG_in (List.mem_append_left _ (List.mem_of_getElem? (i := 39) rfl)) rfl) xw_X12_fail rfl (by decide) rfl rfl dX12_takeDigits_126) (ev_X12_fail hO hP h_10) xw_X12_fail rfl wd_198 dX12_takeDigits_126 (by decide) (by decide) (by simp [x_cat, x_catI, x_catJ])
          refine x_callR z9 ?_
          refine ev_at (st' := []) rfl rfl ?_
          exact ev_sub [1] rfl (ev_X12_takeDigits_p129 hO hP h)
        · have z9 := x_call (M := mX12_takeDigits) (M' := mX12_fail) (pc := 126) (st := [.int (σ_2.I 1136 a0), va_rf (some a0)]) (rest := []) (av := [va_rf (some a0), .int (σ_2.I 1136 a0)]) (x_linkV (M := mX12_takeDigits) (M' := mX12_fail) (As := [.int (σ_2.I 1136 a0)]) (index := 150) (C := RX12) (T := TX12) (xE_12 c_7) rfl wd_657 wd_658 (wG_in (List.mem_append_left _ (List.mem_of_getElem? (i := 39) rfl)) rfl) xw_X12_fail rfl (by decide) rfl rfl dX12_takeDigits_126) (ev_X12_fail hO hP h_10) xw_X12_fail rfl wd_198 dX12_takeDigits_126 (by decide) (by decide) (by simp [x_cat, x_catI, x_catJ])
          cases h
          exact x_callX z9 (evX_out rfl)
      · rw [if_neg c_6] at h
        refine ev_if_ne (x := v3) (tgt := 129) dX12_takeDigits_118 (by decide) (fun _ => ?_) (fun q9 => absurd q9 c_6)
        exact ev_sub [1] rfl (ev_X12_takeDigits_p129 hO hP h)
  · have z9 := x_call (M := mX12_takeDigits) (M' := mX12_ok) (pc := 111) (st := [va_rf (some a0)]) (rest := []) (av := [va_rf (some a0)]) (x_linkV (M := mX12_takeDigits) (M' := mX12_ok) (As := []) (index := 121) (C := RX12) (T := TX12) (xE_12 c_4) rfl wd_640 wd_641 (wG_in (List.mem_append_left _ (List.mem_of_getElem? (i := 37) rfl)) rfl) xw_X12_ok rfl (by decide) rfl rfl dX12_takeDigits_111) (ev_X12_ok hO hP h_3) xw_X12_ok rfl wd_198 dX12_takeDigits_111 (by decide) (by decide) (by simp [x_cat, x_catI, x_catJ])
    cases h
    exact x_callX z9 (evX_out rfl)
set_option maxHeartbeats 4000000 in
set_option maxRecDepth 100000 in
theorem ev_X12_takeDigits_L56 {l : Launch} {G : xG} (hO : x_OK l G) {P : xP} (hP : x_PG P G) {a0 : Nat} : ∀ (n : Nat) {v2 : Int32} {v3 : Int32} {v4 : Int32} {σ σ' : xS} {rr : Int32 ⊕ String}, dm_X12_takeDigits_L56 P a0 n v2 v3 v4 σ = some (rr, σ') → Ev l G mX12_takeDigits 56 [(0, va_rf (some a0)), (2, .int v2), (3, .int v3), (4, .int v4)] [] σ (xrI rr) σ' := by
  intro n
  induction n with
  | zero => intro v2 v3 v4 σ σ' rr h; cases h
  | succ n ih =>
    intro v2 v3 v4 σ σ' rr h
    rw [dm_X12_takeDigits_L56] at h
    refine ev_iload (j := 3) (x := v4) dX12_takeDigits_56 rfl ?_
    refine ev_iload_n (j := 1) (x := v2) dX12_takeDigits_58 rfl rfl ?_
    by_cases c_1 : v2 < v4
    · rw [if_pos c_1] at h
      refine ev_icmp_gt (x := v4) (y := v2) (tgt := 110) dX12_takeDigits_59 (by decide) (fun _ => ?_) (fun q9 => absurd c_1 q9)
      exact ev_sub [0, 1, 2] rfl (ev_X12_takeDigits_p110 hO hP h)
    · rw [if_neg c_1] at h
      refine ev_icmp_gt (x := v4) (y := v2) (tgt := 110) dX12_takeDigits_59 (by decide) (fun q9 => absurd q9 c_1) (fun _ => ?_)
      refine ev_iload_n (j := 2) (x := v3) dX12_takeDigits_62 rfl rfl ?_
      by_cases c_2 : v3 = 0
      · rw [if_pos c_2] at h
        refine ev_if_eq (x := v3) (tgt := 110) dX12_takeDigits_63 (by decide) (fun _ => ?_) (fun q9 => absurd c_2 q9)
        exact ev_sub [0, 1, 2] rfl (ev_X12_takeDigits_p110 hO hP h)
      · rw [if_neg c_2] at h
        refine ev_if_eq (x := v3) (tgt := 110) dX12_takeDigits_63 (by decide) (fun q9 => absurd q9 c_2) (fun _ => ?_)
        refine ev_aload_n (j := 0) (x := (some a0)) dX12_takeDigits_66 rfl rfl ?_
        refine ev_aload_n (j := 0) (x := (some a0)) dX12_takeDigits_67 rfl rfl ?_
        obtain ⟨c_3, h⟩ := x_chk_e h
        refine ev_get (C := RX12) (T := TX12) (k := 36) inX12 (xE_12 c_3) rfl (by decide) wd_646 (Or.inl rfl) rfl dX12_takeDigits_68 ?_
        refine ev_iload (j := 3) (x := v4) dX12_takeDigits_71 rfl ?_
        refine ev_iadd (x := (σ.I 1136 a0)) (y := v4) dX12_takeDigits_73 ?_
        rcases x_bind_e h with ⟨v_4, σ_5, h_6, h⟩ | ⟨E_14, σ_5, h_6, h⟩
        · have z9 := x_call (M := mX12_takeDigits) (M' := mX12_sign) (pc := 74) (st := [.int ((σ.I 1136 a0) + v4), va_rf (some a0)]) (rest := []) (av := [va_rf (some a0), .int ((σ.I 1136 a0) + v4)]) (x_linkV (M := mX12_takeDigits) (M' := mX12_sign) (As := [.int ((σ.I 1136 a0) + v4)]) (index := 128) (C := RX12) (T := TX12) (xE_12 c_3) rfl wd_644 wd_645 (wG_in (List.mem_append_left _ (List.mem_of_getElem? (i := 38) rfl)) rfl) xw_X12_sign rfl (by decide) rfl rfl dX12_takeDigits_74) (ev_X12_sign hO hP h_6) xw_X12_sign rfl wd_198 dX12_takeDigits_74 (by decide) (by decide) (by simp [x_cat, x_catI, x_catJ])
          refine x_callR z9 ?_
          refine ev_at (st' := [.int v_4]) rfl rfl ?_
          refine ev_bipush (v := 48) dX12_takeDigits_77 (by decide) ?_
          by_cases c_7 : v_4 = 48
          · rw [if_pos c_7] at h
            refine ev_icmp_eq (x := v_4) (y := 48) (tgt := 98) dX12_takeDigits_79 (by decide) (fun _ => ?_) (fun q9 => absurd c_7 q9)
            exact ev_sub [0, 1, 3] rfl (ev_X12_takeDigits_p98 hO hP ih h)
          · rw [if_neg c_7] at h
            refine ev_icmp_eq (x := v_4) (y := 48) (tgt := 98) dX12_takeDigits_79 (by decide) (fun q9 => absurd q9 c_7) (fun _ => ?_)
            refine ev_aload_n (j := 0) (x := (some a0)) dX12_takeDigits_82 rfl rfl ?_
            refine ev_aload_n (j := 0) (x := (some a0)) dX12_takeDigits_83 rfl rfl ?_
            obtain ⟨c_8, h⟩ := x_chk_e h
            refine ev_get (C := RX12) (T := TX12) (k := 36) inX12 (xE_12 c_8) rfl (by decide) wd_646 (Or.inl rfl) rfl dX12_takeDigits_84 ?_
            refine ev_iload (j := 3) (x := v4) dX12_takeDigits_87 rfl ?_
            refine ev_iadd (x := (σ_5.I 1136 a0)) (y := v4) dX12_takeDigits_89 ?_
            rcases x_bind_e h with ⟨v_9, σ_10, h_11, h⟩ | ⟨E_13, σ_10, h_11, h⟩
            · have z9 := x_call (M := mX12_takeDigits) (M' := mX12_sign) (pc := 90) (st := [.int ((σ_5.I 1136 a0) + v4), va_rf (some a0)]) (rest := []) (av := [va_rf (some a0), .int ((σ_5.I 1136 a0) + v4)]) (x_linkV (M := mX12_takeDigits) (M' := mX12_sign) (As := [.int ((σ_5.I 1136 a0) + v4)]) (index := 128) (C := RX12) (T := TX12) (xE_12 c_8) rfl wd_644 wd_645 (wG_in (List.mem_append_left _ (List.mem_of_getElem? (i := 38) rfl)) rfl) xw_X12_sign rfl (by decide) rfl rfl dX12_takeDigits_90) (ev_X12_sign hO hP h_11) xw_X12_sign rfl wd_198 dX12_takeDigits_90 (by decide) (by decide) (by simp [x_cat, x_catI, x_catJ])
              refine x_callR z9 ?_
              refine ev_at (st' := [.int v_9]) rfl rfl ?_
              refine ev_bipush (v := 49) dX12_takeDigits_93 (by decide) ?_
              by_cases c_12 : v_9 = 49
              · rw [if_pos c_12] at h
                refine ev_icmp_ne (x := v_9) (y := 49) (tgt := 102) dX12_takeDigits_95 (by decide) (fun q9 => absurd c_12 q9) (fun _ => ?_)
                exact ev_sub [0, 1, 3] rfl (ev_X12_takeDigits_p98 hO hP ih h)
              · rw [if_neg c_12] at h
                refine ev_icmp_ne (x := v_9) (y := 49) (tgt := 102) dX12_takeDigits_95 (by decide) (fun _ => ?_) (fun q9 => absurd q9 c_12)
                refine ev_iconst (v := 0) dX12_takeDigits_102 (by decide) ?_
                exact ev_sub [0, 1, 3] rfl (ev_X12_takeDigits_p103 hO hP ih h)
            · have z9 := x_call (M := mX12_takeDigits) (M' := mX12_sign) (pc := 90) (st := [.int ((σ_5.I 1136 a0) + v4), va_rf (some a0)]) (rest := []) (av := [va_rf (some a0), .int ((σ_5.I 1136 a0) + v4)]) (x_linkV (M := mX12_takeDigits) (M' := mX12_sign) (As := [.int ((σ_5.I 1136 a0) + v4)]) (index := 128) (C := RX12) (T := TX12) (xE_12 c_8) rfl wd_644 wd_645 (wG_in (List.mem_append_left _ (List.mem_of_getElem? (i := 38) rfl)) rfl) xw_X12_sign rfl (by decide) rfl rfl dX12_takeDigits_90) (ev_X12_sign hO hP h_11) xw_X12_sign rfl wd_198 dX12_takeDigits_90 (by decide) (by decide) (by simp [x_cat, x_catI, x_catJ])
              cases h
              exact x_callX z9 (evX_out rfl)
        · have z9 := x_call (M := mX12_takeDigits) (M' := mX12_sign) (pc := 74) (st := [.int ((σ.I 1136 a0) + v4), va_rf (some a0)]) (rest := []) (av := [va_rf (some a0), .int ((σ.I 1136 a0) + v4)]) (x_linkV (M := mX12_takeDigits) (M' := mX12_sign) (As := [.int ((σ.I 1136 a0) + v4)]) (index := 128) (C := RX12) (T := TX12) (xE_12 c_3) rfl wd_644 wd_645 (wG_in (List.mem_append_left _ (List.mem_of_getElem? (i := 38) rfl)) rfl) xw_X12_sign rfl (by decide) rfl rfl dX12_takeDigits_74) (ev_X12_sign hO hP h_6) xw_X12_sign rfl wd_198 dX12_takeDigits_74 (by decide) (by decide) (by simp [x_cat, x_catI, x_catJ])
          cases h
          exact x_callX z9 (evX_out rfl)
set_option maxHeartbeats 4000000 in
set_option maxRecDepth 100000 in
theorem ev_X12_takeDigits_p52 {l : Launch} {G : xG} (hO : x_OK l G) {P : xP} (hP : x_PG P G) {a0 : Nat} {v2 : Int32} {s0 : Int32} {σ σ' : xS} {rr : Int32 ⊕ String} (h : dm_X12_takeDigits_p52 P a0 v2 s0 σ = some (rr, σ')) : Ev l G mX12_takeDigits 52 [(0, va_rf (some a0)), (2, .int v2)] [.int s0] σ (xrI rr) σ' := by
  unfold dm_X12_takeDigits_p52 at h
  refine ev_istore_n (i := 3) (lv' := [(3, .int s0), (0, va_rf (some a0)), (2, .int v2)]) dX12_takeDigits_52 rfl (by decide) rfl ?_
  refine ev_iconst (v := 1) dX12_takeDigits_53 (by decide) ?_
  refine ev_istore (i := 4) (lv' := [(4, .int 1), (3, .int s0), (0, va_rf (some a0)), (2, .int v2)]) dX12_takeDigits_54 (by decide) rfl ?_
  exact ev_sub [2, 3, 1, 0] rfl (ev_X12_takeDigits_L56 hO hP P.N h)
set_option maxHeartbeats 4000000 in
set_option maxRecDepth 100000 in
theorem ev_X12_takeDigits_p47 {l : Launch} {G : xG} (hO : x_OK l G) {P : xP} (hP : x_PG P G) {a0 : Nat} {v2 : Int32} {σ σ' : xS} {rr : Int32 ⊕ String} (h : dm_X12_takeDigits_p47 P a0 v2 σ = some (rr, σ')) : Ev l G mX12_takeDigits 47 [(0, va_rf (some a0)), (2, .int v2)] [] σ (xrI rr) σ' := by
  unfold dm_X12_takeDigits_p47 at h
  refine ev_iconst (v := 1) dX12_takeDigits_47 (by decide) ?_
  refine ev_goto (tgt := 52) dX12_takeDigits_48 (by decide) ?_
  exact ev_sub [0, 1] rfl (ev_X12_takeDigits_p52 hO hP h)
set_option maxHeartbeats 4000000 in
set_option maxRecDepth 100000 in
theorem ev_X12_takeDigits_p51 {l : Launch} {G : xG} (hO : x_OK l G) {P : xP} (hP : x_PG P G) {a0 : Nat} {v2 : Int32} {σ σ' : xS} {rr : Int32 ⊕ String} (h : dm_X12_takeDigits_p51 P a0 v2 σ = some (rr, σ')) : Ev l G mX12_takeDigits 51 [(0, va_rf (some a0)), (2, .int v2)] [] σ (xrI rr) σ' := by
  unfold dm_X12_takeDigits_p51 at h
  refine ev_iconst (v := 0) dX12_takeDigits_51 (by decide) ?_
  exact ev_sub [0, 1] rfl (ev_X12_takeDigits_p52 hO hP h)
set_option maxHeartbeats 4000000 in
set_option maxRecDepth 100000 in
theorem ev_X12_takeDigits {l : Launch} {G : xG} (hO : x_OK l G) {P : xP} (hP : x_PG P G) {a0 : Nat} {v1 : Int32} {σ σ' : xS} {rr : Int32 ⊕ String} (h : dm_X12_takeDigits P a0 v1 σ = some (rr, σ')) : EvM l G mX12_takeDigits [va_rf (some a0), .int v1] σ (xrI rr) σ' := by
  unfold dm_X12_takeDigits at h
  refine evM_of hO (by decide +kernel) (x_lenI (by simp [x_cat, x_catI, x_catJ, mX12_takeDigits, xM.maxL])) ?_
  refine Eq.mp (congrArg (fun z => Ev l G mX12_takeDigits 0 z [] σ (xrI rr) σ') (show [(0, va_rf (some a0)), (1, .int v1)] = lv_args 0 [va_rf (some a0), .int v1] by simp [lv_args, x_cat, x_catI, x_catJ])) ?_
  refine ev_aload_n (j := 0) (x := (some a0)) dX12_takeDigits_0 rfl rfl ?_
  obtain ⟨c_1, h⟩ := x_chk_e h
  refine ev_get (C := RX12) (T := TX12) (k := 37) inX12 (xE_12 c_1) rfl (by decide) wd_655 (Or.inl rfl) rfl dX12_takeDigits_1 ?_
  refine ev_aload_n (j := 0) (x := (some a0)) dX12_takeDigits_4 rfl rfl ?_
  refine ev_get (C := RX12) (T := TX12) (k := 36) inX12 (xE_12 c_1) rfl (by decide) wd_646 (Or.inl rfl) rfl dX12_takeDigits_5 ?_
  refine ev_isub (x := (σ.I 1137 a0)) (y := (σ.I 1136 a0)) dX12_takeDigits_8 ?_
  refine ev_iconst (v := 1) dX12_takeDigits_9 (by decide) ?_
  refine ev_isub (x := ((σ.I 1137 a0) - (σ.I 1136 a0))) (y := 1) dX12_takeDigits_10 ?_
  obtain ⟨v_2, ev_2, h⟩ := x_let_e h
  rw [← ev_2]
  refine ev_istore_n (i := 2) (lv' := [(2, .int v_2), (0, va_rf (some a0)), (1, .int v1)]) dX12_takeDigits_11 rfl (by decide) rfl ?_
  refine ev_aload_n (j := 1) (x := (some a0)) dX12_takeDigits_12 rfl rfl ?_
  refine ev_get (C := RX12) (T := TX12) (k := 35) inX12 (xE_12 c_1) rfl (by decide) wd_653 (Or.inl rfl) rfl dX12_takeDigits_13 ?_
  refine ev_iconst (v := 1) dX12_takeDigits_16 (by decide) ?_
  by_cases c_3 : (σ.I 1135 a0) = 1
  · rw [if_pos c_3] at h
    refine ev_icmp_ne (x := (σ.I 1135 a0)) (y := 1) (tgt := 51) dX12_takeDigits_17 (by decide) (fun q9 => absurd c_3 q9) (fun _ => ?_)
    refine ev_aload_n (j := 1) (x := (some a0)) dX12_takeDigits_20 rfl rfl ?_
    refine ev_aload_n (j := 1) (x := (some a0)) dX12_takeDigits_21 rfl rfl ?_
    refine ev_get (C := RX12) (T := TX12) (k := 36) inX12 (xE_12 c_1) rfl (by decide) wd_646 (Or.inl rfl) rfl dX12_takeDigits_22 ?_
    rcases x_bind_e h with ⟨v_4, σ_5, h_6, h⟩ | ⟨E_11, σ_5, h_6, h⟩
    · have z9 := x_call (M := mX12_takeDigits) (M' := mX12_sign) (pc := 25) (st := [.int (σ.I 1136 a0), va_rf (some a0)]) (rest := []) (av := [va_rf (some a0), .int (σ.I 1136 a0)]) (x_linkV (M := mX12_takeDigits) (M' := mX12_sign) (As := [.int (σ.I 1136 a0)]) (index := 128) (C := RX12) (T := TX12) (xE_12 c_1) rfl wd_644 wd_645 (wG_in (List.mem_append_left _ (List.mem_of_getElem? (i := 38) rfl)) rfl) xw_X12_sign rfl (by decide) rfl rfl dX12_takeDigits_25) (ev_X12_sign hO hP h_6) xw_X12_sign rfl wd_198 dX12_takeDigits_25 (by decide) (by decide) (by simp [x_cat, x_catI, x_catJ])
      refine x_callR z9 ?_
      refine ev_at (st' := [.int v_4]) rfl rfl ?_
      refine ev_bipush (v := 98) dX12_takeDigits_28 (by decide) ?_
      by_cases c_7 : v_4 = 98
      · rw [if_pos c_7] at h
        refine ev_icmp_ne (x := v_4) (y := 98) (tgt := 51) dX12_takeDigits_30 (by decide) (fun q9 => absurd c_7 q9) (fun _ => ?_)
        refine ev_iload_n (j := 0) (x := v_2) dX12_takeDigits_33 rfl rfl ?_
        refine ev_iconst (v := 1) dX12_takeDigits_34 (by decide) ?_
        by_cases c_8 : v_2 < 1
        · rw [if_pos c_8] at h
          refine ev_icmp_lt (x := v_2) (y := 1) (tgt := 51) dX12_takeDigits_35 (by decide) (fun _ => ?_) (fun q9 => absurd c_8 q9)
          exact ev_sub [1, 0] rfl (ev_X12_takeDigits_p51 hO hP h)
        · rw [if_neg c_8] at h
          refine ev_icmp_lt (x := v_2) (y := 1) (tgt := 51) dX12_takeDigits_35 (by decide) (fun q9 => absurd q9 c_8) (fun _ => ?_)
          refine ev_iload_n (j := 2) (x := v1) dX12_takeDigits_38 rfl rfl ?_
          by_cases c_9 : v1 = 0
          · rw [if_pos c_9] at h
            refine ev_if_eq (x := v1) (tgt := 47) dX12_takeDigits_39 (by decide) (fun _ => ?_) (fun q9 => absurd c_9 q9)
            exact ev_sub [1, 0] rfl (ev_X12_takeDigits_p47 hO hP h)
          · rw [if_neg c_9] at h
            refine ev_if_eq (x := v1) (tgt := 47) dX12_takeDigits_39 (by decide) (fun q9 => absurd q9 c_9) (fun _ => ?_)
            refine ev_iload_n (j := 0) (x := v_2) dX12_takeDigits_42 rfl rfl ?_
            refine ev_iload_n (j := 2) (x := v1) dX12_takeDigits_43 rfl rfl ?_
            by_cases c_10 : v_2 = v1
            · rw [if_pos c_10] at h
              refine ev_icmp_ne (x := v_2) (y := v1) (tgt := 51) dX12_takeDigits_44 (by decide) (fun q9 => absurd c_10 q9) (fun _ => ?_)
              exact ev_sub [1, 0] rfl (ev_X12_takeDigits_p47 hO hP h)
            · rw [if_neg c_10] at h
              refine ev_icmp_ne (x := v_2) (y := v1) (tgt := 51) dX12_takeDigits_44 (by decide) (fun _ => ?_) (fun q9 => absurd q9 c_10)
              exact ev_sub [1, 0] rfl (ev_X12_takeDigits_p51 hO hP h)
      · rw [if_neg c_7] at h
        refine ev_icmp_ne (x := v_4) (y := 98) (tgt := 51) dX12_takeDigits_30 (by decide) (fun _ => ?_) (fun q9 => absurd q9 c_7)
        exact ev_sub [1, 0] rfl (ev_X12_takeDigits_p51 hO hP h)
    · have z9 := x_call (M := mX12_takeDigits) (M' := mX12_sign) (pc := 25) (st := [.int (σ.I 1136 a0), va_rf (some a0)]) (rest := []) (av := [va_rf (some a0), .int (σ.I 1136 a0)]) (x_linkV (M := mX12_takeDigits) (M' := mX12_sign) (As := [.int (σ.I 1136 a0)]) (index := 128) (C := RX12) (T := TX12) (xE_12 c_1) rfl wd_644 wd_645 (wG_in (List.mem_append_left _ (List.mem_of_getElem? (i := 38) rfl)) rfl) xw_X12_sign rfl (by decide) rfl rfl dX12_takeDigits_25) (ev_X12_sign hO hP h_6) xw_X12_sign rfl wd_198 dX12_takeDigits_25 (by decide) (by decide) (by simp [x_cat, x_catI, x_catJ])
      cases h
      exact x_callX z9 (evX_out rfl)
  · rw [if_neg c_3] at h
    refine ev_icmp_ne (x := (σ.I 1135 a0)) (y := 1) (tgt := 51) dX12_takeDigits_17 (by decide) (fun _ => ?_) (fun q9 => absurd q9 c_3)
    exact ev_sub [1, 0] rfl (ev_X12_takeDigits_p51 hO hP h)
