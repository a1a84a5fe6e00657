set_option maxHeartbeats 4000000 in
set_option maxRecDepth 100000 in
theorem ev_X12_longModule_p150 {l : Launch} {G : xG} (hO : x_OK l G) {P : xP} (hP : x_PG P G) {a0 : Nat} {k93 : xS → xO Unit} (hk93 : ∀ {σ σ' : xS} {rr : Unit ⊕ String}, k93 σ = some (rr, σ') → Ev l G mX12_longModule 93 [(0, va_rf (some a0))] [] σ (xrV rr) σ') {σ σ' : xS} {rr : Unit ⊕ String} (h : dm_X12_longModule_p150 P k93 a0 σ = some (rr, σ')) : Ev l G mX12_longModule 150 [(0, va_rf (some a0))] [] σ (xrV rr) σ' := by
  unfold dm_X12_longModule_p150 at h
  refine ev_goto (tgt := 93) dX12_longModule_150 (by decide) ?_
  exact ev_sub [0] rfl (hk93 h)
set_option maxHeartbeats 4000000 in
set_option maxRecDepth 100000 in
theorem ev_X12_longModule_p133 {l : Launch} {G : xG} (hO : x_OK l G) {P : xP} (hP : x_PG P G) {a0 : Nat} {k93 : xS → xO Unit} (hk93 : ∀ {σ σ' : xS} {rr : Unit ⊕ String}, k93 σ = some (rr, σ') → Ev l G mX12_longModule 93 [(0, va_rf (some a0))] [] σ (xrV rr) σ') {v1 : Int32} {σ σ' : xS} {rr : Unit ⊕ String} (h : dm_X12_longModule_p133 P k93 a0 v1 σ = some (rr, σ')) : Ev l G mX12_longModule 133 [(0, va_rf (some a0)), (1, .int v1)] [] σ (xrV rr) σ' := by
  unfold dm_X12_longModule_p133 at h
  refine ev_iload_n (j := 1) (x := v1) dX12_longModule_133 rfl rfl ?_
  refine ev_iconst (v := 4) dX12_longModule_134 (by decide) ?_
  by_cases c_1 : v1 = 4
  · rw [if_pos c_1] at h
    refine ev_icmp_ne (x := v1) (y := 4) (tgt := 146) dX12_longModule_135 (by decide) (fun q9 => absurd c_1 q9) (fun _ => ?_)
    refine ev_aload_n (j := 0) (x := (some a0)) dX12_longModule_138 rfl rfl ?_
    refine ev_iconst (v := 1) dX12_longModule_139 (by decide) ?_
    obtain ⟨c_10, h⟩ := x_chk_e h
    rcases x_bind_e h with ⟨v_7, σ_8, h_9, h⟩ | ⟨E_11, σ_8, h_9, h⟩
    · have z9 := x_call (M := mX12_longModule) (M' := mX12_readAssign) (pc := 140) (st := [.int 1, va_rf (some a0)]) (rest := []) (av := [va_rf (some a0), .int 1]) (x_linkV (M := mX12_longModule) (M' := mX12_readAssign) (As := [.int 1]) (index := 249) (C := RX12) (T := TX12) (xE_12 c_10) rfl wd_748 wd_749 (wG_in (List.mem_append_left _ (List.mem_of_getElem? (i := 58) rfl)) rfl) xw_X12_readAssign rfl (by decide) rfl rfl dX12_longModule_140) (ev_X12_readAssign hO hP h_9) xw_X12_readAssign rfl wd_198 dX12_longModule_140 (by decide) (by decide) (by simp [x_cat, x_catI, x_catJ])
      refine x_callR z9 ?_
      refine ev_at (st' := []) rfl rfl ?_
      refine ev_goto (tgt := 150) dX12_longModule_143 (by decide) ?_
      exact ev_sub [0] rfl (ev_X12_longModule_p150 hO hP hk93 h)
    · have z9 := x_call (M := mX12_longModule) (M' := mX12_readAssign) (pc := 140) (st := [.int 1, va_rf (some a0)]) (rest := []) (av := [va_rf (some a0), .int 1]) (x_linkV (M := mX12_longModule) (M' := mX12_readAssign) (As := [.int 1]) (index := 249) (C := RX12) (T := TX12) (xE_12 c_10) rfl wd_748 wd_749 (wG_in (List.mem_append_left _ (List.mem_of_getElem? (i := 58) rfl)) rfl) xw_X12_readAssign rfl (by decide) rfl rfl dX12_longModule_140) (ev_X12_readAssign hO hP h_9) xw_X12_readAssign rfl wd_198 dX12_longModule_140 (by decide) (by decide) (by simp [x_cat, x_catI, x_catJ])
      cases h
      exact x_callX z9 (evX_out rfl)
  · rw [if_neg c_1] at h
    refine ev_icmp_ne (x := v1) (y := 4) (tgt := 146) dX12_longModule_135 (by decide) (fun _ => ?_) (fun q9 => absurd q9 c_1)
    refine ev_aload_n (j := 0) (x := (some a0)) dX12_longModule_146 rfl rfl ?_
    obtain ⟨c_5, h⟩ := x_chk_e h
    rcases x_bind_e h with ⟨v_2, σ_3, h_4, h⟩ | ⟨E_6, σ_3, h_4, h⟩
    · have z9 := x_call (M := mX12_longModule) (M' := mX12_longInstance) (pc := 147) (st := [va_rf (some a0)]) (rest := []) (av := [va_rf (some a0)]) (x_linkV (M := mX12_longModule) (M' := mX12_longInstance) (As := []) (index := 253) (C := RX12) (T := TX12) (xE_12 c_5) rfl wd_745 wd_746 (wG_in (List.mem_append_left _ (List.mem_of_getElem? (i := 64) rfl)) rfl) xw_X12_longInstance rfl (by decide) rfl rfl dX12_longModule_147) (ev_X12_longInstance hO hP h_4) xw_X12_longInstance rfl wd_198 dX12_longModule_147 (by decide) (by decide) (by simp [x_cat, x_catI, x_catJ])
      refine x_callR z9 ?_
      refine ev_at (st' := []) rfl rfl ?_
      exact ev_sub [0] rfl (ev_X12_longModule_p150 hO hP hk93 h)
    · have z9 := x_call (M := mX12_longModule) (M' := mX12_longInstance) (pc := 147) (st := [va_rf (some a0)]) (rest := []) (av := [va_rf (some a0)]) (x_linkV (M := mX12_longModule) (M' := mX12_longInstance) (As := []) (index := 253) (C := RX12) (T := TX12) (xE_12 c_5) rfl wd_745 wd_746 (wG_in (List.mem_append_left _ (List.mem_of_getElem? (i := 64) rfl)) rfl) xw_X12_longInstance rfl (by decide) rfl rfl dX12_longModule_147) (ev_X12_longInstance hO hP h_4) xw_X12_longInstance rfl wd_198 dX12_longModule_147 (by decide) (by decide) (by simp [x_cat, x_catI, x_catJ])
      cases h
      exact x_callX z9 (evX_out rfl)
set_option maxHeartbeats 4000000 in
set_option maxRecDepth 100000 in
theorem ev_X12_longModule_p196 {l : Launch} {G : xG} (hO : x_OK l G) {P : xP} (hP : x_PG P G) {a0 : Nat} {k155 : Int32 → xS → xO Unit} (hk155 : ∀ {v1 : Int32} {σ σ' : xS} {rr : Unit ⊕ String}, k155 v1 σ = some (rr, σ') → Ev l G mX12_longModule 155 [(0, va_rf (some a0)), (1, .int v1)] [] σ (xrV rr) σ') {v1 : Int32} {σ σ' : xS} {rr : Unit ⊕ String} (h : dm_X12_longModule_p196 P k155 a0 v1 σ = some (rr, σ')) : Ev l G mX12_longModule 196 [(0, va_rf (some a0)), (1, .int v1)] [] σ (xrV rr) σ' := by
  unfold dm_X12_longModule_p196 at h
  obtain ⟨v_1, ev_1, h⟩ := x_let_e h
  refine ev_iinc (j := 1) (x := v1) (v := v_1) (lv' := [(1, .int v_1), (0, va_rf (some a0))]) dX12_longModule_196 rfl (by rw [ev_1]; rfl) (by decide) (by simp [x_cat, x_catI, x_catJ]) ?_
  refine ev_goto (tgt := 155) dX12_longModule_199 (by decide) ?_
  exact ev_sub [1, 0] rfl (hk155 h)
set_option maxHeartbeats 4000000 in
set_option maxRecDepth 100000 in
theorem ev_X12_longModule_p202 {l : Launch} {G : xG} (hO : x_OK l G) {P : xP} (hP : x_PG P G) {a0 : Nat} {σ σ' : xS} {rr : Unit ⊕ String} (h : dm_X12_longModule_p202 P a0 σ = some (rr, σ')) : Ev l G mX12_longModule 202 [(0, va_rf (some a0))] [] σ (xrV rr) σ' := by
  unfold dm_X12_longModule_p202 at h
  refine ev_aload_n (j := 0) (x := (some a0)) dX12_longModule_202 rfl rfl ?_
  obtain ⟨c_4, h⟩ := x_chk_e h
  rcases x_bind_e h with ⟨v_1, σ_2, h_3, h⟩ | ⟨E_5, σ_2, h_3, h⟩
  · have z9 := x_call (M := mX12_longModule) (M' := mX12_next) (pc := 203) (st := [va_rf (some a0)]) (rest := []) (av := [va_rf (some a0)]) (x_linkV (M := mX12_longModule) (M' := mX12_next) (As := []) (index := 169) (C := RX12) (T := TX12) (xE_12 c_4) rfl wd_679 wd_680 (wG_in (List.mem_append_left _ (List.mem_of_getElem? (i := 36) rfl)) rfl) xw_X12_next rfl (by decide) rfl rfl dX12_longModule_203) (ev_X12_next hO hP h_3) xw_X12_next rfl wd_198 dX12_longModule_203 (by decide) (by decide) (by simp [x_cat, x_catI, x_catJ])
    refine x_callR z9 ?_
    refine ev_at (st' := []) rfl rfl ?_
    cases h
    exact ev_vret rfl dX12_longModule_206
  · have z9 := x_call (M := mX12_longModule) (M' := mX12_next) (pc := 203) (st := [va_rf (some a0)]) (rest := []) (av := [va_rf (some a0)]) (x_linkV (M := mX12_longModule) (M' := mX12_next) (As := []) (index := 169) (C := RX12) (T := TX12) (xE_12 c_4) rfl wd_679 wd_680 (wG_in (List.mem_append_left _ (List.mem_of_getElem? (i := 36) rfl)) rfl) xw_X12_next rfl (by decide) rfl rfl dX12_longModule_203) (ev_X12_next hO hP h_3) xw_X12_next rfl wd_198 dX12_longModule_203 (by decide) (by decide) (by simp [x_cat, x_catI, x_catJ])
    cases h
    exact x_callX z9 (evX_out rfl)
set_option maxHeartbeats 4000000 in
set_option maxRecDepth 100000 in
theorem ev_X12_longModule_L155 {l : Launch} {G : xG} (hO : x_OK l G) {P : xP} (hP : x_PG P G) {a0 : Nat} : ∀ (n : Nat) {v1 : Int32} {σ σ' : xS} {rr : Unit ⊕ String}, dm_X12_longModule_L155 P a0 n v1 σ = some (rr, σ') → Ev l G mX12_longModule 155 [(0, va_rf (some a0)), (1, .int v1)] [] σ (xrV rr) σ' := by
  intro n
  induction n with
  | zero => intro v1 σ σ' rr h; cases h
  | succ n ih =>
    intro v1 σ σ' rr h
    rw [dm_X12_longModule_L155] at h
    refine ev_aload_n (j := 0) (x := (some a0)) dX12_longModule_155 rfl rfl ?_
    obtain ⟨c_4, h⟩ := x_chk_e h
    rcases x_bind_e h with ⟨v_1, σ_2, h_3, h⟩ | ⟨E_27, σ_2, h_3, h⟩
    · have z9 := x_call (M := mX12_longModule) (M' := mX12_ok) (pc := 156) (st := [va_rf (some a0)]) (rest := []) (av := [va_rf (some a0)]) (x_linkV (M := mX12_longModule) (M' := mX12_ok) (As := []) (index := 121) (C := RX12) (T := TX12) (xE_12 c_4) rfl wd_640 wd_641 (wG_in (List.mem_append_left _ (List.mem_of_getElem? (i := 37) rfl)) rfl) xw_X12_ok rfl (by decide) rfl rfl dX12_longModule_156) (ev_X12_ok hO hP h_3) xw_X12_ok rfl wd_198 dX12_longModule_156 (by decide) (by decide) (by simp [x_cat, x_catI, x_catJ])
      refine x_callR z9 ?_
      refine ev_at (st' := [.int v_1]) rfl rfl ?_
      by_cases c_5 : v_1 = 0
      · rw [if_pos c_5] at h
        refine ev_if_eq (x := v_1) (tgt := 202) dX12_longModule_159 (by decide) (fun _ => ?_) (fun q9 => absurd c_5 q9)
        exact ev_sub [0] rfl (ev_X12_longModule_p202 hO hP h)
      · rw [if_neg c_5] at h
        refine ev_if_eq (x := v_1) (tgt := 202) dX12_longModule_159 (by decide) (fun q9 => absurd q9 c_5) (fun _ => ?_)
        refine ev_iload_n (j := 1) (x := v1) dX12_longModule_162 rfl rfl ?_
        refine ev_aload_n (j := 0) (x := (some a0)) dX12_longModule_163 rfl rfl ?_
        obtain ⟨c_6, h⟩ := x_chk_e h
        refine ev_get (C := RX12) (T := TX12) (k := 8) inX12 (xE_12 c_6) rfl (by decide) wd_155 (Or.inl rfl) rfl dX12_longModule_164 ?_
        refine ev_aload_n (j := 0) (x := (some a0)) dX12_longModule_167 rfl rfl ?_
        rcases x_bind_e h with ⟨v_7, σ_8, h_9, h⟩ | ⟨E_26, σ_8, h_9, h⟩
        · have z9 := x_call (M := mX12_longModule) (M' := mX12_mod) (pc := 168) (st := [va_rf (some a0), va_rf (σ_2.R 1108 a0), .int v1]) (rest := [va_rf (σ_2.R 1108 a0), .int v1]) (av := [va_rf (some a0)]) (x_linkV (M := mX12_longModule) (M' := mX12_mod) (As := []) (index := 175) (C := RX12) (T := TX12) (xE_12 c_6) rfl wd_676 wd_677 (wG_in (List.mem_append_left _ (List.mem_of_getElem? (i := 48) rfl)) rfl) xw_X12_mod rfl (by decide) rfl rfl dX12_longModule_168) (ev_X12_mod hO hP h_9) xw_X12_mod rfl wd_198 dX12_longModule_168 (by decide) (by decide) (by simp [x_cat, x_catI, x_catJ])
          refine x_callR z9 ?_
          refine ev_at (st' := [.int v_7, va_rf (σ_2.R 1108 a0), .int v1]) rfl rfl ?_
          obtain ⟨a_10, ea_10, h⟩ := x_some_e h
          refine ev_at (st' := [.int v_7, va_rf (some a_10), .int v1]) rfl (by rw [ea_10]) ?_
          obtain ⟨c_11, h⟩ := x_chk_e h
          refine ev_iald_31 c_11.1 c_11.2 dX12_longModule_171 ?_
          by_cases c_12 : (σ_8.AI a_10 (Int32.toNatClampNeg v_7)) ≤ v1
          · rw [if_pos c_12] at h
            refine ev_icmp_ge (x := v1) (y := (σ_8.AI a_10 (Int32.toNatClampNeg v_7))) (tgt := 202) dX12_longModule_172 (by decide) (fun _ => ?_) (fun q9 => absurd c_12 q9)
            exact ev_sub [0] rfl (ev_X12_longModule_p202 hO hP h)
          · rw [if_neg c_12] at h
            refine ev_icmp_ge (x := v1) (y := (σ_8.AI a_10 (Int32.toNatClampNeg v_7))) (tgt := 202) dX12_longModule_172 (by decide) (fun q9 => absurd q9 c_12) (fun _ => ?_)
            refine ev_aload_n (j := 0) (x := (some a0)) dX12_longModule_175 rfl rfl ?_
            obtain ⟨c_13, h⟩ := x_chk_e h
            refine ev_get (C := RX12) (T := TX12) (k := 14) inX12 (xE_12 c_13) rfl (by decide) wd_162 (Or.inl rfl) rfl dX12_longModule_176 ?_
            refine ev_aload_n (j := 0) (x := (some a0)) dX12_longModule_179 rfl rfl ?_
            refine ev_iload_n (j := 1) (x := v1) dX12_longModule_180 rfl rfl ?_
            rcases x_bind_e h with ⟨v_14, σ_15, h_16, h⟩ | ⟨E_25, σ_15, h_16, h⟩
            · have z9 := x_call (M := mX12_longModule) (M' := mX12_netCell) (pc := 181) (st := [.int v1, va_rf (some a0), va_rf (σ_8.R 1114 a0)]) (rest := [va_rf (σ_8.R 1114 a0)]) (av := [va_rf (some a0), .int v1]) (x_linkV (M := mX12_longModule) (M' := mX12_netCell) (As := [.int v1]) (index := 178) (C := RX12) (T := TX12) (xE_12 c_13) rfl wd_685 wd_686 (wG_in (List.mem_append_left _ (List.mem_of_getElem? (i := 53) rfl)) rfl) xw_X12_netCell rfl (by decide) rfl rfl dX12_longModule_181) (ev_X12_netCell hO hP h_16) xw_X12_netCell rfl wd_198 dX12_longModule_181 (by decide) (by decide) (by simp [x_cat, x_catI, x_catJ])
              refine x_callR z9 ?_
              refine ev_at (st' := [.int v_14, va_rf (σ_8.R 1114 a0)]) rfl rfl ?_
              obtain ⟨a_17, ea_17, h⟩ := x_some_e h
              refine ev_at (st' := [.int v_14, va_rf (some a_17)]) rfl (by rw [ea_17]) ?_
              obtain ⟨c_18, h⟩ := x_chk_e h
              refine ev_zald_33 c_18.1 c_18.2 dX12_longModule_184 ?_
              by_cases c_19 : (σ_15.AI a_17 (Int32.toNatClampNeg v_14)) = 0
              · rw [if_pos c_19] at h
                refine ev_if_ne (x := (σ_15.AI a_17 (Int32.toNatClampNeg v_14))) (tgt := 196) dX12_longModule_185 (by decide) (fun q9 => absurd c_19 q9) (fun _ => ?_)
                refine ev_aload_n (j := 0) (x := (some a0)) dX12_longModule_188 rfl rfl ?_
                refine ev_aload_n (j := 0) (x := (some a0)) dX12_longModule_189 rfl rfl ?_
                obtain ⟨c_20, h⟩ := x_chk_e h
                refine ev_get (C := RX12) (T := TX12) (k := 36) inX12 (xE_12 c_20) rfl (by decide) wd_646 (Or.inl rfl) rfl dX12_longModule_190 ?_
                rcases x_bind_e h with ⟨v_21, σ_22, h_23, h⟩ | ⟨E_24, σ_22, h_23, h⟩
                · have z9 := x_call (M := mX12_longModule) (M' := mX12_fail) (pc := 193) (st := [.int (σ_15.I 1136 a0), va_rf (some a0)]) (rest := []) (av := [va_rf (some a0), .int (σ_15.I 1136 a0)]) (x_linkV (M := mX12_longModule) (M' := mX12_fail) (As := [.int (σ_15.I 1136 a0)]) (index := 150) (C := RX12) (T := TX12) (xE_12 c_20) rfl wd_657 wd_658 (wG_in (List.mem_append_left _ (List.mem_of_getElem? (i := 39) rfl)) rfl) xw_X12_fail rfl (by decide) rfl rfl dX12_longModule_193) (ev_X12_fail hO hP h_23) xw_X12_fail rfl wd_198 dX12_longModule_193 (by decide) (by decide) (by simp [x_cat, x_catI, x_catJ])
                  refine x_callR z9 ?_
                  refine ev_at (st' := []) rfl rfl ?_
                  exact ev_sub [0, 1] rfl (ev_X12_longModule_p196 hO hP ih h)
                · have z9 := x_call (M := mX12_longModule) (M' := mX12_fail) (pc := 193) (st := [.int (σ_15.I 1136 a0), va_rf (some a0)]) (rest := []) (av := [va_rf (some a0), .int (σ_15.I 1136 a0)]) (x_linkV (M := mX12_longModule) (M' := mX12_fail) (As := [.int (σ_15.I 1136 a0)]) (index := 150) (C := RX12) (T := TX12) (xE_12 c_20) rfl wd_657 wd_658 (wG_in (List.mem_append_left _ (List.mem_of_getElem? (i := 39) rfl)) rfl) xw_X12_fail rfl (by decide) rfl rfl dX12_longModule_193) (ev_X12_fail hO hP h_23) xw_X12_fail rfl wd_198 dX12_longModule_193 (by decide) (by decide) (by simp [x_cat, x_catI, x_catJ])
                  cases h
                  exact x_callX z9 (evX_out rfl)
              · rw [if_neg c_19] at h
                refine ev_if_ne (x := (σ_15.AI a_17 (Int32.toNatClampNeg v_14))) (tgt := 196) dX12_longModule_185 (by decide) (fun _ => ?_) (fun q9 => absurd q9 c_19)
                exact ev_sub [0, 1] rfl (ev_X12_longModule_p196 hO hP ih h)
            · have z9 := x_call (M := mX12_longModule) (M' := mX12_netCell) (pc := 181) (st := [.int v1, va_rf (some a0), va_rf (σ_8.R 1114 a0)]) (rest := [va_rf (σ_8.R 1114 a0)]) (av := [va_rf (some a0), .int v1]) (x_linkV (M := mX12_longModule) (M' := mX12_netCell) (As := [.int v1]) (index := 178) (C := RX12) (T := TX12) (xE_12 c_13) rfl wd_685 wd_686 (wG_in (List.mem_append_left _ (List.mem_of_getElem? (i := 53) rfl)) rfl) xw_X12_netCell rfl (by decide) rfl rfl dX12_longModule_181) (ev_X12_netCell hO hP h_16) xw_X12_netCell rfl wd_198 dX12_longModule_181 (by decide) (by decide) (by simp [x_cat, x_catI, x_catJ])
              cases h
              exact x_callX z9 (evX_out rfl)
        · have z9 := x_call (M := mX12_longModule) (M' := mX12_mod) (pc := 168) (st := [va_rf (some a0), va_rf (σ_2.R 1108 a0), .int v1]) (rest := [va_rf (σ_2.R 1108 a0), .int v1]) (av := [va_rf (some a0)]) (x_linkV (M := mX12_longModule) (M' := mX12_mod) (As := []) (index := 175) (C := RX12) (T := TX12) (xE_12 c_6) rfl wd_676 wd_677 (wG_in (List.mem_append_left _ (List.mem_of_getElem? (i := 48) rfl)) rfl) xw_X12_mod rfl (by decide) rfl rfl dX12_longModule_168) (ev_X12_mod hO hP h_9) xw_X12_mod rfl wd_198 dX12_longModule_168 (by decide) (by decide) (by simp [x_cat, x_catI, x_catJ])
          cases h
          exact x_callX z9 (evX_out rfl)
    · have z9 := x_call (M := mX12_longModule) (M' := mX12_ok) (pc := 156) (st := [va_rf (some a0)]) (rest := []) (av := [va_rf (some a0)]) (x_linkV (M := mX12_longModule) (M' := mX12_ok) (As := []) (index := 121) (C := RX12) (T := TX12) (xE_12 c_4) rfl wd_640 wd_641 (wG_in (List.mem_append_left _ (List.mem_of_getElem? (i := 37) rfl)) rfl) xw_X12_ok rfl (by decide) rfl rfl dX12_longModule_156) (ev_X12_ok hO hP h_3) xw_X12_ok rfl wd_198 dX12_longModule_156 (by decide) (by decide) (by simp [x_cat, x_catI, x_catJ])
      cases h
      exact x_callX z9 (evX_out rfl)
set_option maxHeartbeats 4000000 in
set_option maxRecDepth 100000 in
theorem ev_X12_longModule_p153 {l : Launch} {G : xG} (hO : x_OK l G) {P : xP} (hP : x_PG P G) {a0 : Nat} {σ σ' : xS} {rr : Unit ⊕ String} (h : dm_X12_longModule_p153 P a0 σ = some (rr, σ')) : Ev l G mX12_longModule 153 [(0, va_rf (some a0))] [] σ (xrV rr) σ' := by
  unfold dm_X12_longModule_p153 at h
  refine ev_iconst (v := 0) dX12_longModule_153 (by decide) ?_
  refine ev_istore_n (i := 1) (lv' := [(1, .int 0), (0, va_rf (some a0))]) dX12_longModule_154 rfl (by decide) (by simp [x_cat, x_catI, x_catJ]) ?_
  exact ev_sub [1, 0] rfl (ev_X12_longModule_L155 hO hP P.N h)
set_option maxHeartbeats 4000000 in
set_option maxRecDepth 100000 in
theorem ev_X12_longModule_L93 {l : Launch} {G : xG} (hO : x_OK l G) {P : xP} (hP : x_PG P G) {a0 : Nat} : ∀ (n : Nat) {σ σ' : xS} {rr : Unit ⊕ String}, dm_X12_longModule_L93 P a0 n σ = some (rr, σ') → Ev l G mX12_longModule 93 [(0, va_rf (some a0))] [] σ (xrV rr) σ' := by
  intro n
  induction n with
  | zero => intro σ σ' rr h; cases h
  | succ n ih =>
    intro σ σ' rr h
    rw [dm_X12_longModule_L93] at h
    refine ev_aload_n (j := 0) (x := (some a0)) dX12_longModule_93 rfl rfl ?_
    obtain ⟨c_4, h⟩ := x_chk_e h
    rcases x_bind_e h with ⟨v_1, σ_2, h_3, h⟩ | ⟨E_24, σ_2, h_3, h⟩
    · have z9 := x_call (M := mX12_longModule) (M' := mX12_ok) (pc := 94) (st := [va_rf (some a0)]) (rest := []) (av := [va_rf (some a0)]) (x_linkV (M := mX12_longModule) (M' := mX12_ok) (As := []) (index := 121) (C := RX12) (T := TX12) (xE_12 c_4) rfl wd_640 wd_641 (wG_in (List.mem_append_left _ (List.mem_of_getElem? (i := 37) rfl)) rfl) xw_X12_ok rfl (by decide) rfl rfl dX12_longModule_94) (ev_X12_ok hO hP h_3) xw_X12_ok rfl wd_198 dX12_longModule_94 (by decide) (by decide) (by simp [x_cat, x_catI, x_catJ])
      refine x_callR z9 ?_
      refine ev_at (st' := [.int v_1]) rfl rfl ?_
      by_cases c_5 : v_1 = 0
      · rw [if_pos c_5] at h
        refine ev_if_eq (x := v_1) (tgt := 153) dX12_longModule_97 (by decide) (fun _ => ?_) (fun q9 => absurd c_5 q9)
        exact ev_sub [0] rfl (ev_X12_longModule_p153 hO hP h)
      · rw [if_neg c_5] at h
        refine ev_if_eq (x := v_1) (tgt := 153) dX12_longModule_97 (by decide) (fun q9 => absurd q9 c_5) (fun _ => ?_)
        refine ev_aload_n (j := 0) (x := (some a0)) dX12_longModule_100 rfl rfl ?_
        refine ev_iconst (v := 5) dX12_longModule_101 (by decide) ?_
        obtain ⟨c_9, h⟩ := x_chk_e h
        rcases x_bind_e h with ⟨v_6, σ_7, h_8, h⟩ | ⟨E_23, σ_7, h_8, h⟩
        · have z9 := x_call (M := mX12_longModule) (M' := mX12_isKey) (pc := 102) (st := [.int 5, va_rf (some a0)]) (rest := []) (av := [va_rf (some a0), .int 5]) (x_linkV (M := mX12_longModule) (M' := mX12_isKey) (As := [.int 5]) (index := 237) (C := RX12) (T := TX12) (xE_12 c_9) rfl wd_733 wd_734 (wG_in (List.mem_append_left _ (List.mem_of_getElem? (i := 41) rfl)) rfl) xw_X12_isKey rfl (by decide) rfl rfl dX12_longModule_102) (ev_X12_isKey hO hP h_8) xw_X12_isKey rfl wd_198 dX12_longModule_102 (by decide) (by decide) (by simp [x_cat, x_catI, x_catJ])
          refine x_callR z9 ?_
          refine ev_at (st' := [.int v_6]) rfl rfl ?_
          by_cases c_10 : v_6 = 0
          · rw [if_pos c_10] at h
            refine ev_if_ne (x := v_6) (tgt := 153) dX12_longModule_105 (by decide) (fun q9 => absurd c_10 q9) (fun _ => ?_)
            refine ev_aload_n (j := 0) (x := (some a0)) dX12_longModule_108 rfl rfl ?_
            obtain ⟨c_14, h⟩ := x_chk_e h
            rcases x_bind_e h with ⟨v_11, σ_12, h_13, h⟩ | ⟨E_22, σ_12, h_13, h⟩
            · have z9 := x_call (M := mX12_longModule) (M' := mX12_keyword) (pc := 109) (st := [va_rf (some a0)]) (rest := []) (av := [va_rf (some a0)]) (x_linkV (M := mX12_longModule) (M' := mX12_keyword) (As := []) (index := 162) (C := RX12) (T := TX12) (xE_12 c_14) rfl wd_663 wd_664 (wG_in (List.mem_append_left _ (List.mem_of_getElem? (i := 42) rfl)) rfl) xw_X12_keyword rfl (by decide) rfl rfl dX12_longModule_109) (ev_X12_keyword hO hP h_13) xw_X12_keyword rfl wd_198 dX12_longModule_109 (by decide) (by decide) (by simp [x_cat, x_catI, x_catJ])
              refine x_callR z9 ?_
              refine ev_at (st' := [.int v_11]) rfl rfl ?_
              refine ev_istore_n (i := 1) (lv' := [(1, .int v_11), (0, va_rf (some a0))]) dX12_longModule_112 rfl (by decide) (by simp [x_cat, x_catI, x_catJ]) ?_
              refine ev_iload_n (j := 0) (x := v_11) dX12_longModule_113 rfl rfl ?_
              refine ev_iconst (v := 1) dX12_longModule_114 (by decide) ?_
              by_cases c_15 : v_11 < 1
              · rw [if_pos c_15] at h
                refine ev_icmp_lt (x := v_11) (y := 1) (tgt := 133) dX12_longModule_115 (by decide) (fun _ => ?_) (fun q9 => absurd c_15 q9)
                exact ev_sub [1, 0] rfl (ev_X12_longModule_p133 hO hP ih h)
              · rw [if_neg c_15] at h
                refine ev_icmp_lt (x := v_11) (y := 1) (tgt := 133) dX12_longModule_115 (by decide) (fun q9 => absurd q9 c_15) (fun _ => ?_)
                refine ev_iload_n (j := 0) (x := v_11) dX12_longModule_118 rfl rfl ?_
                refine ev_iconst (v := 3) dX12_longModule_119 (by decide) ?_
                by_cases c_16 : 3 < v_11
                · rw [if_pos c_16] at h
                  refine ev_icmp_gt (x := v_11) (y := 3) (tgt := 133) dX12_longModule_120 (by decide) (fun _ => ?_) (fun q9 => absurd c_16 q9)
                  exact ev_sub [1, 0] rfl (ev_X12_longModule_p133 hO hP ih h)
                · rw [if_neg c_16] at h
                  refine ev_icmp_gt (x := v_11) (y := 3) (tgt := 133) dX12_longModule_120 (by decide) (fun q9 => absurd q9 c_16) (fun _ => ?_)
                  refine ev_aload_n (j := 1) (x := (some a0)) dX12_longModule_123 rfl rfl ?_
                  refine ev_iload_n (j := 0) (x := v_11) dX12_longModule_124 rfl rfl ?_
                  refine ev_iconst (v := 1) dX12_longModule_125 (by decide) ?_
                  refine ev_isub (x := v_11) (y := 1) dX12_longModule_126 ?_
                  obtain ⟨c_20, h⟩ := x_chk_e h
                  rcases x_bind_e h with ⟨v_17, σ_18, h_19, h⟩ | ⟨E_21, σ_18, h_19, h⟩
                  · have z9 := x_call (M := mX12_longModule) (M' := mX12_longNets) (pc := 127) (st := [.int (v_11 - 1), va_rf (some a0)]) (rest := []) (av := [va_rf (some a0), .int (v_11 - 1)]) (x_linkV (M := mX12_longModule) (M' := mX12_longNets) (As := [.int (v_11 - 1)]) (index := 246) (C := RX12) (T := TX12) (xE_12 c_20) rfl wd_742 wd_743 (wG_in (List.mem_append_left _ (List.mem_of_getElem? (i := 55) rfl)) rfl) xw_X12_longNets rfl (by decide) rfl rfl dX12_longModule_127) (ev_X12_longNets hO hP h_19) xw_X12_longNets rfl wd_198 dX12_longModule_127 (by decide) (by decide) (by simp [x_cat, x_catI, x_catJ])
                    refine x_callR z9 ?_
                    refine ev_at (st' := []) rfl rfl ?_
                    refine ev_goto (tgt := 150) dX12_longModule_130 (by decide) ?_
                    exact ev_sub [1] rfl (ev_X12_longModule_p150 hO hP ih h)
                  · have z9 := x_call (M := mX12_longModule) (M' := mX12_longNets) (pc := 127) (st := [.int (v_11 - 1), va_rf (some a0)]) (rest := []) (av := [va_rf (some a0), .int (v_11 - 1)]) (x_linkV (M := mX12_longModule) (M' := mX12_longNets) (As := [.int (v_11 - 1)]) (index := 246) (C := RX12) (T := TX12) (xE_12 c_20) rfl wd_742 wd_743 (wG_in (List.mem_append_left _ (List.mem_of_getElem? (i := 55) rfl)) rfl) xw_X12_longNets rfl (by decide) rfl rfl dX12_longModule_127) (ev_X12_longNets hO hP h_19) xw_X12_longNets rfl wd_198 dX12_longModule_127 (by decide) (by decide) (by simp [x_cat, x_catI, x_catJ])
                    cases h
                    exact x_callX z9 (evX_out rfl)
            · have z9 := x_call (M := mX12_longModule) (M' := mX12_keyword) (pc := 109) (st := [va_rf (some a0)]) (rest := []) (av := [va_rf (some a0)]) (x_linkV (M := mX12_longModule) (M' := mX12_keyword) (As := []) (index := 162) (C := RX12) (T := TX12) (xE_12 c_14) rfl wd_663 wd_664 (wG_in (List.mem_append_left _ (List.mem_of_getElem? (i := 42) rfl)) rfl) xw_X12_keyword rfl (by decide) rfl rfl dX12_longModule_109) (ev_X12_keyword hO hP h_13) xw_X12_keyword rfl wd_198 dX12_longModule_109 (by decide) (by decide) (by simp [x_cat, x_catI, x_catJ])
              cases h
              exact x_callX z9 (evX_out rfl)
          · rw [if_neg c_10] at h
            refine ev_if_ne (x := v_6) (tgt := 153) dX12_longModule_105 (by decide) (fun _ => ?_) (fun q9 => absurd q9 c_10)
            exact ev_sub [0] rfl (ev_X12_longModule_p153 hO hP h)
        · have z9 := x_call (M := mX12_longModule) (M' := mX12_isKey) (pc := 102) (st := [.int 5, va_rf (some a0)]) (rest := []) (av := [va_rf (some a0), .int 5]) (x_linkV (M := mX12_longModule) (M' := mX12_isKey) (As := [.int 5]) (index := 237) (C := RX12) (T := TX12) (xE_12 c_9) rfl wd_733 wd_734 (wG_in (List.mem_append_left _ (List.mem_of_getElem? (i := 41) rfl)) rfl) xw_X12_isKey rfl (by decide) rfl rfl dX12_longModule_102) (ev_X12_isKey hO hP h_8) xw_X12_isKey rfl wd_198 dX12_longModule_102 (by decide) (by decide) (by simp [x_cat, x_catI, x_catJ])
          cases h
          exact x_callX z9 (evX_out rfl)
    · have z9 := x_call (M := mX12_longModule) (M' := mX12_ok) (pc := 94) (st := [va_rf (some a0)]) (rest := []) (av := [va_rf (some a0)]) (x_linkV (M := mX12_longModule) (M' := mX12_ok) (As := []) (index := 121) (C := RX12) (T := TX12) (xE_12 c_4) rfl wd_640 wd_641 (wG_in (List.mem_append_left _ (List.mem_of_getElem? (i := 37) rfl)) rfl) xw_X12_ok rfl (by decide) rfl rfl dX12_longModule_94) (ev_X12_ok hO hP h_3) xw_X12_ok rfl wd_198 dX12_longModule_94 (by decide) (by decide) (by simp [x_cat, x_catI, x_catJ])
      cases h
      exact x_callX z9 (evX_out rfl)
set_option maxHeartbeats 4000000 in
set_option maxRecDepth 100000 in
theorem ev_X12_longModule_p81 {l : Launch} {G : xG} (hO : x_OK l G) {P : xP} (hP : x_PG P G) {a0 : Nat} {σ σ' : xS} {rr : Unit ⊕ String} (h : dm_X12_longModule_p81 P a0 σ = some (rr, σ')) : Ev l G mX12_longModule 81 [(0, va_rf (some a0))] [] σ (xrV rr) σ' := by
  unfold dm_X12_longModule_p81 at h
  refine ev_aload_n (j := 0) (x := (some a0)) dX12_longModule_81 rfl rfl ?_
  refine ev_bipush (v := 41) dX12_longModule_82 (by decide) ?_
  obtain ⟨c_4, h⟩ := x_chk_e h
  rcases x_bind_e h with ⟨v_1, σ_2, h_3, h⟩ | ⟨E_10, σ_2, h_3, h⟩
  · have z9 := x_call (M := mX12_longModule) (M' := mX12_needSign) (pc := 84) (st := [.int 41, va_rf (some a0)]) (rest := []) (av := [va_rf (some a0), .int 41]) (x_linkV (M := mX12_longModule) (M' := mX12_needSign) (As := [.int 41]) (index := 199) (C := RX12) (T := TX12) (xE_12 c_4) rfl wd_697 wd_698 (wG_in (List.mem_append_left _ (List.mem_of_getElem? (i := 49) rfl)) rfl) xw_X12_needSign rfl (by decide) rfl rfl dX12_longModule_84) (ev_X12_needSign hO hP h_3) xw_X12_needSign rfl wd_198 dX12_longModule_84 (by decide) (by decide) (by simp [x_cat, x_catI, x_catJ])
    refine x_callR z9 ?_
    refine ev_at (st' := []) rfl rfl ?_
    refine ev_aload_n (j := 0) (x := (some a0)) dX12_longModule_87 rfl rfl ?_
    refine ev_bipush (v := 59) dX12_longModule_88 (by decide) ?_
    obtain ⟨c_8, h⟩ := x_chk_e h
    rcases x_bind_e h with ⟨v_5, σ_6, h_7, h⟩ | ⟨E_9, σ_6, h_7, h⟩
    · have z9 := x_call (M := mX12_longModule) (M' := mX12_needSign) (pc := 90) (st := [.int 59, va_rf (some a0)]) (rest := []) (av := [va_rf (some a0), .int 59]) (x_linkV (M := mX12_longModule) (M' := mX12_needSign) (As := [.int 59]) (index := 199) (C := RX12) (T := TX12) (xE_12 c_8) rfl wd_697 wd_698 (wG_in (List.mem_append_left _ (List.mem_of_getElem? (i := 49) rfl)) rfl) xw_X12_needSign rfl (by decide) rfl rfl dX12_longModule_90) (ev_X12_needSign hO hP h_7) xw_X12_needSign rfl wd_198 dX12_longModule_90 (by decide) (by decide) (by simp [x_cat, x_catI, x_catJ])
      refine x_callR z9 ?_
      refine ev_at (st' := []) rfl rfl ?_
      exact ev_sub [0] rfl (ev_X12_longModule_L93 hO hP P.N h)
    · have z9 := x_call (M := mX12_longModule) (M' := mX12_needSign) (pc := 90) (st := [.int 59, va_rf (some a0)]) (rest := []) (av := [va_rf (some a0), .int 59]) (x_linkV (M := mX12_longModule) (M' := mX12_needSign) (As := [.int 59]) (index := 199) (C := RX12) (T := TX12) (xE_12 c_8) rfl wd_697 wd_698 (wG_in (List.mem_append_left _ (List.mem_of_getElem? (i := 49) rfl)) rfl) xw_X12_needSign rfl (by decide) rfl rfl dX12_longModule_90) (ev_X12_needSign hO hP h_7) xw_X12_needSign rfl wd_198 dX12_longModule_90 (by decide) (by decide) (by simp [x_cat, x_catI, x_catJ])
      cases h
      exact x_callX z9 (evX_out rfl)
  · have z9 := x_call (M := mX12_longModule) (M' := mX12_needSign) (pc := 84) (st := [.int 41, va_rf (some a0)]) (rest := []) (av := [va_rf (some a0), .int 41]) (x_linkV (M := mX12_longModule) (M' := mX12_needSign) (As := [.int 41]) (index := 199) (C := RX12) (T := TX12) (xE_12 c_4) rfl wd_697 wd_698 (wG_in (List.mem_append_left _ (List.mem_of_getElem? (i := 49) rfl)) rfl) xw_X12_needSign rfl (by decide) rfl rfl dX12_longModule_84) (ev_X12_needSign hO hP h_3) xw_X12_needSign rfl wd_198 dX12_longModule_84 (by decide) (by decide) (by simp [x_cat, x_catI, x_catJ])
    cases h
    exact x_callX z9 (evX_out rfl)
set_option maxHeartbeats 4000000 in
set_option maxRecDepth 100000 in
theorem ev_X12_longModule_L48 {l : Launch} {G : xG} (hO : x_OK l G) {P : xP} (hP : x_PG P G) {a0 : Nat} : ∀ (n : Nat) {v1 : Int32} {σ σ' : xS} {rr : Unit ⊕ String}, dm_X12_longModule_L48 P a0 n v1 σ = some (rr, σ') → Ev l G mX12_longModule 48 [(0, va_rf (some a0)), (1, .int v1)] [] σ (xrV rr) σ' := by
  intro n
  induction n with
  | zero => intro v1 σ σ' rr h; cases h
  | succ n ih =>
    intro v1 σ σ' rr h
    rw [dm_X12_longModule_L48] at h
    refine ev_iload_n (j := 1) (x := v1) dX12_longModule_48 rfl rfl ?_
    by_cases c_1 : v1 = 0
    · rw [if_pos c_1] at h
      refine ev_if_eq (x := v1) (tgt := 81) dX12_longModule_49 (by decide) (fun _ => ?_) (fun q9 => absurd c_1 q9)
      exact ev_sub [0] rfl (ev_X12_longModule_p81 hO hP h)
    · rw [if_neg c_1] at h
      refine ev_if_eq (x := v1) (tgt := 81) dX12_longModule_49 (by decide) (fun q9 => absurd q9 c_1) (fun _ => ?_)
      refine ev_aload_n (j := 0) (x := (some a0)) dX12_longModule_52 rfl rfl ?_
      obtain ⟨c_5, h⟩ := x_chk_e h
      rcases x_bind_e h with ⟨v_2, σ_3, h_4, h⟩ | ⟨E_23, σ_3, h_4, h⟩
      · have z9 := x_call (M := mX12_longModule) (M' := mX12_ok) (pc := 53) (st := [va_rf (some a0)]) (rest := []) (av := [va_rf (some a0)]) (x_linkV (M := mX12_longModule) (M' := mX12_ok) (As := []) (index := 121) (C := RX12) (T := TX12) (xE_12 c_5) rfl wd_640 wd_641 (wG_in (List.mem_append_left _ (List.mem_of_getElem? (i := 37) rfl)) rfl) xw_X12_ok rfl (by decide) rfl rfl dX12_longModule_53) (ev_X12_ok hO hP h_4) xw_X12_ok rfl wd_198 dX12_longModule_53 (by decide) (by decide) (by simp [x_cat, x_catI, x_catJ])
        refine x_callR z9 ?_
        refine ev_at (st' := [.int v_2]) rfl rfl ?_
        by_cases c_6 : v_2 = 0
        · rw [if_pos c_6] at h
          refine ev_if_eq (x := v_2) (tgt := 81) dX12_longModule_56 (by decide) (fun _ => ?_) (fun q9 => absurd c_6 q9)
          exact ev_sub [0] rfl (ev_X12_longModule_p81 hO hP h)
        · rw [if_neg c_6] at h
          refine ev_if_eq (x := v_2) (tgt := 81) dX12_longModule_56 (by decide) (fun q9 => absurd q9 c_6) (fun _ => ?_)
          refine ev_aload_n (j := 0) (x := (some a0)) dX12_longModule_59 rfl rfl ?_
          obtain ⟨c_10, h⟩ := x_chk_e h
          rcases x_bind_e h with ⟨v_7, σ_8, h_9, h⟩ | ⟨E_22, σ_8, h_9, h⟩
          · have z9 := x_call (M := mX12_longModule) (M' := mX12_takePort) (pc := 60) (st := [va_rf (some a0)]) (rest := []) (av := [va_rf (some a0)]) (x_linkV (M := mX12_longModule) (M' := mX12_takePort) (As := []) (index := 243) (C := RX12) (T := TX12) (xE_12 c_10) rfl wd_739 wd_740 (wG_in (List.mem_append_left _ (List.mem_of_getElem? (i := 51) rfl)) rfl) xw_X12_takePort rfl (by decide) rfl rfl dX12_longModule_60) (ev_X12_takePort hO hP h_9) xw_X12_takePort rfl wd_198 dX12_longModule_60 (by decide) (by decide) (by simp [x_cat, x_catI, x_catJ])
            refine x_callR z9 ?_
            refine ev_at (st' := []) rfl rfl ?_
            refine ev_aload_n (j := 0) (x := (some a0)) dX12_longModule_63 rfl rfl ?_
            refine ev_bipush (v := 44) dX12_longModule_64 (by decide) ?_
            obtain ⟨c_14, h⟩ := x_chk_e h
            rcases x_bind_e h with ⟨v_11, σ_12, h_13, h⟩ | ⟨E_21, σ_12, h_13, h⟩
            · have z9 := x_call (M := mX12_longModule) (M' := mX12_isSign) (pc := 66) (st := [.int 44, va_rf (some a0)]) (rest := []) (av := [va_rf (some a0), .int 44]) (x_linkV (M := mX12_longModule) (M' := mX12_isSign) (As := [.int 44]) (index := 166) (C := RX12) (T := TX12) (xE_12 c_14) rfl wd_682 wd_683 (wG_in (List.mem_append_left _ (List.mem_of_getElem? (i := 50) rfl)) rfl) xw_X12_isSign rfl (by decide) rfl rfl dX12_longModule_66) (ev_X12_isSign hO hP h_13) xw_X12_isSign rfl wd_198 dX12_longModule_66 (by decide) (by decide) (by simp [x_cat, x_catI, x_catJ])
              refine x_callR z9 ?_
              refine ev_at (st' := [.int v_11]) rfl rfl ?_
              refine ev_istore_n (i := 1) (lv' := [(1, .int v_11), (0, va_rf (some a0))]) dX12_longModule_69 rfl (by decide) (by simp [x_cat, x_catI, x_catJ]) ?_
              refine ev_iload_n (j := 0) (x := v_11) dX12_longModule_70 rfl rfl ?_
              by_cases c_15 : v_11 = 0
              · rw [if_pos c_15] at h
                refine ev_if_eq (x := v_11) (tgt := 48) dX12_longModule_71 (by decide) (fun _ => ?_) (fun q9 => absurd c_15 q9)
                exact ev_sub [1, 0] rfl (ih h)
              · rw [if_neg c_15] at h
                refine ev_if_eq (x := v_11) (tgt := 48) dX12_longModule_71 (by decide) (fun q9 => absurd q9 c_15) (fun _ => ?_)
                refine ev_aload_n (j := 1) (x := (some a0)) dX12_longModule_74 rfl rfl ?_
                obtain ⟨c_19, h⟩ := x_chk_e h
                rcases x_bind_e h with ⟨v_16, σ_17, h_18, h⟩ | ⟨E_20, σ_17, h_18, h⟩
                · have z9 := x_call (M := mX12_longModule) (M' := mX12_next) (pc := 75) (st := [va_rf (some a0)]) (rest := []) (av := [va_rf (some a0)]) (x_linkV (M := mX12_longModule) (M' := mX12_next) (As := []) (index := 169) (C := RX12) (T := TX12) (xE_12 c_19) rfl wd_679 wd_680 (wG_in (List.mem_append_left _ (List.mem_of_getElem? (i := 36) rfl)) rfl) xw_X12_next rfl (by decide) rfl rfl dX12_longModule_75) (ev_X12_next hO hP h_18) xw_X12_next rfl wd_198 dX12_longModule_75 (by decide) (by decide) (by simp [x_cat, x_catI, x_catJ])
                  refine x_callR z9 ?_
                  refine ev_at (st' := []) rfl rfl ?_
                  refine ev_goto (tgt := 48) dX12_longModule_78 (by decide) ?_
                  exact ev_sub [1, 0] rfl (ih h)
                · have z9 := x_call (M := mX12_longModule) (M' := mX12_next) (pc := 75) (st := [va_rf (some a0)]) (rest := []) (av := [va_rf (some a0)]) (x_linkV (M := mX12_longModule) (M' := mX12_next) (As := []) (index := 169) (C := RX12) (T := TX12) (xE_12 c_19) rfl wd_679 wd_680 (wG_in (List.mem_append_left _ (List.mem_of_getElem? (i := 36) rfl)) rfl) xw_X12_next rfl (by decide) rfl rfl dX12_longModule_75) (ev_X12_next hO hP h_18) xw_X12_next rfl wd_198 dX12_longModule_75 (by decide) (by decide) (by simp [x_cat, x_catI, x_catJ])
                  cases h
                  exact x_callX z9 (evX_out rfl)
            · have z9 := x_call (M := mX12_longModule) (M' := mX12_isSign) (pc := 66) (st := [.int 44, va_rf (some a0)]) (rest := []) (av := [va_rf (some a0), .int 44]) (x_linkV (M := mX12_longModule) (M' := mX12_isSign) (As := [.int 44]) (index := 166) (C := RX12) (T := TX12) (xE_12 c_14) rfl wd_682 wd_683 (wG_in (List.mem_append_left _ (List.mem_of_getElem? (i := 50) rfl)) rfl) xw_X12_isSign rfl (by decide) rfl rfl dX12_longModule_66) (ev_X12_isSign hO hP h_13) xw_X12_isSign rfl wd_198 dX12_longModule_66 (by decide) (by decide) (by simp [x_cat, x_catI, x_catJ])
              cases h
              exact x_callX z9 (evX_out rfl)
          · have z9 := x_call (M := mX12_longModule) (M' := mX12_takePort) (pc := 60) (st := [va_rf (some a0)]) (rest := []) (av := [va_rf (some a0)]) (x_linkV (M := mX12_longModule) (M' := mX12_takePort) (As := []) (index := 243) (C := RX12) (T := TX12) (xE_12 c_10) rfl wd_739 wd_740 (wG_in (List.mem_append_left _ (List.mem_of_getElem? (i := 51) rfl)) rfl) xw_X12_takePort rfl (by decide) rfl rfl dX12_longModule_60) (ev_X12_takePort hO hP h_9) xw_X12_takePort rfl wd_198 dX12_longModule_60 (by decide) (by decide) (by simp [x_cat, x_catI, x_catJ])
            cases h
            exact x_callX z9 (evX_out rfl)
      · have z9 := x_call (M := mX12_longModule) (M' := mX12_ok) (pc := 53) (st := [va_rf (some a0)]) (rest := []) (av := [va_rf (some a0)]) (x_linkV (M := mX12_longModule) (M' := mX12_ok) (As := []) (index := 121) (C := RX12) (T := TX12) (xE_12 c_5) rfl wd_640 wd_641 (wG_in (List.mem_append_left _ (List.mem_of_getElem? (i := 37) rfl)) rfl) xw_X12_ok rfl (by decide) rfl rfl dX12_longModule_53) (ev_X12_ok hO hP h_4) xw_X12_ok rfl wd_198 dX12_longModule_53 (by decide) (by decide) (by simp [x_cat, x_catI, x_catJ])
        cases h
        exact x_callX z9 (evX_out rfl)
set_option maxHeartbeats 4000000 in
set_option maxRecDepth 100000 in
theorem ev_X12_longModule_p16 {l : Launch} {G : xG} (hO : x_OK l G) {P : xP} (hP : x_PG P G) {a0 : Nat} {σ σ' : xS} {rr : Unit ⊕ String} (h : dm_X12_longModule_p16 P a0 σ = some (rr, σ')) : Ev l G mX12_longModule 16 [(0, va_rf (some a0))] [] σ (xrV rr) σ' := by
  unfold dm_X12_longModule_p16 at h
  refine ev_aload_n (j := 0) (x := (some a0)) dX12_longModule_16 rfl rfl ?_
  obtain ⟨c_4, h⟩ := x_chk_e h
  rcases x_bind_e h with ⟨v_1, σ_2, h_3, h⟩ | ⟨E_27, σ_2, h_3, h⟩
  · have z9 := x_call (M := mX12_longModule) (M' := mX12_next) (pc := 17) (st := [va_rf (some a0)]) (rest := []) (av := [va_rf (some a0)]) (x_linkV (M := mX12_longModule) (M' := mX12_next) (As := []) (index := 169) (C := RX12) (T := TX12) (xE_12 c_4) rfl wd_679 wd_680 (wG_in (List.mem_append_left _ (List.mem_of_getElem? (i := 36) rfl)) rfl) xw_X12_next rfl (by decide) rfl rfl dX12_longModule_17) (ev_X12_next hO hP h_3) xw_X12_next rfl wd_198 dX12_longModule_17 (by decide) (by decide) (by simp [x_cat, x_catI, x_catJ])
    refine x_callR z9 ?_
    refine ev_at (st' := []) rfl rfl ?_
    refine ev_aload_n (j := 0) (x := (some a0)) dX12_longModule_20 rfl rfl ?_
    obtain ⟨c_8, h⟩ := x_chk_e h
    rcases x_bind_e h with ⟨v_5, σ_6, h_7, h⟩ | ⟨E_26, σ_6, h_7, h⟩
    · have z9 := x_call (M := mX12_longModule) (M' := mX12_takeModule) (pc := 21) (st := [va_rf (some a0)]) (rest := []) (av := [va_rf (some a0)]) (x_linkV (M := mX12_longModule) (M' := mX12_takeModule) (As := []) (index := 240) (C := RX12) (T := TX12) (xE_12 c_8) rfl wd_736 wd_737 (wG_in (List.mem_append_left _ (List.mem_of_getElem? (i := 44) rfl)) rfl) xw_X12_takeModule rfl (by decide) rfl rfl dX12_longModule_21) (ev_X12_takeModule hO hP h_7) xw_X12_takeModule rfl wd_198 dX12_longModule_21 (by decide) (by decide) (by simp [x_cat, x_catI, x_catJ])
      refine x_callR z9 ?_
      refine ev_at (st' := []) rfl rfl ?_
      refine ev_aload_n (j := 0) (x := (some a0)) dX12_longModule_24 rfl rfl ?_
      refine ev_bipush (v := 40) dX12_longModule_25 (by decide) ?_
      obtain ⟨c_12, h⟩ := x_chk_e h
      rcases x_bind_e h with ⟨v_9, σ_10, h_11, h⟩ | ⟨E_25, σ_10, h_11, h⟩
      · have z9 := x_call (M := mX12_longModule) (M' := mX12_needSign) (pc := 27) (st := [.int 40, va_rf (some a0)]) (rest := []) (av := [va_rf (some a0), .int 40]) (x_linkV (M := mX12_longModule) (M' := mX12_needSign) (As := [.int 40]) (index := 199) (C := RX12) (T := TX12) (xE_12 c_12) rfl wd_697 wd_698 (wG_in (List.mem_append_left _ (List.mem_of_getElem? (i := 49) rfl)) rfl) xw_X12_needSign rfl (by decide) rfl rfl dX12_longModule_27) (ev_X12_needSign hO hP h_11) xw_X12_needSign rfl wd_198 dX12_longModule_27 (by decide) (by decide) (by simp [x_cat, x_catI, x_catJ])
        refine x_callR z9 ?_
        refine ev_at (st' := []) rfl rfl ?_
        refine ev_aload_n (j := 0) (x := (some a0)) dX12_longModule_30 rfl rfl ?_
        obtain ⟨c_16, h⟩ := x_chk_e h
        rcases x_bind_e h with ⟨v_13, σ_14, h_15, h⟩ | ⟨E_24, σ_14, h_15, h⟩
        · have z9 := x_call (M := mX12_longModule) (M' := mX12_ok) (pc := 31) (st := [va_rf (some a0)]) (rest := []) (av := [va_rf (some a0)]) (x_linkV (M := mX12_longModule) (M' := mX12_ok) (As := []) (index := 121) (C := RX12) (T := TX12) (xE_12 c_16) rfl wd_640 wd_641 (wG_in (List.mem_append_left _ (List.mem_of_getElem? (i := 37) rfl)) rfl) xw_X12_ok rfl (by decide) rfl rfl dX12_longModule_31) (ev_X12_ok hO hP h_15) xw_X12_ok rfl wd_198 dX12_longModule_31 (by decide) (by decide) (by simp [x_cat, x_catI, x_catJ])
          refine x_callR z9 ?_
          refine ev_at (st' := [.int v_13]) rfl rfl ?_
          by_cases c_17 : v_13 = 0
          · rw [if_pos c_17] at h
            refine ev_if_eq (x := v_13) (tgt := 81) dX12_longModule_34 (by decide) (fun _ => ?_) (fun q9 => absurd c_17 q9)
            exact ev_sub [0] rfl (ev_X12_longModule_p81 hO hP h)
          · rw [if_neg c_17] at h
            refine ev_if_eq (x := v_13) (tgt := 81) dX12_longModule_34 (by decide) (fun q9 => absurd q9 c_17) (fun _ => ?_)
            refine ev_aload_n (j := 0) (x := (some a0)) dX12_longModule_37 rfl rfl ?_
            refine ev_bipush (v := 41) dX12_longModule_38 (by decide) ?_
            obtain ⟨c_21, h⟩ := x_chk_e h
            rcases x_bind_e h with ⟨v_18, σ_19, h_20, h⟩ | ⟨E_23, σ_19, h_20, h⟩
            · have z9 := x_call (M := mX12_longModule) (M' := mX12_isSign) (pc := 40) (st := [.int 41, va_rf (some a0)]) (rest := []) (av := [va_rf (some a0), .int 41]) (x_linkV (M := mX12_longModule) (M' := mX12_isSign) (As := [.int 41]) (index := 166) (C := RX12) (T := TX12) (xE_12 c_21) rfl wd_682 wd_683 (wG_in (List.mem_append_left _ (List.mem_of_getElem? (i := 50) rfl)) rfl) xw_X12_isSign rfl (by decide) rfl rfl dX12_longModule_40) (ev_X12_isSign hO hP h_20) xw_X12_isSign rfl wd_198 dX12_longModule_40 (by decide) (by decide) (by simp [x_cat, x_catI, x_catJ])
              refine x_callR z9 ?_
              refine ev_at (st' := [.int v_18]) rfl rfl ?_
              by_cases c_22 : v_18 = 0
              · rw [if_pos c_22] at h
                refine ev_if_ne (x := v_18) (tgt := 81) dX12_longModule_43 (by decide) (fun q9 => absurd c_22 q9) (fun _ => ?_)
                refine ev_iconst (v := 1) dX12_longModule_46 (by decide) ?_
                refine ev_istore_n (i := 1) (lv' := [(1, .int 1), (0, va_rf (some a0))]) dX12_longModule_47 rfl (by decide) (by simp [x_cat, x_catI, x_catJ]) ?_
                exact ev_sub [1, 0] rfl (ev_X12_longModule_L48 hO hP P.N h)
              · rw [if_neg c_22] at h
                refine ev_if_ne (x := v_18) (tgt := 81) dX12_longModule_43 (by decide) (fun _ => ?_) (fun q9 => absurd q9 c_22)
                exact ev_sub [0] rfl (ev_X12_longModule_p81 hO hP h)
            · have z9 := x_call (M := mX12_longModule) (M' := mX12_isSign) (pc := 40) (st := [.int 41, va_rf (some a0)]) (rest := []) (av := [va_rf (some a0), .int 41]) (x_linkV (M := mX12_longModule) (M' := mX12_isSign) (As := [.int 41]) (index := 166) (C := RX12) (T := TX12) (xE_12 c_21) rfl wd_682 wd_683 (wG_in (List.mem_append_left _ (List.mem_of_getElem? (i := 50) rfl)) rfl) xw_X12_isSign rfl (by decide) rfl rfl dX12_longModule_40) (ev_X12_isSign hO hP h_20) xw_X12_isSign rfl wd_198 dX12_longModule_40 (by decide) (by decide) (by simp [x_cat, x_catI, x_catJ])
              cases h
              exact x_callX z9 (evX_out rfl)
        · have z9 := x_call (M := mX12_longModule) (M' := mX12_ok) (pc := 31) (st := [va_rf (some a0)]) (rest := []) (av := [va_rf (some a0)]) (x_linkV (M := mX12_longModule) (M' := mX12_ok) (As := []) (index := 121) (C := RX12) (T := TX12) (xE_12 c_16) rfl wd_640 wd_641 (wG_in (List.mem_append_left _ (List.mem_of_getElem? (i := 37) rfl)) rfl) xw_X12_ok rfl (by decide) rfl rfl dX12_longModule_31) (ev_X12_ok hO hP h_15) xw_X12_ok rfl wd_198 dX12_longModule_31 (by decide) (by decide) (by simp [x_cat, x_catI, x_catJ])
          cases h
          exact x_callX z9 (evX_out rfl)
      · have z9 := x_call (M := mX12_longModule) (M' := mX12_needSign) (pc := 27) (st := [.int 40, va_rf (some a0)]) (rest := []) (av := [va_rf (some a0), .int 40]) (x_linkV (M := mX12_longModule) (M' := mX12_needSign) (As := [.int 40]) (index := 199) (C := RX12) (T := TX12) (xE_12 c_12) rfl wd_697 wd_698 (wG_in (List.mem_append_left _ (List.mem_of_getElem? (i := 49) rfl)) rfl) xw_X12_needSign rfl (by decide) rfl rfl dX12_longModule_27) (ev_X12_needSign hO hP h_11) xw_X12_needSign rfl wd_198 dX12_longModule_27 (by decide) (by decide) (by simp [x_cat, x_catI, x_catJ])
        cases h
        exact x_callX z9 (evX_out rfl)
    · have z9 := x_call (M := mX12_longModule) (M' := mX12_takeModule) (pc := 21) (st := [va_rf (some a0)]) (rest := []) (av := [va_rf (some a0)]) (x_linkV (M := mX12_longModule) (M' := mX12_takeModule) (As := []) (index := 240) (C := RX12) (T := TX12) (xE_12 c_8) rfl wd_736 wd_737 (wG_in (List.mem_append_left _ (List.mem_of_getElem? (i := 44) rfl)) rfl) xw_X12_takeModule rfl (by decide) rfl rfl dX12_longModule_21) (ev_X12_takeModule hO hP h_7) xw_X12_takeModule rfl wd_198 dX12_longModule_21 (by decide) (by decide) (by simp [x_cat, x_catI, x_catJ])
      cases h
      exact x_callX z9 (evX_out rfl)
  · have z9 := x_call (M := mX12_longModule) (M' := mX12_next) (pc := 17) (st := [va_rf (some a0)]) (rest := []) (av := [va_rf (some a0)]) (x_linkV (M := mX12_longModule) (M' := mX12_next) (As := []) (index := 169) (C := RX12) (T := TX12) (xE_12 c_4) rfl wd_679 wd_680 (wG_in (List.mem_append_left _ (List.mem_of_getElem? (i := 36) rfl)) rfl) xw_X12_next rfl (by decide) rfl rfl dX12_longModule_17) (ev_X12_next hO hP h_3) xw_X12_next rfl wd_198 dX12_longModule_17 (by decide) (by decide) (by simp [x_cat, x_catI, x_catJ])
    cases h
    exact x_callX z9 (evX_out rfl)
set_option maxHeartbeats 4000000 in
set_option maxRecDepth 100000 in
theorem ev_X12_longModule {l : Launch} {G : xG} (hO : x_OK l G) {P : xP} (hP : x_PG P G) {a0 : Nat} {σ σ' : xS} {rr : Unit ⊕ String} (h : dm_X12_longModule P a0 σ = some (rr, σ')) : EvM l G mX12_longModule [va_rf (some a0)] σ (xrV rr) σ' := by
  unfold dm_X12_longModule at h
  refine evM_of hO (by decide +kernel) (x_lenI (by simp [x_cat, x_catI, x_catJ, mX12_longModule, xM.maxL])) ?_
  refine Eq.mp (congrArg (fun z => Ev l G mX12_longModule 0 z [] σ (xrV rr) σ') (show [(0, va_rf (some a0))] = lv_args 0 [va_rf (some a0)] by simp [lv_args, x_cat, x_catI, x_catJ])) ?_
  refine ev_aload_n (j := 0) (x := (some a0)) dX12_longModule_0 rfl rfl ?_
  refine ev_iconst (v := 0) dX12_longModule_1 (by decide) ?_
  obtain ⟨c_4, h⟩ := x_chk_e h
  rcases x_bind_e h with ⟨v_1, σ_2, h_3, h⟩ | ⟨E_11, σ_2, h_3, h⟩
  · have z9 := x_call (M := mX12_longModule) (M' := mX12_isKey) (pc := 2) (st := [.int 0, va_rf (some a0)]) (rest := []) (av := [va_rf (some a0), .int 0]) (x_linkV (M := mX12_longModule) (M' := mX12_isKey) (As := [.int 0]) (index := 237) (C := RX12) (T := TX12) (xE_12 c_4) rfl wd_733 wd_734 (wG_in (List.mem_append_left _ (List.mem_of_getElem? (i := 41) rfl)) rfl) xw_X12_isKey rfl (by decide) rfl rfl dX12_longModule_2) (ev_X12_isKey hO hP h_3) xw_X12_isKey rfl wd_198 dX12_longModule_2 (by decide) (by decide) (by simp [x_cat, x_catI, x_catJ])
    refine x_callR z9 ?_
    refine ev_at (st' := [.int v_1]) rfl rfl ?_
    by_cases c_5 : v_1 = 0
    · rw [if_pos c_5] at h
      refine ev_if_ne (x := v_1) (tgt := 16) dX12_longModule_5 (by decide) (fun q9 => absurd c_5 q9) (fun _ => ?_)
      refine ev_aload_n (j := 0) (x := (some a0)) dX12_longModule_8 rfl rfl ?_
      refine ev_aload_n (j := 0) (x := (some a0)) dX12_longModule_9 rfl rfl ?_
      obtain ⟨c_6, h⟩ := x_chk_e h
      refine ev_get (C := RX12) (T := TX12) (k := 36) inX12 (xE_12 c_6) rfl (by decide) wd_646 (Or.inl rfl) rfl dX12_longModule_10 ?_
      rcases x_bind_e h with ⟨v_7, σ_8, h_9, h⟩ | ⟨E_10, σ_8, h_9, h⟩
      · have z9 := x_call (M := mX12_longModule) (M' := mX12_fail) (pc := 13) (st := [.int (σ_2.I 1136 a0), va_rf (some a0)]) (rest := []) (av := [va_rf (some a0), .int (σ_2.I 1136 a0)]) (x_linkV (M := mX12_longModule) (M' := mX12_fail) (As := [.int (σ_2.I 1136 a0)]) (index := 150) (C := RX12) (T := TX12) (xE_12 c_6) rfl wd_657 wd_658 (wG_in (List.mem_append_left _ (List.mem_of_getElem? (i := 39) rfl)) rfl) xw_X12_fail rfl (by decide) rfl rfl dX12_longModule_13) (ev_X12_fail hO hP h_9) xw_X12_fail rfl wd_198 dX12_longModule_13 (by decide) (by decide) (by simp [x_cat, x_catI, x_catJ])
        refine x_callR z9 ?_
        refine ev_at (st' := []) rfl rfl ?_
        exact ev_sub [0] rfl (ev_X12_longModule_p16 hO hP h)
      · have z9 := x_call (M := mX12_longModule) (M' := mX12_fail) (pc := 13) (st := [.int (σ_2.I 1136 a0), va_rf (some a0)]) (rest := []) (av := [va_rf (some a0), .int (σ_2.I 1136 a0)]) (x_linkV (M := mX12_longModule) (M' := mX12_fail) (As := [.int (σ_2.I 1136 a0)]) (index := 150) (C := RX12) (T := TX12) (xE_12 c_6) rfl wd_657 wd_658 (wG_in (List.mem_append_left _ (List.mem_of_getElem? (i := 39) rfl)) rfl) xw_X12_fail rfl (by decide) rfl rfl dX12_longModule_13) (ev_X12_fail hO hP h_9) xw_X12_fail rfl wd_198 dX12_longModule_13 (by decide) (by decide) (by simp [x_cat, x_catI, x_catJ])
        cases h
        exact x_callX z9 (evX_out rfl)
    · rw [if_neg c_5] at h
      refine ev_if_ne (x := v_1) (tgt := 16) dX12_longModule_5 (by decide) (fun _ => ?_) (fun q9 => absurd q9 c_5)
      exact ev_sub [0] rfl (ev_X12_longModule_p16 hO hP h)
  · have z9 := x_call (M := mX12_longModule) (M' := mX12_isKey) (pc := 2) (st := [.int 0, va_rf (some a0)]) (rest := []) (av := [va_rf (some a0), .int 0]) (x_linkV (M := mX12_longModule) (M' := mX12_isKey) (As := [.int 0]) (index := 237) (C := RX12) (T := TX12) (xE_12 c_4) rfl wd_733 wd_734 (wG_in (List.mem_append_left _ (List.mem_of_getElem? (i := 41) rfl)) rfl) xw_X12_isKey rfl (by decide) rfl rfl dX12_longModule_2) (ev_X12_isKey hO hP h_3) xw_X12_isKey rfl wd_198 dX12_longModule_2 (by decide) (by decide) (by simp [x_cat, x_catI, x_catJ])
    cases h
    exact x_callX z9 (evX_out rfl)
set_option maxHeartbeats 4000000 in
set_option maxRecDepth 100000 in
theorem ev_X12_isLetterWord_p45 {l : Launch} {G : xG} (hO : x_OK l G) {P : xP} (hP : x_PG P G) {a0 : Nat} {s0 : Int32} {σ σ' : xS} {rr : Int32 ⊕ String} (h : dm_X12_isLetterWord_p45 P a0 s0 σ = some (rr, σ')) : Ev l G mX12_isLetterWord 45 [] [.int s0] σ (xrI rr) σ' := by
  unfold dm_X12_isLetterWord_p45 at h
  obtain ⟨c_1, h⟩ := x_chk_e h
  cases h
  exact ev_iret rfl (x_boolN c_1) dX12_isLetterWord_45
set_option maxHeartbeats 4000000 in
set_option maxRecDepth 100000 in
theorem ev_X12_isLetterWord_p44 {l : Launch} {G : xG} (hO : x_OK l G) {P : xP} (hP : x_PG P G) {a0 : Nat} {σ σ' : xS} {rr : Int32 ⊕ String} (h : dm_X12_isLetterWord_p44 P a0 σ = some (rr, σ')) : Ev l G mX12_isLetterWord 44 [] [] σ (xrI rr) σ' := by
  unfold dm_X12_isLetterWord_p44 at h
  refine ev_iconst (v := 0) dX12_isLetterWord_44 (by decide) ?_
  exact ev_sub [] rfl (ev_X12_isLetterWord_p45 hO hP h)
set_option maxHeartbeats 4000000 in
set_option maxRecDepth 100000 in
theorem ev_X12_isLetterWord {l : Launch} {G : xG} (hO : x_OK l G) {P : xP} (hP : x_PG P G) {a0 : Nat} {v1 : Int32} {σ σ' : xS} {rr : Int32 ⊕ String} (h : dm_X12_isLetterWord P a0 v1 σ = some (rr, σ')) : EvM l G mX12_isLetterWord [va_rf (some a0), .int v1] σ (xrI rr) σ' := by
  unfold dm_X12_isLetterWord at h
  refine evM_of hO (by decide +kernel) (x_lenI (by simp [x_cat, x_catI, x_catJ, mX12_isLetterWord, xM.maxL])) ?_
  refine Eq.mp (congrArg (fun z => Ev l G mX12_isLetterWord 0 z [] σ (xrI rr) σ') (show [(0, va_rf (some a0)), (1, .int v1)] = lv_args 0 [va_rf (some a0), .int v1] by simp [lv_args, x_cat, x_catI, x_catJ])) ?_
  refine ev_aload_n (j := 0) (x := (some a0)) dX12_isLetterWord_0 rfl rfl ?_
  obtain ⟨c_4, h⟩ := x_chk_e h
  rcases x_bind_e h with ⟨v_1, σ_2, h_3, h⟩ | ⟨E_14, σ_2, h_3, h⟩
  · have z9 := x_call (M := mX12_isLetterWord) (M' := mX12_ok) (pc := 1) (st := [va_rf (some a0)]) (rest := []) (av := [va_rf (some a0)]) (x_linkV (M := mX12_isLetterWord) (M' := mX12_ok) (As := []) (index := 121) (C := RX12) (T := TX12) (xE_12 c_4) rfl wd_640 wd_641 (wG_in (List.mem_append_left _ (List.mem_of_getElem? (i := 37) rfl)) rfl) xw_X12_ok rfl (by decide) rfl rfl dX12_isLetterWord_1) (ev_X12_ok hO hP h_3) xw_X12_ok rfl wd_198 dX12_isLetterWord_1 (by decide) (by decide) (by simp [x_cat, x_catI, x_catJ])
    refine x_callR z9 ?_
    refine ev_at (st' := [.int v_1]) rfl rfl ?_
    by_cases c_5 : v_1 = 0
    · rw [if_pos c_5] at h
      refine ev_if_eq (x := v_1) (tgt := 44) dX12_isLetterWord_4 (by decide) (fun _ => ?_) (fun q9 => absurd c_5 q9)
      exact ev_sub [] rfl (ev_X12_isLetterWord_p44 hO hP h)
    · rw [if_neg c_5] at h
      refine ev_if_eq (x := v_1) (tgt := 44) dX12_isLetterWord_4 (by decide) (fun q9 => absurd q9 c_5) (fun _ => ?_)
      refine ev_aload_n (j := 0) (x := (some a0)) dX12_isLetterWord_7 rfl rfl ?_
      obtain ⟨c_6, h⟩ := x_chk_e h
      refine ev_get (C := RX12) (T := TX12) (k := 35) inX12 (xE_12 c_6) rfl (by decide) wd_653 (Or.inl rfl) rfl dX12_isLetterWord_8 ?_
      refine ev_iconst (v := 1) dX12_isLetterWord_11 (by decide) ?_
      by_cases c_7 : (σ_2.I 1135 a0) = 1
      · rw [if_pos c_7] at h
        refine ev_icmp_ne (x := (σ_2.I 1135 a0)) (y := 1) (tgt := 44) dX12_isLetterWord_12 (by decide) (fun q9 => absurd c_7 q9) (fun _ => ?_)
        refine ev_aload_n (j := 0) (x := (some a0)) dX12_isLetterWord_15 rfl rfl ?_
        refine ev_get (C := RX12) (T := TX12) (k := 37) inX12 (xE_12 c_6) rfl (by decide) wd_655 (Or.inl rfl) rfl dX12_isLetterWord_16 ?_
        refine ev_aload_n (j := 0) (x := (some a0)) dX12_isLetterWord_19 rfl rfl ?_
        refine ev_get (C := RX12) (T := TX12) (k := 36) inX12 (xE_12 c_6) rfl (by decide) wd_646 (Or.inl rfl) rfl dX12_isLetterWord_20 ?_
        refine ev_isub (x := (σ_2.I 1137 a0)) (y := (σ_2.I 1136 a0)) dX12_isLetterWord_23 ?_
        refine ev_iconst (v := 1) dX12_isLetterWord_24 (by decide) ?_
        by_cases c_8 : ((σ_2.I 1137 a0) - (σ_2.I 1136 a0)) = 1
        · rw [if_pos c_8] at h
          refine ev_icmp_ne (x := ((σ_2.I 1137 a0) - (σ_2.I 1136 a0))) (y := 1) (tgt := 44) dX12_isLetterWord_25 (by decide) (fun q9 => absurd c_8 q9) (fun _ => ?_)
          refine ev_aload_n (j := 0) (x := (some a0)) dX12_isLetterWord_28 rfl rfl ?_
          refine ev_aload_n (j := 0) (x := (some a0)) dX12_isLetterWord_29 rfl rfl ?_
          refine ev_get (C := RX12) (T := TX12) (k := 36) inX12 (xE_12 c_6) rfl (by decide) wd_646 (Or.inl rfl) rfl dX12_isLetterWord_30 ?_
          rcases x_bind_e h with ⟨v_9, σ_10, h_11, h⟩ | ⟨E_13, σ_10, h_11, h⟩
          · have z9 := x_call (M := mX12_isLetterWord) (M' := mX12_sign) (pc := 33) (st := [.int (σ_2.I 1136 a0), va_rf (some a0)]) (rest := []) (av := [va_rf (some a0), .int (σ_2.I 1136 a0)]) (x_linkV (M := mX12_isLetterWord) (M' := mX12_sign) (As := [.int (σ_2.I 1136 a0)]) (index := 128) (C := RX12) (T := TX12) (xE_12 c_6) rfl wd_644 wd_645 (wG_in (List.mem_append_left _ (List.mem_of_getElem? (i := 38) rfl)) rfl) xw_X12_sign rfl (by decide) rfl rfl dX12_isLetterWord_33) (ev_X12_sign hO hP h_11) xw_X12_sign rfl wd_198 dX12_isLetterWord_33 (by decide) (by decide) (by simp [x_cat, x_catI, x_catJ])
            refine x_callR z9 ?_
            refine ev_at (st' := [.int v_9]) rfl rfl ?_
            refine ev_iload_n (j := 1) (x := v1) dX12_isLetterWord_36 rfl rfl ?_
            by_cases c_12 : v_9 = v1
            · rw [if_pos c_12] at h
              refine ev_icmp_ne (x := v_9) (y := v1) (tgt := 44) dX12_isLetterWord_37 (by decide) (fun q9 => absurd c_12 q9) (fun _ => ?_)
              refine ev_iconst (v := 1) dX12_isLetterWord_40 (by decide) ?_
              refine ev_goto (tgt := 45) dX12_isLetterWord_41 (by decide) ?_
              exact ev_sub [] rfl (ev_X12_isLetterWord_p45 hO hP h)
            · rw [if_neg c_12] at h
              refine ev_icmp_ne (x := v_9) (y := v1) (tgt := 44) dX12_isLetterWord_37 (by decide) (fun _ => ?_) (fun q9 => absurd q9 c_12)
              exact ev_sub [] rfl (ev_X12_isLetterWord_p44 hO hP h)
          · have z9 := x_call (M := mX12_isLetterWord) (M' := mX12_sign) (pc := 33) (st := [.int (σ_2.I 1136 a0), va_rf (some a0)]) (rest := []) (av := [va_rf (some a0), .int (σ_2.I 1136 a0)]) (x_linkV (M := mX12_isLetterWord) (M' := mX12_sign) (As := [.int (σ_2.I 1136 a0)]) (index := 128) (C := RX12) (T := TX12) (xE_12 c_6) rfl wd_644 wd_645 (wG_in (List.mem_append_left _ (List.mem_of_getElem? (i := 38) rfl)) rfl) xw_X12_sign rfl (by decide) rfl rfl dX12_isLetterWord_33) (ev_X12_sign hO hP h_11) xw_X12_sign rfl wd_198 dX12_isLetterWord_33 (by decide) (by decide) (by simp [x_cat, x_catI, x_catJ])
            cases h
            exact x_callX z9 (evX_out rfl)
        · rw [if_neg c_8] at h
          refine ev_icmp_ne (x := ((σ_2.I 1137 a0) - (σ_2.I 1136 a0))) (y := 1) (tgt := 44) dX12_isLetterWord_25 (by decide) (fun _ => ?_) (fun q9 => absurd q9 c_8)
          exact ev_sub [] rfl (ev_X12_isLetterWord_p44 hO hP h)
      · rw [if_neg c_7] at h
        refine ev_icmp_ne (x := (σ_2.I 1135 a0)) (y := 1) (tgt := 44) dX12_isLetterWord_12 (by decide) (fun _ => ?_) (fun q9 => absurd q9 c_7)
        exact ev_sub [] rfl (ev_X12_isLetterWord_p44 hO hP h)
  · have z9 := x_call (M := mX12_isLetterWord) (M' := mX12_ok) (pc := 1) (st := [va_rf (some a0)]) (rest := []) (av := [va_rf (some a0)]) (x_linkV (M := mX12_isLetterWord) (M' := mX12_ok) (As := []) (index := 121) (C := RX12) (T := TX12) (xE_12 c_4) rfl wd_640 wd_641 (wG_in (List.mem_append_left _ (List.mem_of_getElem? (i := 37) rfl)) rfl) xw_X12_ok rfl (by decide) rfl rfl dX12_isLetterWord_1) (ev_X12_ok hO hP h_3) xw_X12_ok rfl wd_198 dX12_isLetterWord_1 (by decide) (by decide) (by simp [x_cat, x_catI, x_catJ])
    cases h
    exact x_callX z9 (evX_out rfl)
set_option maxHeartbeats 4000000 in
set_option maxRecDepth 100000 in
theorem ev_X12_move {l : Launch} {G : xG} (hO : x_OK l G) {P : xP} (hP : x_PG P G) {a0 : Nat} {v1 : Int32} {v2 : Int32} {σ σ' : xS} {rr : Unit ⊕ String} (h : dm_X12_move P a0 v1 v2 σ = some (rr, σ')) : EvM l G mX12_move [va_rf (some a0), .int v1, .int v2] σ (xrV rr) σ' := by
  unfold dm_X12_move at h
  refine evM_of hO (by decide +kernel) (x_lenI (by simp [x_cat, x_catI, x_catJ, mX12_move, xM.maxL])) ?_
  refine Eq.mp (congrArg (fun z => Ev l G mX12_move 0 z [] σ (xrV rr) σ') (show [(0, va_rf (some a0)), (1, .int v1), (2, .int v2)] = lv_args 0 [va_rf (some a0), .int v1, .int v2] by simp [lv_args, x_cat, x_catI, x_catJ])) ?_
  refine ev_aload_n (j := 0) (x := (some a0)) dX12_move_0 rfl rfl ?_
  obtain ⟨c_1, h⟩ := x_chk_e h
  refine ev_get (C := RX12) (T := TX12) (k := 10) inX12 (xE_12 c_1) rfl (by decide) wd_157 (Or.inl rfl) rfl dX12_move_1 ?_
  refine ev_iload_n (j := 2) (x := v2) dX12_move_4 rfl rfl ?_
  refine ev_aload_n (j := 0) (x := (some a0)) dX12_move_5 rfl rfl ?_
  refine ev_get (C := RX12) (T := TX12) (k := 10) inX12 (xE_12 c_1) rfl (by decide) wd_157 (Or.inl rfl) rfl dX12_move_6 ?_
  refine ev_iload_n (j := 1) (x := v1) dX12_move_9 rfl rfl ?_
  obtain ⟨a_2, ea_2, h⟩ := x_some_e h
  refine ev_at (st' := [.int v1, va_rf (some a_2), .int v2, va_rf (σ.R 1110 a0)]) rfl (by rw [ea_2]) ?_
  obtain ⟨c_3, h⟩ := x_chk_e h
  refine ev_iald_31 c_3.1 c_3.2 dX12_move_10 ?_
  refine ev_at (st' := [.int (σ.AI a_2 (Int32.toNatClampNeg v1)), .int v2, va_rf (some a_2)]) rfl (by rw [ea_2]) ?_
  obtain ⟨c_4, h⟩ := x_chk_e h
  obtain ⟨σ_5, eσ_5, h⟩ := x_let_e h
  refine ev_iast_31 c_4.1 c_4.2.1 (hP.2.2.2.1 ▸ c_4.2.2) dX12_move_11 (eσ_5 ▸ ?_)
  refine ev_aload_n (j := 0) (x := (some a0)) dX12_move_12 rfl rfl ?_
  obtain ⟨c_6, h⟩ := x_chk_e h
  refine ev_get (C := RX12) (T := TX12) (k := 11) inX12 (xE_12 c_6) rfl (by decide) wd_158 (Or.inl rfl) rfl dX12_move_13 ?_
  refine ev_iload_n (j := 2) (x := v2) dX12_move_16 rfl rfl ?_
  refine ev_aload_n (j := 0) (x := (some a0)) dX12_move_17 rfl rfl ?_
  refine ev_get (C := RX12) (T := TX12) (k := 11) inX12 (xE_12 c_6) rfl (by decide) wd_158 (Or.inl rfl) rfl dX12_move_18 ?_
  refine ev_iload_n (j := 1) (x := v1) dX12_move_21 rfl rfl ?_
  obtain ⟨a_7, ea_7, h⟩ := x_some_e h
  refine ev_at (st' := [.int v1, va_rf (some a_7), .int v2, va_rf (σ_5.R 1111 a0)]) rfl (by rw [ea_7]) ?_
  obtain ⟨c_8, h⟩ := x_chk_e h
  refine ev_iald_31 c_8.1 c_8.2 dX12_move_22 ?_
  refine ev_at (st' := [.int (σ_5.AI a_7 (Int32.toNatClampNeg v1)), .int v2, va_rf (some a_7)]) rfl (by rw [ea_7]) ?_
  obtain ⟨c_9, h⟩ := x_chk_e h
  obtain ⟨σ_10, eσ_10, h⟩ := x_let_e h
  refine ev_iast_31 c_9.1 c_9.2.1 (hP.2.2.2.1 ▸ c_9.2.2) dX12_move_23 (eσ_10 ▸ ?_)
  refine ev_aload_n (j := 0) (x := (some a0)) dX12_move_24 rfl rfl ?_
  obtain ⟨c_11, h⟩ := x_chk_e h
  refine ev_get (C := RX12) (T := TX12) (k := 12) inX12 (xE_12 c_11) rfl (by decide) wd_159 (Or.inl rfl) rfl dX12_move_25 ?_
  refine ev_iload_n (j := 2) (x := v2) dX12_move_28 rfl rfl ?_
  refine ev_aload_n (j := 0) (x := (some a0)) dX12_move_29 rfl rfl ?_
  refine ev_get (C := RX12) (T := TX12) (k := 12) inX12 (xE_12 c_11) rfl (by decide) wd_159 (Or.inl rfl) rfl dX12_move_30 ?_
  refine ev_iload_n (j := 1) (x := v1) dX12_move_33 rfl rfl ?_
  obtain ⟨a_12, ea_12, h⟩ := x_some_e h
  refine ev_at (st' := [.int v1, va_rf (some a_12), .int v2, va_rf (σ_10.R 1112 a0)]) rfl (by rw [ea_12]) ?_
  obtain ⟨c_13, h⟩ := x_chk_e h
  refine ev_iald_31 c_13.1 c_13.2 dX12_move_34 ?_
  refine ev_at (st' := [.int (σ_10.AI a_12 (Int32.toNatClampNeg v1)), .int v2, va_rf (some a_12)]) rfl (by rw [ea_12]) ?_
  obtain ⟨c_14, h⟩ := x_chk_e h
  obtain ⟨σ_15, eσ_15, h⟩ := x_let_e h
  refine ev_iast_31 c_14.1 c_14.2.1 (hP.2.2.2.1 ▸ c_14.2.2) dX12_move_35 (eσ_15 ▸ ?_)
  refine ev_aload_n (j := 0) (x := (some a0)) dX12_move_36 rfl rfl ?_
  obtain ⟨c_16, h⟩ := x_chk_e h
  refine ev_get (C := RX12) (T := TX12) (k := 14) inX12 (xE_12 c_16) rfl (by decide) wd_162 (Or.inl rfl) rfl dX12_move_37 ?_
  refine ev_iload_n (j := 2) (x := v2) dX12_move_40 rfl rfl ?_
  refine ev_aload_n (j := 0) (x := (some a0)) dX12_move_41 rfl rfl ?_
  refine ev_get (C := RX12) (T := TX12) (k := 14) inX12 (xE_12 c_16) rfl (by decide) wd_162 (Or.inl rfl) rfl dX12_move_42 ?_
  refine ev_iload_n (j := 1) (x := v1) dX12_move_45 rfl rfl ?_
  obtain ⟨a_17, ea_17, h⟩ := x_some_e h
  refine ev_at (st' := [.int v1, va_rf (some a_17), .int v2, va_rf (σ_15.R 1114 a0)]) rfl (by rw [ea_17]) ?_
  obtain ⟨c_18, h⟩ := x_chk_e h
  refine ev_zald_33 c_18.1 c_18.2 dX12_move_46 ?_
  refine ev_at (st' := [.int (σ_15.AI a_17 (Int32.toNatClampNeg v1)), .int v2, va_rf (some a_17)]) rfl (by rw [ea_17]) ?_
  obtain ⟨c_19, h⟩ := x_chk_e h
  obtain ⟨σ_20, eσ_20, h⟩ := x_let_e h
  refine ev_zast_33 c_19.1 c_19.2.1 (hP.2.2.2.1 ▸ c_19.2.2.1) (x_boolN c_19.2.2.2) dX12_move_47 (eσ_20 ▸ ?_)
  cases h
  exact ev_vret rfl dX12_move_48
set_option maxHeartbeats 4000000 in
set_option maxRecDepth 100000 in
theorem ev_X12_shift_p74 {l : Launch} {G : xG} (hO : x_OK l G) {P : xP} (hP : x_PG P G) {a0 : Nat} {k11 : Int32 → Int32 → Int32 → xS → xO Unit} (hk11 : ∀ {v1 : Int32} {v2 : Int32} {v3 : Int32} {σ σ' : xS} {rr : Unit ⊕ String}, k11 v1 v2 v3 σ = some (rr, σ') → Ev l G mX12_shift 11 [(0, va_rf (some a0)), (1, .int v1), (2, .int v2), (3, .int v3)] [] σ (xrV rr) σ') {v1 : Int32} {v2 : Int32} {v3 : Int32} {σ σ' : xS} {rr : Unit ⊕ String} (h : dm_X12_shift_p74 P k11 a0 v1 v2 v3 σ = some (rr, σ')) : Ev l G mX12_shift 74 [(0, va_rf (some a0)), (1, .int v1), (2, .int v2), (3, .int v3)] [] σ (xrV rr) σ' := by
  unfold dm_X12_shift_p74 at h
  obtain ⟨v_1, ev_1, h⟩ := x_let_e h
  refine ev_iinc (j := 3) (x := v3) (v := v_1) (lv' := [(3, .int v_1), (0, va_rf (some a0)), (1, .int v1), (2, .int v2)]) dX12_shift_74 rfl (by rw [ev_1]; rfl) (by decide) rfl ?_
  refine ev_goto (tgt := 11) dX12_shift_77 (by decide) ?_
  exact ev_sub [1, 2, 3, 0] rfl (hk11 h)
set_option maxHeartbeats 4000000 in
set_option maxRecDepth 100000 in
theorem ev_X12_shift_L11 {l : Launch} {G : xG} (hO : x_OK l G) {P : xP} (hP : x_PG P G) {a0 : Nat} : ∀ (n : Nat) {v1 : Int32} {v2 : Int32} {v3 : Int32} {σ σ' : xS} {rr : Unit ⊕ String}, dm_X12_shift_L11 P a0 n v1 v2 v3 σ = some (rr, σ') → Ev l G mX12_shift 11 [(0, va_rf (some a0)), (1, .int v1), (2, .int v2), (3, .int v3)] [] σ (xrV rr) σ' := by
  intro n
  induction n with
  | zero => intro v1 v2 v3 σ σ' rr h; cases h
  | succ n ih =>
    intro v1 v2 v3 σ σ' rr h
    rw [dm_X12_shift_L11] at h
    refine ev_iload_n (j := 3) (x := v3) dX12_shift_11 rfl rfl ?_
    refine ev_iload_n (j := 2) (x := v2) dX12_shift_12 rfl rfl ?_
    refine ev_aload_n (j := 0) (x := (some a0)) dX12_shift_13 rfl rfl ?_
    obtain ⟨c_1, h⟩ := x_chk_e h
    refine ev_get (C := RX12) (T := TX12) (k := 15) inX12 (xE_12 c_1) rfl (by decide) wd_163 (Or.inl rfl) rfl dX12_shift_14 ?_
    refine ev_aload_n (j := 0) (x := (some a0)) dX12_shift_17 rfl rfl ?_
    refine ev_get (C := RX12) (T := TX12) (k := 40) inX12 (xE_12 c_1) rfl (by decide) wd_638 (Or.inl rfl) rfl dX12_shift_18 ?_
    obtain ⟨a_2, ea_2, h⟩ := x_some_e h
    refine ev_at (st' := [.int (σ.I 1140 a0), va_rf (some a_2), .int v2, .int v3]) rfl (by rw [ea_2]) ?_
    obtain ⟨c_3, h⟩ := x_chk_e h
    refine ev_iald_31 c_3.1 c_3.2 dX12_shift_21 ?_
    refine ev_iadd (x := v2) (y := (σ.AI a_2 (Int32.toNatClampNeg (σ.I 1140 a0)))) dX12_shift_22 ?_
    by_cases c_4 : (v2 + (σ.AI a_2 (Int32.toNatClampNeg (σ.I 1140 a0)))) ≤ v3
    · rw [if_pos c_4] at h
      refine ev_icmp_ge (x := v3) (y := (v2 + (σ.AI a_2 (Int32.toNatClampNeg (σ.I 1140 a0))))) (tgt := 80) dX12_shift_23 (by decide) (fun _ => ?_) (fun q9 => absurd c_4 q9)
      cases h
      exact ev_vret rfl dX12_shift_80
    · rw [if_neg c_4] at h
      refine ev_icmp_ge (x := v3) (y := (v2 + (σ.AI a_2 (Int32.toNatClampNeg (σ.I 1140 a0))))) (tgt := 80) dX12_shift_23 (by decide) (fun q9 => absurd q9 c_4) (fun _ => ?_)
      refine ev_aload_n (j := 0) (x := (some a0)) dX12_shift_26 rfl rfl ?_
      refine ev_get (C := RX12) (T := TX12) (k := 16) inX12 (xE_12 c_1) rfl (by decide) wd_164 (Or.inl rfl) rfl dX12_shift_27 ?_
      refine ev_iload_n (j := 3) (x := v3) dX12_shift_30 rfl rfl ?_
      obtain ⟨a_5, ea_5, h⟩ := x_some_e h
      refine ev_at (st' := [.int v3, va_rf (some a_5)]) rfl (by rw [ea_5]) ?_
      obtain ⟨c_6, h⟩ := x_chk_e h
      refine ev_iald_31 c_6.1 c_6.2 dX12_shift_31 ?_
      refine ev_aload_n (j := 0) (x := (some a0)) dX12_shift_32 rfl rfl ?_
      refine ev_get (C := RX12) (T := TX12) (k := 7) inX12 (xE_12 c_1) rfl (by decide) wd_154 (Or.inl rfl) rfl dX12_shift_33 ?_
      refine ev_aload_n (j := 0) (x := (some a0)) dX12_shift_36 rfl rfl ?_
      rcases x_bind_e h with ⟨v_7, σ_8, h_9, h⟩ | ⟨E_22, σ_8, h_9, h⟩
      · have z9 := x_call (M := mX12_shift) (M' := mX12_mod) (pc := 37) (st := [va_rf (some a0), va_rf (σ.R 1107 a0), .int (σ.AI a_5 (Int32.toNatClampNeg v3))]) (rest := [va_rf (σ.R 1107 a0), .int (σ.AI a_5 (Int32.toNatClampNeg v3))]) (av := [va_rf (some a0)]) (x_linkV (M := mX12_shift) (M' := mX12_mod) (As := []) (index := 175) (C := RX12) (T := TX12) (xE_12 c_1) rfl wd_676 wd_677 (wG_in (List.mem_append_left _ (List.mem_of_getElem? (i := 48) rfl)) rfl) xw_X12_mod rfl (by decide) rfl rfl dX12_shift_37) (ev_X12_mod hO hP h_9) xw_X12_mod rfl wd_198 dX12_shift_37 (by decide) (by decide) (by simp [x_cat, x_catI, x_catJ])
        refine x_callR z9 ?_
        refine ev_at (st' := [.int v_7, va_rf (σ.R 1107 a0), .int (σ.AI a_5 (Int32.toNatClampNeg v3))]) rfl rfl ?_
        obtain ⟨a_10, ea_10, h⟩ := x_some_e h
        refine ev_at (st' := [.int v_7, va_rf (some a_10), .int (σ.AI a_5 (Int32.toNatClampNeg v3))]) rfl (by rw [ea_10]) ?_
        obtain ⟨c_11, h⟩ := x_chk_e h
        refine ev_iald_31 c_11.1 c_11.2 dX12_shift_40 ?_
        by_cases c_12 : (σ.AI a_5 (Int32.toNatClampNeg v3)) ≤ (σ_8.AI a_10 (Int32.toNatClampNeg v_7))
        · rw [if_pos c_12] at h
          refine ev_icmp_le (x := (σ.AI a_5 (Int32.toNatClampNeg v3))) (y := (σ_8.AI a_10 (Int32.toNatClampNeg v_7))) (tgt := 74) dX12_shift_41 (by decide) (fun _ => ?_) (fun q9 => absurd c_12 q9)
          exact ev_sub [0, 1, 2, 3] rfl (ev_X12_shift_p74 hO hP ih h)
        · rw [if_neg c_12] at h
          refine ev_icmp_le (x := (σ.AI a_5 (Int32.toNatClampNeg v3))) (y := (σ_8.AI a_10 (Int32.toNatClampNeg v_7))) (tgt := 74) dX12_shift_41 (by decide) (fun q9 => absurd q9 c_12) (fun _ => ?_)
          refine ev_aload_n (j := 0) (x := (some a0)) dX12_shift_44 rfl rfl ?_
          obtain ⟨c_13, h⟩ := x_chk_e h
          refine ev_get (C := RX12) (T := TX12) (k := 17) inX12 (xE_12 c_13) rfl (by decide) wd_165 (Or.inl rfl) rfl dX12_shift_45 ?_
          refine ev_iload_n (j := 3) (x := v3) dX12_shift_48 rfl rfl ?_
          obtain ⟨a_14, ea_14, h⟩ := x_some_e h
          refine ev_at (st' := [.int v3, va_rf (some a_14)]) rfl (by rw [ea_14]) ?_
          obtain ⟨c_15, h⟩ := x_chk_e h
          refine ev_iald_31 c_15.1 c_15.2 dX12_shift_49 ?_
          refine ev_iconst (v := 3) dX12_shift_50 (by decide) ?_
          by_cases c_16 : (σ_8.AI a_14 (Int32.toNatClampNeg v3)) = 3
          · rw [if_pos c_16] at h
            refine ev_icmp_eq (x := (σ_8.AI a_14 (Int32.toNatClampNeg v3))) (y := 3) (tgt := 74) dX12_shift_51 (by decide) (fun _ => ?_) (fun q9 => absurd c_16 q9)
            exact ev_sub [0, 1, 2, 3] rfl (ev_X12_shift_p74 hO hP ih h)
          · rw [if_neg c_16] at h
            refine ev_icmp_eq (x := (σ_8.AI a_14 (Int32.toNatClampNeg v3))) (y := 3) (tgt := 74) dX12_shift_51 (by decide) (fun q9 => absurd q9 c_16) (fun _ => ?_)
            refine ev_aload_n (j := 0) (x := (some a0)) dX12_shift_54 rfl rfl ?_
            refine ev_get (C := RX12) (T := TX12) (k := 18) inX12 (xE_12 c_13) rfl (by decide) wd_166 (Or.inl rfl) rfl dX12_shift_55 ?_
            refine ev_iload_n (j := 3) (x := v3) dX12_shift_58 rfl rfl ?_
            obtain ⟨a_17, ea_17, h⟩ := x_some_e h
            refine ev_at (st' := [.int v3, va_rf (some a_17)]) rfl (by rw [ea_17]) ?_
            obtain ⟨c_18, h⟩ := x_chk_e h
            refine ev_iald_31 c_18.1 c_18.2 dX12_shift_59 ?_
            refine ev_iload_n (j := 1) (x := v1) dX12_shift_60 rfl rfl ?_
            by_cases c_19 : (σ_8.AI a_17 (Int32.toNatClampNeg v3)) < v1
            · rw [if_pos c_19] at h
              refine ev_icmp_lt (x := (σ_8.AI a_17 (Int32.toNatClampNeg v3))) (y := v1) (tgt := 74) dX12_shift_61 (by decide) (fun _ => ?_) (fun q9 => absurd c_19 q9)
              exact ev_sub [0, 1, 2, 3] rfl (ev_X12_shift_p74 hO hP ih h)
            · rw [if_neg c_19] at h
              refine ev_icmp_lt (x := (σ_8.AI a_17 (Int32.toNatClampNeg v3))) (y := v1) (tgt := 74) dX12_shift_61 (by decide) (fun q9 => absurd q9 c_19) (fun _ => ?_)
              refine ev_aload_n (j := 0) (x := (some a0)) dX12_shift_64 rfl rfl ?_
              refine ev_get (C := RX12) (T := TX12) (k := 18) inX12 (xE_12 c_13) rfl (by decide) wd_166 (Or.inl rfl) rfl dX12_shift_65 ?_
              refine ev_iload_n (j := 3) (x := v3) dX12_shift_68 rfl rfl ?_
              refine ev_dup2_11 dX12_shift_69 rfl (x_cat _) ?_
              refine ev_at (st' := [.int v3, va_rf (some a_17), .int v3, va_rf (σ_8.R 1118 a0)]) rfl (by rw [ea_17]) ?_
              refine ev_iald_31 c_18.1 c_18.2 dX12_shift_70 ?_
              refine ev_iconst (v := 1) dX12_shift_71 (by decide) ?_
              refine ev_iadd (x := (σ_8.AI a_17 (Int32.toNatClampNeg v3))) (y := 1) dX12_shift_72 ?_
              refine ev_at (st' := [.int ((σ_8.AI a_17 (Int32.toNatClampNeg v3)) + 1), .int v3, va_rf (some a_17)]) rfl (by rw [ea_17]) ?_
              obtain ⟨c_20, h⟩ := x_chk_e h
              obtain ⟨σ_21, eσ_21, h⟩ := x_let_e h
              refine ev_iast_31 c_20.1 c_20.2.1 (hP.2.2.2.1 ▸ c_20.2.2) dX12_shift_73 (eσ_21 ▸ ?_)
              exact ev_sub [0, 1, 2, 3] rfl (ev_X12_shift_p74 hO hP ih h)
      · have z9 := x_call (M := mX12_shift) (M' := mX12_mod) (pc := 37) (st := [va_rf (some a0), va_rf (σ.R 1107 a0), .int (σ.AI a_5 (Int32.toNatClampNeg v3))]) (rest := [va_rf (σ.R 1107 a0), .int (σ.AI a_5 (Int32.toNatClampNeg v3))]) (av := [va_rf (some a0)]) (x_linkV (M := mX12_shift) (M' := mX12_mod) (As := []) (index := 175) (C := RX12) (T := TX12) (xE_12 c_1) rfl wd_676 wd_677 (wG_in (List.mem_append_left _ (List.mem_of_getElem? (i := 48) rfl)) rfl) xw_X12_mod rfl (by decide) rfl rfl dX12_shift_37) (ev_X12_mod hO hP h_9) xw_X12_mod rfl wd_198 dX12_shift_37 (by decide) (by decide) (by simp [x_cat, x_catI, x_catJ])
        cases h
        exact x_callX z9 (evX_out rfl)
set_option maxHeartbeats 4000000 in
set_option maxRecDepth 100000 in
theorem ev_X12_shift {l : Launch} {G : xG} (hO : x_OK l G) {P : xP} (hP : x_PG P G) {a0 : Nat} {v1 : Int32} {σ σ' : xS} {rr : Unit ⊕ String} (h : dm_X12_shift P a0 v1 σ = some (rr, σ')) : EvM l G mX12_shift [va_rf (some a0), .int v1] σ (xrV rr) σ' := by
  unfold dm_X12_shift at h
  refine evM_of hO (by decide +kernel) (x_lenI (by simp [x_cat, x_catI, x_catJ, mX12_shift, xM.maxL])) ?_
  refine Eq.mp (congrArg (fun z => Ev l G mX12_shift 0 z [] σ (xrV rr) σ') (show [(0, va_rf (some a0)), (1, .int v1)] = lv_args 0 [va_rf (some a0), .int v1] by simp [lv_args, x_cat, x_catI, x_catJ])) ?_
  refine ev_sipush (v := 512) dX12_shift_0 (by decide) ?_
  refine ev_aload_n (j := 0) (x := (some a0)) dX12_shift_3 rfl rfl ?_
  obtain ⟨c_1, h⟩ := x_chk_e h
  refine ev_get (C := RX12) (T := TX12) (k := 40) inX12 (xE_12 c_1) rfl (by decide) wd_638 (Or.inl rfl) rfl dX12_shift_4 ?_
  refine ev_imul (x := 512) (y := (σ.I 1140 a0)) dX12_shift_7 ?_
  obtain ⟨v_2, ev_2, h⟩ := x_let_e h
  rw [← ev_2]
  refine ev_istore_n (i := 2) (lv' := [(2, .int v_2), (0, va_rf (some a0)), (1, .int v1)]) dX12_shift_8 rfl (by decide) rfl ?_
  refine ev_iload_n (j := 0) (x := v_2) dX12_shift_9 rfl rfl ?_
  refine ev_istore_n (i := 3) (lv' := [(3, .int v_2), (2, .int v_2), (0, va_rf (some a0)), (1, .int v1)]) dX12_shift_10 rfl (by decide) rfl ?_
  exact ev_sub [2, 3, 1, 0] rfl (ev_X12_shift_L11 hO hP P.N h)
set_option maxHeartbeats 4000000 in
set_option maxRecDepth 100000 in
theorem ev_X12_shortNet_p243 {l : Launch} {G : xG} (hO : x_OK l G) {P : xP} (hP : x_PG P G) {a0 : Nat} {σ σ' : xS} {rr : Unit ⊕ String} (h : dm_X12_shortNet_p243 P a0 σ = some (rr, σ')) : Ev l G mX12_shortNet 243 [] [] σ (xrV rr) σ' := by
  unfold dm_X12_shortNet_p243 at h
  cases h
  exact ev_vret rfl dX12_shortNet_243
set_option maxHeartbeats 4000000 in
set_option maxRecDepth 100000 in
theorem ev_X12_shortNet_L127 {l : Launch} {G : xG} (hO : x_OK l G) {P : xP} (hP : x_PG P G) {a0 : Nat} : ∀ (n : Nat) {v1 : Int32} {v2 : Int32} {v3 : Int32} {v4 : Int32} {v5 : Int32} {σ σ' : xS} {rr : Unit ⊕ String}, dm_X12_shortNet_L127 P a0 n v1 v2 v3 v4 v5 σ = some (rr, σ') → Ev l G mX12_shortNet 127 [(0, va_rf (some a0)), (1, .int v1), (2, .int v2), (3, .int v3), (4, .int v4), (5, .int v5)] [] σ (xrV rr) σ' := by
  intro n
  induction n with
  | zero => intro v1 v2 v3 v4 v5 σ σ' rr h; cases h
  | succ n ih =>
    intro v1 v2 v3 v4 v5 σ σ' rr h
    rw [dm_X12_shortNet_L127] at h
    refine ev_iload (j := 5) (x := v5) dX12_shortNet_127 rfl ?_
    refine ev_iload (j := 4) (x := v4) dX12_shortNet_129 rfl ?_
    by_cases c_1 : v5 ≤ v4
    · rw [if_pos c_1] at h
      refine ev_icmp_le (x := v5) (y := v4) (tgt := 158) dX12_shortNet_131 (by decide) (fun _ => ?_) (fun q9 => absurd c_1 q9)
      refine ev_aload_n (j := 0) (x := (some a0)) dX12_shortNet_158 rfl rfl ?_
      obtain ⟨c_2, h⟩ := x_chk_e h
      refine ev_get (C := RX12) (T := TX12) (k := 10) inX12 (xE_12 c_2) rfl (by decide) wd_157 (Or.inl rfl) rfl dX12_shortNet_159 ?_
      refine ev_aload_n (j := 0) (x := (some a0)) dX12_shortNet_162 rfl rfl ?_
      refine ev_iload (j := 4) (x := v4) dX12_shortNet_163 rfl ?_
      rcases x_bind_e h with ⟨v_3, σ_4, h_5, h⟩ | ⟨E_57, σ_4, h_5, h⟩
      · have z9 := x_call (M := mX12_shortNet) (M' := mX12_netCell) (pc := 165) (st := [.int v4, va_rf (some a0), va_rf (σ.R 1110 a0)]) (rest := [va_rf (σ.R 1110 a0)]) (av := [va_rf (some a0), .int v4]) (x_linkV (M := mX12_shortNet) (M' := mX12_netCell) (As := [.int v4]) (index := 178) (C := RX12) (T := TX12) (xE_12 c_2) rfl wd_685 wd_686 (wG_in (List.mem_append_left _ (List.mem_of_getElem? (i := 53) rfl)) rfl) xw_X12_netCell rfl (by decide) rfl rfl dX12_shortNet_165) (ev_X12_netCell hO hP h_5) xw_X12_netCell rfl wd_198 dX12_shortNet_165 (by decide) (by decide) (by simp [x_cat, x_catI, x_catJ])
        refine x_callR z9 ?_
        refine ev_at (st' := [.int v_3, va_rf (σ.R 1110 a0)]) rfl rfl ?_
        refine ev_iload_n (j := 2) (x := v2) dX12_shortNet_168 rfl rfl ?_
        obtain ⟨a_6, ea_6, h⟩ := x_some_e h
        refine ev_at (st' := [.int v2, .int v_3, va_rf (some a_6)]) rfl (by rw [ea_6]) ?_
        obtain ⟨c_7, h⟩ := x_chk_e h
        obtain ⟨σ_8, eσ_8, h⟩ := x_let_e h
        refine ev_iast_31 c_7.1 c_7.2.1 (hP.2.2.2.1 ▸ c_7.2.2) dX12_shortNet_169 (eσ_8 ▸ ?_)
        refine ev_aload_n (j := 0) (x := (some a0)) dX12_shortNet_170 rfl rfl ?_
        obtain ⟨c_9, h⟩ := x_chk_e h
        refine ev_get (C := RX12) (T := TX12) (k := 11) inX12 (xE_12 c_9) rfl (by decide) wd_158 (Or.inl rfl) rfl dX12_shortNet_171 ?_
        refine ev_aload_n (j := 0) (x := (some a0)) dX12_shortNet_174 rfl rfl ?_
        refine ev_iload (j := 4) (x := v4) dX12_shortNet_175 rfl ?_
        rcases x_bind_e h with ⟨v_10, σ_11, h_12, h⟩ | ⟨E_56, σ_11, h_12, h⟩
        · have z9 := x_call (M := mX12_shortNet) (M' := mX12_netCell) (pc := 177) (st := [.int v4, va_rf (some a0), va_rf (σ_8.R 1111 a0)]) (rest := [va_rf (σ_8.R 1111 a0)]) (av := [va_rf (some a0), .int v4]) (x_linkV (M := mX12_shortNet) (M' := mX12_netCell) (As := [.int v4]) (index := 178) (C := RX12) (T := TX12) (xE_12 c_9) rfl wd_685 wd_686 (wG_in (List.mem_append_left _ (List.mem_of_getElem? (i := 53) rfl)) rfl) xw_X12_netCell rfl (by decide) rfl rfl dX12_shortNet_177) (ev_X12_netCell hO hP h_12) xw_X12_netCell rfl wd_198 dX12_shortNet_177 (by decide) (by decide) (by simp [x_cat, x_catI, x_catJ])
          refine x_callR z9 ?_
          refine ev_at (st' := [.int v_10, va_rf (σ_8.R 1111 a0)]) rfl rfl ?_
          refine ev_iload_n (j := 1) (x := v1) dX12_shortNet_180 rfl rfl ?_
          obtain ⟨a_13, ea_13, h⟩ := x_some_e h
          refine ev_at (st' := [.int v1, .int v_10, va_rf (some a_13)]) rfl (by rw [ea_13]) ?_
          obtain ⟨c_14, h⟩ := x_chk_e h
          obtain ⟨σ_15, eσ_15, h⟩ := x_let_e h
          refine ev_iast_31 c_14.1 c_14.2.1 (hP.2.2.2.1 ▸ c_14.2.2) dX12_shortNet_181 (eσ_15 ▸ ?_)
          refine ev_aload_n (j := 0) (x := (some a0)) dX12_shortNet_182 rfl rfl ?_
          obtain ⟨c_16, h⟩ := x_chk_e h
          refine ev_get (C := RX12) (T := TX12) (k := 12) inX12 (xE_12 c_16) rfl (by decide) wd_159 (Or.inl rfl) rfl dX12_shortNet_183 ?_
          refine ev_aload_n (j := 0) (x := (some a0)) dX12_shortNet_186 rfl rfl ?_
          refine ev_iload (j := 4) (x := v4) dX12_shortNet_187 rfl ?_
          rcases x_bind_e h with ⟨v_17, σ_18, h_19, h⟩ | ⟨E_55, σ_18, h_19, h⟩
          · have z9 := x_call (M := mX12_shortNet) (M' := mX12_netCell) (pc := 189) (st := [.int v4, va_rf (some a0), va_rf (σ_15.R 1112 a0)]) (rest := [va_rf (σ_15.R 1112 a0)]) (av := [va_rf (some a0), .int v4]) (x_linkV (M := mX12_shortNet) (M' := mX12_netCell) (As := [.int v4]) (index := 178) (C := RX12) (T := TX12) (xE_12 c_16) rfl wd_685 wd_686 (wG_in (List.mem_append_left _ (List.mem_of_getElem? (i := 53) rfl)) rfl) xw_X12_netCell rfl (by decide) rfl rfl dX12_shortNet_189) (ev_X12_netCell hO hP h_19) xw_X12_netCell rfl wd_198 dX12_shortNet_189 (by decide) (by decide) (by simp [x_cat, x_catI, x_catJ])
            refine x_callR z9 ?_
            refine ev_at (st' := [.int v_17, va_rf (σ_15.R 1112 a0)]) rfl rfl ?_
            refine ev_iload_n (j := 3) (x := v3) dX12_shortNet_192 rfl rfl ?_
            obtain ⟨a_20, ea_20, h⟩ := x_some_e h
            refine ev_at (st' := [.int v3, .int v_17, va_rf (some a_20)]) rfl (by rw [ea_20]) ?_
            obtain ⟨c_21, h⟩ := x_chk_e h
            obtain ⟨σ_22, eσ_22, h⟩ := x_let_e h
            refine ev_iast_31 c_21.1 c_21.2.1 (hP.2.2.2.1 ▸ c_21.2.2) dX12_shortNet_193 (eσ_22 ▸ ?_)
            refine ev_aload_n (j := 0) (x := (some a0)) dX12_shortNet_194 rfl rfl ?_
            obtain ⟨c_23, h⟩ := x_chk_e h
            refine ev_get (C := RX12) (T := TX12) (k := 14) inX12 (xE_12 c_23) rfl (by decide) wd_162 (Or.inl rfl) rfl dX12_shortNet_195 ?_
            refine ev_aload_n (j := 0) (x := (some a0)) dX12_shortNet_198 rfl rfl ?_
            refine ev_iload (j := 4) (x := v4) dX12_shortNet_199 rfl ?_
            rcases x_bind_e h with ⟨v_24, σ_25, h_26, h⟩ | ⟨E_54, σ_25, h_26, h⟩
            · have z9 := x_call (M := mX12_shortNet) (M' := mX12_netCell) (pc := 201) (st := [.int v4, va_rf (some a0), va_rf (σ_22.R 1114 a0)]) (rest := [va_rf (σ_22.R 1114 a0)]) (av := [va_rf (some a0), .int v4]) (x_linkV (M := mX12_shortNet) (M' := mX12_netCell) (As := [.int v4]) (index := 178) (C := RX12) (T := TX12) (xE_12 c_23) rfl wd_685 wd_686 (wG_in (List.mem_append_left _ (List.mem_of_getElem? (i := 53) rfl)) rfl) xw_X12_netCell rfl (by decide) rfl rfl dX12_shortNet_201) (ev_X12_netCell hO hP h_26) xw_X12_netCell rfl wd_198 dX12_shortNet_201 (by decide) (by decide) (by simp [x_cat, x_catI, x_catJ])
              refine x_callR z9 ?_
              refine ev_at (st' := [.int v_24, va_rf (σ_22.R 1114 a0)]) rfl rfl ?_
              refine ev_iconst (v := 1) dX12_shortNet_204 (by decide) ?_
              obtain ⟨a_27, ea_27, h⟩ := x_some_e h
              refine ev_at (st' := [.int 1, .int v_24, va_rf (some a_27)]) rfl (by rw [ea_27]) ?_
              obtain ⟨c_28, h⟩ := x_chk_e h
              obtain ⟨σ_29, eσ_29, h⟩ := x_let_e h
              refine ev_zast_33 c_28.1 c_28.2.1 (hP.2.2.2.1 ▸ c_28.2.2.1) (x_boolN c_28.2.2.2) dX12_shortNet_205 (eσ_29 ▸ ?_)
              refine ev_aload_n (j := 0) (x := (some a0)) dX12_shortNet_206 rfl rfl ?_
              obtain ⟨c_30, h⟩ := x_chk_e h
              refine ev_get (C := RX12) (T := TX12) (k := 9) inX12 (xE_12 c_30) rfl (by decide) wd_156 (Or.inl rfl) rfl dX12_shortNet_207 ?_
              refine ev_aload_n (j := 0) (x := (some a0)) dX12_shortNet_210 rfl rfl ?_
              rcases x_bind_e h with ⟨v_31, σ_32, h_33, h⟩ | ⟨E_53, σ_32, h_33, h⟩
              · have z9 := x_call (M := mX12_shortNet) (M' := mX12_mod) (pc := 211) (st := [va_rf (some a0), va_rf (σ_29.R 1109 a0)]) (rest := [va_rf (σ_29.R 1109 a0)]) (av := [va_rf (some a0)]) (x_linkV (M := mX12_shortNet) (M' := mX12_mod) (As := []) (index := 175) (C := RX12) (T := TX12) (xE_12 c_30) rfl wd_676 wd_677 (wG_in (List.mem_append_left _ (List.mem_of_getElem? (i := 48) rfl)) rfl) xw_X12_mod rfl (by decide) rfl rfl dX12_shortNet_211) (ev_X12_mod hO hP h_33) xw_X12_mod rfl wd_198 dX12_shortNet_211 (by decide) (by decide) (by simp [x_cat, x_catI, x_catJ])
                refine x_callR z9 ?_
                refine ev_at (st' := [.int v_31, va_rf (σ_29.R 1109 a0)]) rfl rfl ?_
                refine ev_dup2_11 dX12_shortNet_214 rfl (x_cat _) ?_
                obtain ⟨a_34, ea_34, h⟩ := x_some_e h
                refine ev_at (st' := [.int v_31, va_rf (some a_34), .int v_31, va_rf (σ_29.R 1109 a0)]) rfl (by rw [ea_34]) ?_
                obtain ⟨c_35, h⟩ := x_chk_e h
                refine ev_iald_31 c_35.1 c_35.2 dX12_shortNet_215 ?_
                refine ev_iconst (v := 1) dX12_shortNet_216 (by decide) ?_
                refine ev_iadd (x := (σ_32.AI a_34 (Int32.toNatClampNeg v_31))) (y := 1) dX12_shortNet_217 ?_
                refine ev_at (st' := [.int ((σ_32.AI a_34 (Int32.toNatClampNeg v_31)) + 1), .int v_31, va_rf (some a_34)]) rfl (by rw [ea_34]) ?_
                obtain ⟨c_36, h⟩ := x_chk_e h
                obtain ⟨σ_37, eσ_37, h⟩ := x_let_e h
                refine ev_iast_31 c_36.1 c_36.2.1 (hP.2.2.2.1 ▸ c_36.2.2) dX12_shortNet_218 (eσ_37 ▸ ?_)
                refine ev_iload_n (j := 1) (x := v1) dX12_shortNet_219 rfl rfl ?_
                refine ev_iconst (v := 2) dX12_shortNet_220 (by decide) ?_
                by_cases c_38 : 2 ≤ v1
                · rw [if_pos c_38] at h
                  refine ev_icmp_ge (x := v1) (y := 2) (tgt := 243) dX12_shortNet_221 (by decide) (fun _ => ?_) (fun q9 => absurd c_38 q9)
                  exact ev_sub [] rfl (ev_X12_shortNet_p243 hO hP h)
                · rw [if_neg c_38] at h
                  refine ev_icmp_ge (x := v1) (y := 2) (tgt := 243) dX12_shortNet_221 (by decide) (fun q9 => absurd q9 c_38) (fun _ => ?_)
                  refine ev_aload_n (j := 0) (x := (some a0)) dX12_shortNet_224 rfl rfl ?_
                  obtain ⟨c_39, h⟩ := x_chk_e h
                  refine ev_get (C := RX12) (T := TX12) (k := 8) inX12 (xE_12 c_39) rfl (by decide) wd_155 (Or.inl rfl) rfl dX12_shortNet_225 ?_
                  refine ev_aload_n (j := 0) (x := (some a0)) dX12_shortNet_228 rfl rfl ?_
                  rcases x_bind_e h with ⟨v_40, σ_41, h_42, h⟩ | ⟨E_52, σ_41, h_42, h⟩
                  · have z9 := x_call (M := mX12_shortNet) (M' := mX12_mod) (pc := 229) (st := [va_rf (some a0), va_rf (σ_37.R 1108 a0)]) (rest := [va_rf (σ_37.R 1108 a0)]) (av := [va_rf (some a0)]) (x_linkV (M := mX12_shortNet) (M' := mX12_mod) (As := []) (index := 175) (C := RX12) (T := TX12) (xE_12 c_39) rfl wd_676 wd_677 (wG_in (List.mem_append_left _ (List.mem_of_getElem? (i := 48) rfl)) rfl) xw_X12_mod rfl (by decide) rfl rfl dX12_shortNet_229) (ev_X12_mod hO hP h_42) xw_X12_mod rfl wd_198 dX12_shortNet_229 (by decide) (by decide) (by simp [x_cat, x_catI, x_catJ])
                    refine x_callR z9 ?_
                    refine ev_at (st' := [.int v_40, va_rf (σ_37.R 1108 a0)]) rfl rfl ?_
                    refine ev_dup2_11 dX12_shortNet_232 rfl (x_cat _) ?_
                    obtain ⟨a_43, ea_43, h⟩ := x_some_e h
                    refine ev_at (st' := [.int v_40, va_rf (some a_43), .int v_40, va_rf (σ_37.R 1108 a0)]) rfl (by rw [ea_43]) ?_
                    obtain ⟨c_44, h⟩ := x_chk_e h
                    refine ev_iald_31 c_44.1 c_44.2 dX12_shortNet_233 ?_
                    refine ev_iconst (v := 1) dX12_shortNet_234 (by decide) ?_
                    refine ev_iadd (x := (σ_41.AI a_43 (Int32.toNatClampNeg v_40))) (y := 1) dX12_shortNet_235 ?_
                    refine ev_at (st' := [.int ((σ_41.AI a_43 (Int32.toNatClampNeg v_40)) + 1), .int v_40, va_rf (some a_43)]) rfl (by rw [ea_43]) ?_
                    obtain ⟨c_45, h⟩ := x_chk_e h
                    obtain ⟨σ_46, eσ_46, h⟩ := x_let_e h
                    refine ev_iast_31 c_45.1 c_45.2.1 (hP.2.2.2.1 ▸ c_45.2.2) dX12_shortNet_236 (eσ_46 ▸ ?_)
                    refine ev_aload_n (j := 0) (x := (some a0)) dX12_shortNet_237 rfl rfl ?_
                    refine ev_iload (j := 4) (x := v4) dX12_shortNet_238 rfl ?_
                    obtain ⟨c_50, h⟩ := x_chk_e h
                    rcases x_bind_e h with ⟨v_47, σ_48, h_49, h⟩ | ⟨E_51, σ_48, h_49, h⟩
                    · have z9 := x_call (M := mX12_shortNet) (M' := mX12_shift) (pc := 240) (st := [.int v4, va_rf (some a0)]) (rest := []) (av := [va_rf (some a0), .int v4]) (x_linkV (M := mX12_shortNet) (M' := mX12_shift) (As := [.int v4]) (index := 259) (C := RX12) (T := TX12) (xE_12 c_50) rfl wd_751 wd_752 (wG_in (List.mem_append_left _ (List.mem_of_getElem? (i := 74) rfl)) rfl) xw_X12_shift rfl (by decide) rfl rfl dX12_shortNet_240) (ev_X12_shift hO hP h_49) xw_X12_shift rfl wd_198 dX12_shortNet_240 (by decide) (by decide) (by simp [x_cat, x_catI, x_catJ])
                      refine x_callR z9 ?_
                      refine ev_at (st' := []) rfl rfl ?_
                      exact ev_sub [] rfl (ev_X12_shortNet_p243 hO hP h)
                    · have z9 := x_call (M := mX12_shortNet) (M' := mX12_shift) (pc := 240) (st := [.int v4, va_rf (some a0)]) (rest := []) (av := [va_rf (some a0), .int v4]) (x_linkV (M := mX12_shortNet) (M' := mX12_shift) (As := [.int v4]) (index := 259) (C := RX12) (T := TX12) (xE_12 c_50) rfl wd_751 wd_752 (wG_in (List.mem_append_left _ (List.mem_of_getElem? (i := 74) rfl)) rfl) xw_X12_shift rfl (by decide) rfl rfl dX12_shortNet_240) (ev_X12_shift hO hP h_49) xw_X12_shift rfl wd_198 dX12_shortNet_240 (by decide) (by decide) (by simp [x_cat, x_catI, x_catJ])
                      cases h
                      exact x_callX z9 (evX_out rfl)
                  · have z9 := x_call (M := mX12_shortNet) (M' := mX12_mod) (pc := 229) (st := [va_rf (some a0), va_rf (σ_37.R 1108 a0)]) (rest := [va_rf (σ_37.R 1108 a0)]) (av := [va_rf (some a0)]) (x_linkV (M := mX12_shortNet) (M' := mX12_mod) (As := []) (index := 175) (C := RX12) (T := TX12) (xE_12 c_39) rfl wd_676 wd_677 (wG_in (List.mem_append_left _ (List.mem_of_getElem? (i := 48) rfl)) rfl) xw_X12_mod rfl (by decide) rfl rfl dX12_shortNet_229) (ev_X12_mod hO hP h_42) xw_X12_mod rfl wd_198 dX12_shortNet_229 (by decide) (by decide) (by simp [x_cat, x_catI, x_catJ])
                    cases h
                    exact x_callX z9 (evX_out rfl)
              · have z9 := x_call (M := mX12_shortNet) (M' := mX12_mod) (pc := 211) (st := [va_rf (some a0), va_rf (σ_29.R 1109 a0)]) (rest := [va_rf (σ_29.R 1109 a0)]) (av := [va_rf (some a0)]) (x_linkV (M := mX12_shortNet) (M' := mX12_mod) (As := []) (index := 175) (C := RX12) (T := TX12) (xE_12 c_30) rfl wd_676 wd_677 (wG_in (List.mem_append_left _ (List.mem_of_getElem? (i := 48) rfl)) rfl) xw_X12_mod rfl (by decide) rfl rfl dX12_shortNet_211) (ev_X12_mod hO hP h_33) xw_X12_mod rfl wd_198 dX12_shortNet_211 (by decide) (by decide) (by simp [x_cat, x_catI, x_catJ])
                cases h
                exact x_callX z9 (evX_out rfl)
            · have z9 := x_call (M := mX12_shortNet) (M' := mX12_netCell) (pc := 201) (st := [.int v4, va_rf (some a0), va_rf (σ_22.R 1114 a0)]) (rest := [va_rf (σ_22.R 1114 a0)]) (av := [va_rf (some a0), .int v4]) (x_linkV (M := mX12_shortNet) (M' := mX12_netCell) (As := [.int v4]) (index := 178) (C := RX12) (T := TX12) (xE_12 c_23) rfl wd_685 wd_686 (wG_in (List.mem_append_left _ (List.mem_of_getElem? (i := 53) rfl)) rfl) xw_X12_netCell rfl (by decide) rfl rfl dX12_shortNet_201) (ev_X12_netCell hO hP h_26) xw_X12_netCell rfl wd_198 dX12_shortNet_201 (by decide) (by decide) (by simp [x_cat, x_catI, x_catJ])
              cases h
              exact x_callX z9 (evX_out rfl)
          · have z9 := x_call (M := mX12_shortNet) (M' := mX12_netCell) (pc := 189) (st := [.int v4, va_rf (some a0), va_rf (σ_15.R 1112 a0)]) (rest := [va_rf (σ_15.R 1112 a0)]) (av := [va_rf (some a0), .int v4]) (x_linkV (M := mX12_shortNet) (M' := mX12_netCell) (As := [.int v4]) (index := 178) (C := RX12) (T := TX12) (xE_12 c_16) rfl wd_685 wd_686 (wG_in (List.mem_append_left _ (List.mem_of_getElem? (i := 53) rfl)) rfl) xw_X12_netCell rfl (by decide) rfl rfl dX12_shortNet_189) (ev_X12_netCell hO hP h_19) xw_X12_netCell rfl wd_198 dX12_shortNet_189 (by decide) (by decide) (by simp [x_cat, x_catI, x_catJ])
            cases h
            exact x_callX z9 (evX_out rfl)
        · have z9 := x_call (M := mX12_shortNet) (M' := mX12_netCell) (pc := 177) (st := [.int v4, va_rf (some a0), va_rf (σ_8.R 1111 a0)]) (rest := [va_rf (σ_8.R 1111 a0)]) (av := [va_rf (some a0), .int v4]) (x_linkV (M := mX12_shortNet) (M' := mX12_netCell) (As := [.int v4]) (index := 178) (C := RX12) (T := TX12) (xE_12 c_9) rfl wd_685 wd_686 (wG_in (List.mem_append_left _ (List.mem_of_getElem? (i := 53) rfl)) rfl) xw_X12_netCell rfl (by decide) rfl rfl dX12_shortNet_177) (ev_X12_netCell hO hP h_12) xw_X12_netCell rfl wd_198 dX12_shortNet_177 (by decide) (by decide) (by simp [x_cat, x_catI, x_catJ])
          cases h
          exact x_callX z9 (evX_out rfl)
      · have z9 := x_call (M := mX12_shortNet) (M' := mX12_netCell) (pc := 165) (st := [.int v4, va_rf (some a0), va_rf (σ.R 1110 a0)]) (rest := [va_rf (σ.R 1110 a0)]) (av := [va_rf (some a0), .int v4]) (x_linkV (M := mX12_shortNet) (M' := mX12_netCell) (As := [.int v4]) (index := 178) (C := RX12) (T := TX12) (xE_12 c_2) rfl wd_685 wd_686 (wG_in (List.mem_append_left _ (List.mem_of_getElem? (i := 53) rfl)) rfl) xw_X12_netCell rfl (by decide) rfl rfl dX12_shortNet_165) (ev_X12_netCell hO hP h_5) xw_X12_netCell rfl wd_198 dX12_shortNet_165 (by decide) (by decide) (by simp [x_cat, x_catI, x_catJ])
        cases h
        exact x_callX z9 (evX_out rfl)
    · rw [if_neg c_1] at h
      refine ev_icmp_le (x := v5) (y := v4) (tgt := 158) dX12_shortNet_131 (by decide) (fun q9 => absurd q9 c_1) (fun _ => ?_)
      refine ev_aload_n (j := 0) (x := (some a0)) dX12_shortNet_134 rfl rfl ?_
      refine ev_aload_n (j := 0) (x := (some a0)) dX12_shortNet_135 rfl rfl ?_
      refine ev_iload (j := 5) (x := v5) dX12_shortNet_136 rfl ?_
      refine ev_iconst (v := 1) dX12_shortNet_138 (by decide) ?_
      refine ev_isub (x := v5) (y := 1) dX12_shortNet_139 ?_
      obtain ⟨c_61, h⟩ := x_chk_e h
      rcases x_bind_e h with ⟨v_58, σ_59, h_60, h⟩ | ⟨E_73, σ_59, h_60, h⟩
      · have z9 := x_call (M := mX12_shortNet) (M' := mX12_netCell) (pc := 140) (st := [.int (v5 - 1), va_rf (some a0), va_rf (some a0)]) (rest := [va_rf (some a0)]) (av := [va_rf (some a0), .int (v5 - 1)]) (x_linkV (M := mX12_shortNet) (M' := mX12_netCell) (As := [.int (v5 - 1)]) (index := 178) (C := RX12) (T := TX12) (xE_12 c_61) rfl wd_685 wd_686 (wG_in (List.mem_append_left _ (List.mem_of_getElem? (i := 53) rfl)) rfl) xw_X12_netCell rfl (by decide) rfl rfl dX12_shortNet_140) (ev_X12_netCell hO hP h_60) xw_X12_netCell rfl wd_198 dX12_shortNet_140 (by decide) (by decide) (by simp [x_cat, x_catI, x_catJ])
        refine x_callR z9 ?_
        refine ev_at (st' := [.int v_58, va_rf (some a0)]) rfl rfl ?_
        refine ev_aload_n (j := 0) (x := (some a0)) dX12_shortNet_143 rfl rfl ?_
        refine ev_iload (j := 5) (x := v5) dX12_shortNet_144 rfl ?_
        obtain ⟨c_65, h⟩ := x_chk_e h
        rcases x_bind_e h with ⟨v_62, σ_63, h_64, h⟩ | ⟨E_72, σ_63, h_64, h⟩
        · have z9 := x_call (M := mX12_shortNet) (M' := mX12_netCell) (pc := 146) (st := [.int v5, va_rf (some a0), .int v_58, va_rf (some a0)]) (rest := [.int v_58, va_rf (some a0)]) (av := [va_rf (some a0), .int v5]) (x_linkV (M := mX12_shortNet) (M' := mX12_netCell) (As := [.int v5]) (index := 178) (C := RX12) (T := TX12) (xE_12 c_65) rfl wd_685 wd_686 (wG_in (List.mem_append_left _ (List.mem_of_getElem? (i := 53) rfl)) rfl) xw_X12_netCell rfl (by decide) rfl rfl dX12_shortNet_146) (ev_X12_netCell hO hP h_64) xw_X12_netCell rfl wd_198 dX12_shortNet_146 (by decide) (by decide) (by simp [x_cat, x_catI, x_catJ])
          refine x_callR z9 ?_
          refine ev_at (st' := [.int v_62, .int v_58, va_rf (some a0)]) rfl rfl ?_
          obtain ⟨c_69, h⟩ := x_chk_e h
          rcases x_bind_e h with ⟨v_66, σ_67, h_68, h⟩ | ⟨E_71, σ_67, h_68, h⟩
          · have z9 := x_call (M := mX12_shortNet) (M' := mX12_move) (pc := 149) (st := [.int v_62, .int v_58, va_rf (some a0)]) (rest := []) (av := [va_rf (some a0), .int v_58, .int v_62]) (x_linkV (M := mX12_shortNet) (M' := mX12_move) (As := [.int v_58, .int v_62]) (index := 256) (C := RX12) (T := TX12) (xE_12 c_69) rfl wd_754 wd_755 (wG_in (List.mem_append_left _ (List.mem_of_getElem? (i := 73) rfl)) rfl) xw_X12_move rfl (by decide) rfl rfl dX12_shortNet_149) (ev_X12_move hO hP h_68) xw_X12_move rfl wd_198 dX12_shortNet_149 (by decide) (by decide) (by simp [x_cat, x_catI, x_catJ])
            refine x_callR z9 ?_
            refine ev_at (st' := []) rfl rfl ?_
            obtain ⟨v_70, ev_70, h⟩ := x_let_e h
            refine ev_iinc (j := 5) (x := v5) (v := v_70) (lv' := [(5, .int v_70), (0, va_rf (some a0)), (1, .int v1), (2, .int v2), (3, .int v3), (4, .int v4)]) dX12_shortNet_152 rfl (by rw [ev_70]; rfl) (by decide) rfl ?_
            refine ev_goto (tgt := 127) dX12_shortNet_155 (by decide) ?_
            exact ev_sub [1, 2, 3, 4, 5, 0] rfl (ih h)
          · have z9 := x_call (M := mX12_shortNet) (M' := mX12_move) (pc := 149) (st := [.int v_62, .int v_58, va_rf (some a0)]) (rest := []) (av := [va_rf (some a0), .int v_58, .int v_62]) (x_linkV (M := mX12_shortNet) (M' := mX12_move) (As := [.int v_58, .int v_62]) (index := 256) (C := RX12) (T := TX12) (xE_12 c_69) rfl wd_754 wd_755 (wG_in (List.mem_append_left _ (List.mem_of_getElem? (i := 73) rfl)) rfl) xw_X12_move rfl (by decide) rfl rfl dX12_shortNet_149) (ev_X12_move hO hP h_68) xw_X12_move rfl wd_198 dX12_shortNet_149 (by decide) (by decide) (by simp [x_cat, x_catI, x_catJ])
            cases h
            exact x_callX z9 (evX_out rfl)
        · have z9 := x_call (M := mX12_shortNet) (M' := mX12_netCell) (pc := 146) (st := [.int v5, va_rf (some a0), .int v_58, va_rf (some a0)]) (rest := [.int v_58, va_rf (some a0)]) (av := [va_rf (some a0), .int v5]) (x_linkV (M := mX12_shortNet) (M' := mX12_netCell) (As := [.int v5]) (index := 178) (C := RX12) (T := TX12) (xE_12 c_65) rfl wd_685 wd_686 (wG_in (List.mem_append_left _ (List.mem_of_getElem? (i := 53) rfl)) rfl) xw_X12_netCell rfl (by decide) rfl rfl dX12_shortNet_146) (ev_X12_netCell hO hP h_64) xw_X12_netCell rfl wd_198 dX12_shortNet_146 (by decide) (by decide) (by simp [x_cat, x_catI, x_catJ])
          cases h
          exact x_callX z9 (evX_out rfl)
      · have z9 := x_call (M := mX12_shortNet) (M' := mX12_netCell) (pc := 140) (st := [.int (v5 - 1), va_rf (some a0), va_rf (some a0)]) (rest := [va_rf (some a0)]) (av := [va_rf (some a0), .int (v5 - 1)]) (x_linkV (M := mX12_shortNet) (M' := mX12_netCell) (As := [.int (v5 - 1)]) (index := 178) (C := RX12) (T := TX12) (xE_12 c_61) rfl wd_685 wd_686 (wG_in (List.mem_append_left _ (List.mem_of_getElem? (i := 53) rfl)) rfl) xw_X12_netCell rfl (by decide) rfl rfl dX12_shortNet_140) (ev_X12_netCell hO hP h_60) xw_X12_netCell rfl wd_198 dX12_shortNet_140 (by decide) (by decide) (by simp [x_cat, x_catI, x_catJ])
        cases h
        exact x_callX z9 (evX_out rfl)
set_option maxHeartbeats 4000000 in
set_option maxRecDepth 100000 in
theorem ev_X12_shortNet_p114 {l : Launch} {G : xG} (hO : x_OK l G) {P : xP} (hP : x_PG P G) {a0 : Nat} {v1 : Int32} {v2 : Int32} {v3 : Int32} {s0 : Int32} {σ σ' : xS} {rr : Unit ⊕ String} (h : dm_X12_shortNet_p114 P a0 v1 v2 v3 s0 σ = some (rr, σ')) : Ev l G mX12_shortNet 114 [(0, va_rf (some a0)), (1, .int v1), (2, .int v2), (3, .int v3)] [.int s0] σ (xrV rr) σ' := by
  unfold dm_X12_shortNet_p114 at h
  refine ev_istore (i := 4) (lv' := [(4, .int s0), (0, va_rf (some a0)), (1, .int v1), (2, .int v2), (3, .int v3)]) dX12_shortNet_114 (by decide) rfl ?_
  refine ev_aload_n (j := 1) (x := (some a0)) dX12_shortNet_116 rfl rfl ?_
  obtain ⟨c_1, h⟩ := x_chk_e h
  refine ev_get (C := RX12) (T := TX12) (k := 9) inX12 (xE_12 c_1) rfl (by decide) wd_156 (Or.inl rfl) rfl dX12_shortNet_117 ?_
  refine ev_aload_n (j := 1) (x := (some a0)) dX12_shortNet_120 rfl rfl ?_
  rcases x_bind_e h with ⟨v_2, σ_3, h_4, h⟩ | ⟨E_8, σ_3, h_4, h⟩
  · have z9 := x_call (M := mX12_shortNet) (M' := mX12_mod) (pc := 121) (st := [va_rf (some a0), va_rf (σ.R 1109 a0)]) (rest := [va_rf (σ.R 1109 a0)]) (av := [va_rf (some a0)]) (x_linkV (M := mX12_shortNet) (M' := mX12_mod) (As := []) (index := 175) (C := RX12) (T := TX12) (xE_12 c_1) rfl wd_676 wd_677 (wG_in (List.mem_append_left _ (List.mem_of_getElem? (i := 48) rfl)) rfl) xw_X12_mod rfl (by decide) rfl rfl dX12_shortNet_121) (ev_X12_mod hO hP h_4) xw_X12_mod rfl wd_198 dX12_shortNet_121 (by decide) (by decide) (by simp [x_cat, x_catI, x_catJ])
    refine x_callR z9 ?_
    refine ev_at (st' := [.int v_2, va_rf (σ.R 1109 a0)]) rfl rfl ?_
    obtain ⟨a_5, ea_5, h⟩ := x_some_e h
    refine ev_at (st' := [.int v_2, va_rf (some a_5)]) rfl (by rw [ea_5]) ?_
    obtain ⟨c_6, h⟩ := x_chk_e h
    refine ev_iald_31 c_6.1 c_6.2 dX12_shortNet_124 ?_
    obtain ⟨v_7, ev_7, h⟩ := x_let_e h
    rw [← ev_7]
    refine ev_istore (i := 5) (lv' := [(5, .int v_7), (4, .int s0), (0, va_rf (some a0)), (1, .int v1), (2, .int v2), (3, .int v3)]) dX12_shortNet_125 (by decide) rfl ?_
    exact ev_sub [2, 3, 4, 5, 1, 0] rfl (ev_X12_shortNet_L127 hO hP P.N h)
  · have z9 := x_call (M := mX12_shortNet) (M' := mX12_mod) (pc := 121) (st := [va_rf (some a0), va_rf (σ.R 1109 a0)]) (rest := [va_rf (σ.R 1109 a0)]) (av := [va_rf (some a0)]) (x_linkV (M := mX12_shortNet) (M' := mX12_mod) (As := []) (index := 175) (C := RX12) (T := TX12) (xE_12 c_1) rfl wd_676 wd_677 (wG_in (List.mem_append_left _ (List.mem_of_getElem? (i := 48) rfl)) rfl) xw_X12_mod rfl (by decide) rfl rfl dX12_shortNet_121) (ev_X12_mod hO hP h_4) xw_X12_mod rfl wd_198 dX12_shortNet_121 (by decide) (by decide) (by simp [x_cat, x_catI, x_catJ])
    cases h
    exact x_callX z9 (evX_out rfl)
set_option maxHeartbeats 4000000 in
set_option maxRecDepth 100000 in
theorem ev_X12_shortNet_p49 {l : Launch} {G : xG} (hO : x_OK l G) {P : xP} (hP : x_PG P G) {a0 : Nat} {v1 : Int32} {σ σ' : xS} {rr : Unit ⊕ String} (h : dm_X12_shortNet_p49 P a0 v1 σ = some (rr, σ')) : Ev l G mX12_shortNet 49 [(0, va_rf (some a0)), (1, .int v1)] [] σ (xrV rr) σ' := by
  unfold dm_X12_shortNet_p49 at h
  refine ev_aload_n (j := 0) (x := (some a0)) dX12_shortNet_49 rfl rfl ?_
  obtain ⟨c_1, h⟩ := x_chk_e h
  refine ev_get (C := RX12) (T := TX12) (k := 36) inX12 (xE_12 c_1) rfl (by decide) wd_646 (Or.inl rfl) rfl dX12_shortNet_50 ?_
  obtain ⟨v_2, ev_2, h⟩ := x_let_e h
  rw [← ev_2]
  refine ev_istore_n (i := 2) (lv' := [(2, .int v_2), (0, va_rf (some a0)), (1, .int v1)]) dX12_shortNet_53 rfl (by decide) rfl ?_
  refine ev_aload_n (j := 1) (x := (some a0)) dX12_shortNet_54 rfl rfl ?_
  rcases x_bind_e h with ⟨v_3, σ_4, h_5, h⟩ | ⟨E_43, σ_4, h_5, h⟩
  · have z9 := x_call (M := mX12_shortNet) (M' := mX12_next) (pc := 55) (st := [va_rf (some a0)]) (rest := []) (av := [va_rf (some a0)]) (x_linkV (M := mX12_shortNet) (M' := mX12_next) (As := []) (index := 169) (C := RX12) (T := TX12) (xE_12 c_1) rfl wd_679 wd_680 (wG_in (List.mem_append_left _ (List.mem_of_getElem? (i := 36) rfl)) rfl) xw_X12_next rfl (by decide) rfl rfl dX12_shortNet_55) (ev_X12_next hO hP h_5) xw_X12_next rfl wd_198 dX12_shortNet_55 (by decide) (by decide) (by simp [x_cat, x_catI, x_catJ])
    refine x_callR z9 ?_
    refine ev_at (st' := []) rfl rfl ?_
    refine ev_aload_n (j := 1) (x := (some a0)) dX12_shortNet_58 rfl rfl ?_
    refine ev_iconst (v := 1) dX12_shortNet_59 (by decide) ?_
    refine ev_bipush (v := 8) dX12_shortNet_60 (by decide) ?_
    obtain ⟨c_9, h⟩ := x_chk_e h
    rcases x_bind_e h with ⟨v_6, σ_7, h_8, h⟩ | ⟨E_42, σ_7, h_8, h⟩
    · have z9 := x_call (M := mX12_shortNet) (M' := mX12_needNumber) (pc := 62) (st := [.int 8, .int 1, va_rf (some a0)]) (rest := []) (av := [va_rf (some a0), .int 1, .int 8]) (x_linkV (M := mX12_shortNet) (M' := mX12_needNumber) (As := [.int 1, .int 8]) (index := 195) (C := RX12) (T := TX12) (xE_12 c_9) rfl wd_694 wd_695 (wG_in (List.mem_append_left _ (List.mem_of_getElem? (i := 56) rfl)) rfl) xw_X12_needNumber rfl (by decide) rfl rfl dX12_shortNet_62) (ev_X12_needNumber hO hP h_8) xw_X12_needNumber rfl wd_198 dX12_shortNet_62 (by decide) (by decide) (by simp [x_cat, x_catI, x_catJ])
      refine x_callR z9 ?_
      refine ev_at (st' := []) rfl rfl ?_
      refine ev_aload_n (j := 1) (x := (some a0)) dX12_shortNet_65 rfl rfl ?_
      obtain ⟨c_10, h⟩ := x_chk_e h
      refine ev_get (C := RX12) (T := TX12) (k := 38) inX12 (xE_12 c_10) rfl (by decide) wd_654 (Or.inl rfl) rfl dX12_shortNet_66 ?_
      obtain ⟨v_11, ev_11, h⟩ := x_let_e h
      rw [← ev_11]
      refine ev_istore_n (i := 3) (lv' := [(3, .int v_11), (2, .int v_2), (0, va_rf (some a0)), (1, .int v1)]) dX12_shortNet_69 rfl (by decide) rfl ?_
      refine ev_aload_n (j := 2) (x := (some a0)) dX12_shortNet_70 rfl rfl ?_
      rcases x_bind_e h with ⟨v_12, σ_13, h_14, h⟩ | ⟨E_41, σ_13, h_14, h⟩
      · have z9 := x_call (M := mX12_shortNet) (M' := mX12_next) (pc := 71) (st := [va_rf (some a0)]) (rest := []) (av := [va_rf (some a0)]) (x_linkV (M := mX12_shortNet) (M' := mX12_next) (As := []) (index := 169) (C := RX12) (T := TX12) (xE_12 c_10) rfl wd_679 wd_680 (wG_in (List.mem_append_left _ (List.mem_of_getElem? (i := 36) rfl)) rfl) xw_X12_next rfl (by decide) rfl rfl dX12_shortNet_71) (ev_X12_next hO hP h_14) xw_X12_next rfl wd_198 dX12_shortNet_71 (by decide) (by decide) (by simp [x_cat, x_catI, x_catJ])
        refine x_callR z9 ?_
        refine ev_at (st' := []) rfl rfl ?_
        refine ev_aload_n (j := 2) (x := (some a0)) dX12_shortNet_74 rfl rfl ?_
        refine ev_bipush (v := 59) dX12_shortNet_75 (by decide) ?_
        obtain ⟨c_18, h⟩ := x_chk_e h
        rcases x_bind_e h with ⟨v_15, σ_16, h_17, h⟩ | ⟨E_40, σ_16, h_17, h⟩
        · have z9 := x_call (M := mX12_shortNet) (M' := mX12_needSign) (pc := 77) (st := [.int 59, va_rf (some a0)]) (rest := []) (av := [va_rf (some a0), .int 59]) (x_linkV (M := mX12_shortNet) (M' := mX12_needSign) (As := [.int 59]) (index := 199) (C := RX12) (T := TX12) (xE_12 c_18) rfl wd_697 wd_698 (wG_in (List.mem_append_left _ (List.mem_of_getElem? (i := 49) rfl)) rfl) xw_X12_needSign rfl (by decide) rfl rfl dX12_shortNet_77) (ev_X12_needSign hO hP h_17) xw_X12_needSign rfl wd_198 dX12_shortNet_77 (by decide) (by decide) (by simp [x_cat, x_catI, x_catJ])
          refine x_callR z9 ?_
          refine ev_at (st' := []) rfl rfl ?_
          refine ev_aload_n (j := 2) (x := (some a0)) dX12_shortNet_80 rfl rfl ?_
          obtain ⟨c_22, h⟩ := x_chk_e h
          rcases x_bind_e h with ⟨v_19, σ_20, h_21, h⟩ | ⟨E_39, σ_20, h_21, h⟩
          · have z9 := x_call (M := mX12_shortNet) (M' := mX12_ok) (pc := 81) (st := [va_rf (some a0)]) (rest := []) (av := [va_rf (some a0)]) (x_linkV (M := mX12_shortNet) (M' := mX12_ok) (As := []) (index := 121) (C := RX12) (T := TX12) (xE_12 c_22) rfl wd_640 wd_641 (wG_in (List.mem_append_left _ (List.mem_of_getElem? (i := 37) rfl)) rfl) xw_X12_ok rfl (by decide) rfl rfl dX12_shortNet_81) (ev_X12_ok hO hP h_21) xw_X12_ok rfl wd_198 dX12_shortNet_81 (by decide) (by decide) (by simp [x_cat, x_catI, x_catJ])
            refine x_callR z9 ?_
            refine ev_at (st' := [.int v_19]) rfl rfl ?_
            by_cases c_23 : v_19 = 0
            · rw [if_pos c_23] at h
              refine ev_if_ne (x := v_19) (tgt := 88) dX12_shortNet_84 (by decide) (fun q9 => absurd c_23 q9) (fun _ => ?_)
              cases h
              exact ev_vret rfl dX12_shortNet_87
            · rw [if_neg c_23] at h
              refine ev_if_ne (x := v_19) (tgt := 88) dX12_shortNet_84 (by decide) (fun _ => ?_) (fun q9 => absurd q9 c_23)
              refine ev_iload_n (j := 3) (x := v1) dX12_shortNet_88 rfl rfl ?_
              refine ev_iconst (v := 2) dX12_shortNet_89 (by decide) ?_
              by_cases c_24 : 2 ≤ v1
              · rw [if_pos c_24] at h
                refine ev_icmp_ge (x := v1) (y := 2) (tgt := 105) dX12_shortNet_90 (by decide) (fun _ => ?_) (fun q9 => absurd c_24 q9)
                refine ev_aload_n (j := 2) (x := (some a0)) dX12_shortNet_105 rfl rfl ?_
                obtain ⟨c_25, h⟩ := x_chk_e h
                refine ev_get (C := RX12) (T := TX12) (k := 9) inX12 (xE_12 c_25) rfl (by decide) wd_156 (Or.inl rfl) rfl dX12_shortNet_106 ?_
                refine ev_aload_n (j := 2) (x := (some a0)) dX12_shortNet_109 rfl rfl ?_
                rcases x_bind_e h with ⟨v_26, σ_27, h_28, h⟩ | ⟨E_31, σ_27, h_28, h⟩
                · have z9 := x_call (M := mX12_shortNet) (M' := mX12_mod) (pc := 110) (st := [va_rf (some a0), va_rf (σ_20.R 1109 a0)]) (rest := [va_rf (σ_20.R 1109 a0)]) (av := [va_rf (some a0)]) (x_linkV (M := mX12_shortNet) (M' := mX12_mod) (As := []) (index := 175) (C := RX12) (T := TX12) (xE_12 c_25) rfl wd_676 wd_677 (wG_in (List.mem_append_left _ (List.mem_of_getElem? (i := 48) rfl)) rfl) xw_X12_mod rfl (by decide) rfl rfl dX12_shortNet_110) (ev_X12_mod hO hP h_28) xw_X12_mod rfl wd_198 dX12_shortNet_110 (by decide) (by decide) (by simp [x_cat, x_catI, x_catJ])
                  refine x_callR z9 ?_
                  refine ev_at (st' := [.int v_26, va_rf (σ_20.R 1109 a0)]) rfl rfl ?_
                  obtain ⟨a_29, ea_29, h⟩ := x_some_e h
                  refine ev_at (st' := [.int v_26, va_rf (some a_29)]) rfl (by rw [ea_29]) ?_
                  obtain ⟨c_30, h⟩ := x_chk_e h
                  refine ev_iald_31 c_30.1 c_30.2 dX12_shortNet_113 ?_
                  exact ev_sub [2, 3, 1, 0] rfl (ev_X12_shortNet_p114 hO hP h)
                · have z9 := x_call (M := mX12_shortNet) (M' := mX12_mod) (pc := 110) (st := [va_rf (some a0), va_rf (σ_20.R 1109 a0)]) (rest := [va_rf (σ_20.R 1109 a0)]) (av := [va_rf (some a0)]) (x_linkV (M := mX12_shortNet) (M' := mX12_mod) (As := []) (index := 175) (C := RX12) (T := TX12) (xE_12 c_25) rfl wd_676 wd_677 (wG_in (List.mem_append_left _ (List.mem_of_getElem? (i := 48) rfl)) rfl) xw_X12_mod rfl (by decide) rfl rfl dX12_shortNet_110) (ev_X12_mod hO hP h_28) xw_X12_mod rfl wd_198 dX12_shortNet_110 (by decide) (by decide) (by simp [x_cat, x_catI, x_catJ])
                  cases h
                  exact x_callX z9 (evX_out rfl)
              · rw [if_neg c_24] at h
                refine ev_icmp_ge (x := v1) (y := 2) (tgt := 105) dX12_shortNet_90 (by decide) (fun q9 => absurd q9 c_24) (fun _ => ?_)
                refine ev_aload_n (j := 2) (x := (some a0)) dX12_shortNet_93 rfl rfl ?_
                obtain ⟨c_32, h⟩ := x_chk_e h
                refine ev_get (C := RX12) (T := TX12) (k := 8) inX12 (xE_12 c_32) rfl (by decide) wd_155 (Or.inl rfl) rfl dX12_shortNet_94 ?_
                refine ev_aload_n (j := 2) (x := (some a0)) dX12_shortNet_97 rfl rfl ?_
                rcases x_bind_e h with ⟨v_33, σ_34, h_35, h⟩ | ⟨E_38, σ_34, h_35, h⟩
                · have z9 := x_call (M := mX12_shortNet) (M' := mX12_mod) (pc := 98) (st := [va_rf (some a0), va_rf (σ_20.R 1108 a0)]) (rest := [va_rf (σ_20.R 1108 a0)]) (av := [va_rf (some a0)]) (x_linkV (M := mX12_shortNet) (M' := mX12_mod) (As := []) (index := 175) (C := RX12) (T := TX12) (xE_12 c_32) rfl wd_676 wd_677 (wG_in (List.mem_append_left _ (List.mem_of_getElem? (i := 48) rfl)) rfl) xw_X12_mod rfl (by decide) rfl rfl dX12_shortNet_98) (ev_X12_mod hO hP h_35) xw_X12_mod rfl wd_198 dX12_shortNet_98 (by decide) (by decide) (by simp [x_cat, x_catI, x_catJ])
                  refine x_callR z9 ?_
                  refine ev_at (st' := [.int v_33, va_rf (σ_20.R 1108 a0)]) rfl rfl ?_
                  obtain ⟨a_36, ea_36, h⟩ := x_some_e h
                  refine ev_at (st' := [.int v_33, va_rf (some a_36)]) rfl (by rw [ea_36]) ?_
                  obtain ⟨c_37, h⟩ := x_chk_e h
                  refine ev_iald_31 c_37.1 c_37.2 dX12_shortNet_101 ?_
                  refine ev_goto (tgt := 114) dX12_shortNet_102 (by decide) ?_
                  exact ev_sub [2, 3, 1, 0] rfl (ev_X12_shortNet_p114 hO hP h)
                · have z9 := x_call (M := mX12_shortNet) (M' := mX12_mod) (pc := 98) (st := [va_rf (some a0), va_rf (σ_20.R 1108 a0)]) (rest := [va_rf (σ_20.R 1108 a0)]) (av := [va_rf (some a0)]) (x_linkV (M := mX12_shortNet) (M' := mX12_mod) (As := []) (index := 175) (C := RX12) (T := TX12) (xE_12 c_32) rfl wd_676 wd_677 (wG_in (List.mem_append_left _ (List.mem_of_getElem? (i := 48) rfl)) rfl) xw_X12_mod rfl (by decide) rfl rfl dX12_shortNet_98) (ev_X12_mod hO hP h_35) xw_X12_mod rfl wd_198 dX12_shortNet_98 (by decide) (by decide) (by simp [x_cat, x_catI, x_catJ])
                  cases h
                  exact x_callX z9 (evX_out rfl)
          · have z9 := x_call (M := mX12_shortNet) (M' := mX12_ok) (pc := 81) (st := [va_rf (some a0)]) (rest := []) (av := [va_rf (some a0)]) (x_linkV (M := mX12_shortNet) (M' := mX12_ok) (As := []) (index := 121) (C := RX12) (T := TX12) (xE_12 c_22) rfl wd_640 wd_641 (wG_in (List.mem_append_left _ (List.mem_of_getElem? (i := 37) rfl)) rfl) xw_X12_ok rfl (by decide) rfl rfl dX12_shortNet_81) (ev_X12_ok hO hP h_21) xw_X12_ok rfl wd_198 dX12_shortNet_81 (by decide) (by decide) (by simp [x_cat, x_catI, x_catJ])
            cases h
            exact x_callX z9 (evX_out rfl)
        · have z9 := x_call (M := mX12_shortNet) (M' := mX12_needSign) (pc := 77) (st := [.int 59, va_rf (some a0)]) (rest := []) (av := [va_rf (some a0), .int 59]) (x_linkV (M := mX12_shortNet) (M' := mX12_needSign) (As := [.int 59]) (index := 199) (C := RX12) (T := TX12) (xE_12 c_18) rfl wd_697 wd_698 (wG_in (List.mem_append_left _ (List.mem_of_getElem? (i := 49) rfl)) rfl) xw_X12_needSign rfl (by decide) rfl rfl dX12_shortNet_77) (ev_X12_needSign hO hP h_17) xw_X12_needSign rfl wd_198 dX12_shortNet_77 (by decide) (by decide) (by simp [x_cat, x_catI, x_catJ])
          cases h
          exact x_callX z9 (evX_out rfl)
      · have z9 := x_call (M := mX12_shortNet) (M' := mX12_next) (pc := 71) (st := [va_rf (some a0)]) (rest := []) (av := [va_rf (some a0)]) (x_linkV (M := mX12_shortNet) (M' := mX12_next) (As := []) (index := 169) (C := RX12) (T := TX12) (xE_12 c_10) rfl wd_679 wd_680 (wG_in (List.mem_append_left _ (List.mem_of_getElem? (i := 36) rfl)) rfl) xw_X12_next rfl (by decide) rfl rfl dX12_shortNet_71) (ev_X12_next hO hP h_14) xw_X12_next rfl wd_198 dX12_shortNet_71 (by decide) (by decide) (by simp [x_cat, x_catI, x_catJ])
        cases h
        exact x_callX z9 (evX_out rfl)
    · have z9 := x_call (M := mX12_shortNet) (M' := mX12_needNumber) (pc := 62) (st := [.int 8, .int 1, va_rf (some a0)]) (rest := []) (av := [va_rf (some a0), .int 1, .int 8]) (x_linkV (M := mX12_shortNet) (M' := mX12_needNumber) (As := [.int 1, .int 8]) (index := 195) (C := RX12) (T := TX12) (xE_12 c_9) rfl wd_694 wd_695 (wG_in (List.mem_append_left _ (List.mem_of_getElem? (i := 56) rfl)) rfl) xw_X12_needNumber rfl (by decide) rfl rfl dX12_shortNet_62) (ev_X12_needNumber hO hP h_8) xw_X12_needNumber rfl wd_198 dX12_shortNet_62 (by decide) (by decide) (by simp [x_cat, x_catI, x_catJ])
      cases h
      exact x_callX z9 (evX_out rfl)
  · have z9 := x_call (M := mX12_shortNet) (M' := mX12_next) (pc := 55) (st := [va_rf (some a0)]) (rest := []) (av := [va_rf (some a0)]) (x_linkV (M := mX12_shortNet) (M' := mX12_next) (As := []) (index := 169) (C := RX12) (T := TX12) (xE_12 c_1) rfl wd_679 wd_680 (wG_in (List.mem_append_left _ (List.mem_of_getElem? (i := 36) rfl)) rfl) xw_X12_next rfl (by decide) rfl rfl dX12_shortNet_55) (ev_X12_next hO hP h_5) xw_X12_next rfl wd_198 dX12_shortNet_55 (by decide) (by decide) (by simp [x_cat, x_catI, x_catJ])
    cases h
    exact x_callX z9 (evX_out rfl)
set_option maxHeartbeats 4000000 in
set_option maxRecDepth 100000 in
theorem ev_X12_shortNet_p41 {l : Launch} {G : xG} (hO : x_OK l G) {P : xP} (hP : x_PG P G) {a0 : Nat} {v1 : Int32} {σ σ' : xS} {rr : Unit ⊕ String} (h : dm_X12_shortNet_p41 P a0 v1 σ = some (rr, σ')) : Ev l G mX12_shortNet 41 [(0, va_rf (some a0)), (1, .int v1)] [] σ (xrV rr) σ' := by
  unfold dm_X12_shortNet_p41 at h
  refine ev_aload_n (j := 0) (x := (some a0)) dX12_shortNet_41 rfl rfl ?_
  refine ev_aload_n (j := 0) (x := (some a0)) dX12_shortNet_42 rfl rfl ?_
  obtain ⟨c_1, h⟩ := x_chk_e h
  refine ev_get (C := RX12) (T := TX12) (k := 36) inX12 (xE_12 c_1) rfl (by decide) wd_646 (Or.inl rfl) rfl dX12_shortNet_43 ?_
  rcases x_bind_e h with ⟨v_2, σ_3, h_4, h⟩ | ⟨E_5, σ_3, h_4, h⟩
  · have z9 := x_call (M := mX12_shortNet) (M' := mX12_fail) (pc := 46) (st := [.int (σ.I 1136 a0), va_rf (some a0)]) (rest := []) (av := [va_rf (some a0), .int (σ.I 1136 a0)]) (x_linkV (M := mX12_shortNet) (M' := mX12_fail) (As := [.int (σ.I 1136 a0)]) (index := 150) (C := RX12) (T := TX12) (xE_12 c_1) rfl wd_657 wd_658 (wG_in (List.mem_append_left _ (List.mem_of_getElem? (i := 39) rfl)) rfl) xw_X12_fail rfl (by decide) rfl rfl dX12_shortNet_46) (ev_X12_fail hO hP h_4) xw_X12_fail rfl wd_198 dX12_shortNet_46 (by decide) (by decide) (by simp [x_cat, x_catI, x_catJ])
    refine x_callR z9 ?_
    refine ev_at (st' := []) rfl rfl ?_
    exact ev_sub [0, 1] rfl (ev_X12_shortNet_p49 hO hP h)
  · have z9 := x_call (M := mX12_shortNet) (M' := mX12_fail) (pc := 46) (st := [.int (σ.I 1136 a0), va_rf (some a0)]) (rest := []) (av := [va_rf (some a0), .int (σ.I 1136 a0)]) (x_linkV (M := mX12_shortNet) (M' := mX12_fail) (As := [.int (σ.I 1136 a0)]) (index := 150) (C := RX12) (T := TX12) (xE_12 c_1) rfl wd_657 wd_658 (wG_in (List.mem_append_left _ (List.mem_of_getElem? (i := 39) rfl)) rfl) xw_X12_fail rfl (by decide) rfl rfl dX12_shortNet_46) (ev_X12_fail hO hP h_4) xw_X12_fail rfl wd_198 dX12_shortNet_46 (by decide) (by decide) (by simp [x_cat, x_catI, x_catJ])
    cases h
    exact x_callX z9 (evX_out rfl)
set_option maxHeartbeats 4000000 in
set_option maxRecDepth 100000 in
theorem ev_X12_shortNet {l : Launch} {G : xG} (hO : x_OK l G) {P : xP} (hP : x_PG P G) {a0 : Nat} {v1 : Int32} {σ σ' : xS} {rr : Unit ⊕ String} (h : dm_X12_shortNet P a0 v1 σ = some (rr, σ')) : EvM l G mX12_shortNet [va_rf (some a0), .int v1] σ (xrV rr) σ' := by
  unfold dm_X12_shortNet at h
  refine evM_of hO (by decide +kernel) (x_lenI (by simp [x_cat, x_catI, x_catJ, mX12_shortNet, xM.maxL])) ?_
  refine Eq.mp (congrArg (fun z => Ev l G mX12_shortNet 0 z [] σ (xrV rr) σ') (show [(0, va_rf (some a0)), (1, .int v1)] = lv_args 0 [va_rf (some a0), .int v1] by simp [lv_args, x_cat, x_catI, x_catJ])) ?_
  refine ev_aload_n (j := 0) (x := (some a0)) dX12_shortNet_0 rfl rfl ?_
  obtain ⟨c_4, h⟩ := x_chk_e h
  rcases x_bind_e h with ⟨v_1, σ_2, h_3, h⟩ | ⟨E_30, σ_2, h_3, h⟩
  · have z9 := x_call (M := mX12_shortNet) (M' := mX12_next) (pc := 1) (st := [va_rf (some a0)]) (rest := []) (av := [va_rf (some a0)]) (x_linkV (M := mX12_shortNet) (M' := mX12_next) (As := []) (index := 169) (C := RX12) (T := TX12) (xE_12 c_4) rfl wd_679 wd_680 (wG_in (List.mem_append_left _ (List.mem_of_getElem? (i := 36) rfl)) rfl) xw_X12_next rfl (by decide) rfl rfl dX12_shortNet_1) (ev_X12_next hO hP h_3) xw_X12_next rfl wd_198 dX12_shortNet_1 (by decide) (by decide) (by simp [x_cat, x_catI, x_catJ])
    refine x_callR z9 ?_
    refine ev_at (st' := []) rfl rfl ?_
    refine ev_aload_n (j := 0) (x := (some a0)) dX12_shortNet_4 rfl rfl ?_
    obtain ⟨c_8, h⟩ := x_chk_e h
    rcases x_bind_e h with ⟨v_5, σ_6, h_7, h⟩ | ⟨E_29, σ_6, h_7, h⟩
    · have z9 := x_call (M := mX12_shortNet) (M' := mX12_needName) (pc := 5) (st := [va_rf (some a0)]) (rest := []) (av := [va_rf (some a0)]) (x_linkV (M := mX12_shortNet) (M' := mX12_needName) (As := []) (index := 185) (C := RX12) (T := TX12) (xE_12 c_8) rfl wd_670 wd_671 (wG_in (List.mem_append_left _ (List.mem_of_getElem? (i := 45) rfl)) rfl) xw_X12_needName rfl (by decide) rfl rfl dX12_shortNet_5) (ev_X12_needName hO hP h_7) xw_X12_needName rfl wd_198 dX12_shortNet_5 (by decide) (by decide) (by simp [x_cat, x_catI, x_catJ])
      refine x_callR z9 ?_
      refine ev_at (st' := []) rfl rfl ?_
      refine ev_aload_n (j := 0) (x := (some a0)) dX12_shortNet_8 rfl rfl ?_
      obtain ⟨c_12, h⟩ := x_chk_e h
      rcases x_bind_e h with ⟨v_9, σ_10, h_11, h⟩ | ⟨E_28, σ_10, h_11, h⟩
      · have z9 := x_call (M := mX12_shortNet) (M' := mX12_ok) (pc := 9) (st := [va_rf (some a0)]) (rest := []) (av := [va_rf (some a0)]) (x_linkV (M := mX12_shortNet) (M' := mX12_ok) (As := []) (index := 121) (C := RX12) (T := TX12) (xE_12 c_12) rfl wd_640 wd_641 (wG_in (List.mem_append_left _ (List.mem_of_getElem? (i := 37) rfl)) rfl) xw_X12_ok rfl (by decide) rfl rfl dX12_shortNet_9) (ev_X12_ok hO hP h_11) xw_X12_ok rfl wd_198 dX12_shortNet_9 (by decide) (by decide) (by simp [x_cat, x_catI, x_catJ])
        refine x_callR z9 ?_
        refine ev_at (st' := [.int v_9]) rfl rfl ?_
        by_cases c_13 : v_9 = 0
        · rw [if_pos c_13] at h
          refine ev_if_eq (x := v_9) (tgt := 49) dX12_shortNet_12 (by decide) (fun _ => ?_) (fun q9 => absurd c_13 q9)
          exact ev_sub [0, 1] rfl (ev_X12_shortNet_p49 hO hP h)
        · rw [if_neg c_13] at h
          refine ev_if_eq (x := v_9) (tgt := 49) dX12_shortNet_12 (by decide) (fun q9 => absurd q9 c_13) (fun _ => ?_)
          refine ev_aload_n (j := 0) (x := (some a0)) dX12_shortNet_15 rfl rfl ?_
          refine ev_aload_n (j := 0) (x := (some a0)) dX12_shortNet_16 rfl rfl ?_
          obtain ⟨c_14, h⟩ := x_chk_e h
          refine ev_get (C := RX12) (T := TX12) (k := 36) inX12 (xE_12 c_14) rfl (by decide) wd_646 (Or.inl rfl) rfl dX12_shortNet_17 ?_
          rcases x_bind_e h with ⟨v_15, σ_16, h_17, h⟩ | ⟨E_27, σ_16, h_17, h⟩
          · have z9 := x_call (M := mX12_shortNet) (M' := mX12_netNamed) (pc := 20) (st := [.int (σ_10.I 1136 a0), va_rf (some a0)]) (rest := []) (av := [va_rf (some a0), .int (σ_10.I 1136 a0)]) (x_linkV (M := mX12_shortNet) (M' := mX12_netNamed) (As := [.int (σ_10.I 1136 a0)]) (index := 188) (C := RX12) (T := TX12) (xE_12 c_14) rfl wd_688 wd_689 (wG_in (List.mem_append_left _ (List.mem_of_getElem? (i := 52) rfl)) rfl) xw_X12_netNamed rfl (by decide) rfl rfl dX12_shortNet_20) (ev_X12_netNamed hO hP h_17) xw_X12_netNamed rfl wd_198 dX12_shortNet_20 (by decide) (by decide) (by simp [x_cat, x_catI, x_catJ])
            refine x_callR z9 ?_
            refine ev_at (st' := [.int v_15]) rfl rfl ?_
            refine ev_iconst (v := -1) dX12_shortNet_23 (by decide) ?_
            by_cases c_18 : v_15 = (-1)
            · rw [if_pos c_18] at h
              refine ev_icmp_ne (x := v_15) (y := (-1)) (tgt := 41) dX12_shortNet_24 (by decide) (fun q9 => absurd c_18 q9) (fun _ => ?_)
              refine ev_aload_n (j := 0) (x := (some a0)) dX12_shortNet_27 rfl rfl ?_
              obtain ⟨c_19, h⟩ := x_chk_e h
              refine ev_get (C := RX12) (T := TX12) (k := 9) inX12 (xE_12 c_19) rfl (by decide) wd_156 (Or.inl rfl) rfl dX12_shortNet_28 ?_
              refine ev_aload_n (j := 0) (x := (some a0)) dX12_shortNet_31 rfl rfl ?_
              rcases x_bind_e h with ⟨v_20, σ_21, h_22, h⟩ | ⟨E_26, σ_21, h_22, h⟩
              · have z9 := x_call (M := mX12_shortNet) (M' := mX12_mod) (pc := 32) (st := [va_rf (some a0), va_rf (σ_16.R 1109 a0)]) (rest := [va_rf (σ_16.R 1109 a0)]) (av := [va_rf (some a0)]) (x_linkV (M := mX12_shortNet) (M' := mX12_mod) (As := []) (index := 175) (C := RX12) (T := TX12) (xE_12 c_19) rfl wd_676 wd_677 (wG_in (List.mem_append_left _ (List.mem_of_getElem? (i := 48) rfl)) rfl) xw_X12_mod rfl (by decide) rfl rfl dX12_shortNet_32) (ev_X12_mod hO hP h_22) xw_X12_mod rfl wd_198 dX12_shortNet_32 (by decide) (by decide) (by simp [x_cat, x_catI, x_catJ])
                refine x_callR z9 ?_
                refine ev_at (st' := [.int v_20, va_rf (σ_16.R 1109 a0)]) rfl rfl ?_
                obtain ⟨a_23, ea_23, h⟩ := x_some_e h
                refine ev_at (st' := [.int v_20, va_rf (some a_23)]) rfl (by rw [ea_23]) ?_
                obtain ⟨c_24, h⟩ := x_chk_e h
                refine ev_iald_31 c_24.1 c_24.2 dX12_shortNet_35 ?_
                refine ev_bipush (v := 16) dX12_shortNet_36 (by decide) ?_
                by_cases c_25 : (σ_21.AI a_23 (Int32.toNatClampNeg v_20)) = 16
                · rw [if_pos c_25] at h
                  refine ev_icmp_ne (x := (σ_21.AI a_23 (Int32.toNatClampNeg v_20))) (y := 16) (tgt := 49) dX12_shortNet_38 (by decide) (fun q9 => absurd c_25 q9) (fun _ => ?_)
                  exact ev_sub [0, 1] rfl (ev_X12_shortNet_p41 hO hP h)
                · rw [if_neg c_25] at h
                  refine ev_icmp_ne (x := (σ_21.AI a_23 (Int32.toNatClampNeg v_20))) (y := 16) (tgt := 49) dX12_shortNet_38 (by decide) (fun _ => ?_) (fun q9 => absurd q9 c_25)
                  exact ev_sub [0, 1] rfl (ev_X12_shortNet_p49 hO hP h)
              · have z9 := x_call (M := mX12_shortNet) (M' := mX12_mod) (pc := 32) (st := [va_rf (some a0), va_rf (σ_16.R 1109 a0)]) (rest := [va_rf (σ_16.R 1109 a0)]) (av := [va_rf (some a0)]) (x_linkV (M := mX12_shortNet) (M' := mX12_mod) (As := []) (index := 175) (C := RX12) (T := TX12) (xE_12 c_19) rfl wd_676 wd_677 (wG_in (List.mem_append_left _ (List.mem_of_getElem? (i := 48) rfl)) rfl) xw_X12_mod rfl (by decide) rfl rfl dX12_shortNet_32) (ev_X12_mod hO hP h_22) xw_X12_mod rfl wd_198 dX12_shortNet_32 (by decide) (by decide) (by simp [x_cat, x_catI, x_catJ])
                cases h
                exact x_callX z9 (evX_out rfl)
            · rw [if_neg c_18] at h
              refine ev_icmp_ne (x := v_15) (y := (-1)) (tgt := 41) dX12_shortNet_24 (by decide) (fun _ => ?_) (fun q9 => absurd q9 c_18)
              exact ev_sub [0, 1] rfl (ev_X12_shortNet_p41 hO hP h)
          · have z9 := x_call (M := mX12_shortNet) (M' := mX12_netNamed) (pc := 20) (st := [.int (σ_10.I 1136 a0), va_rf (some a0)]) (rest := []) (av := [va_rf (some a0), .int (σ_10.I 1136 a0)]) (x_linkV (M := mX12_shortNet) (M' := mX12_netNamed) (As := [.int (σ_10.I 1136 a0)]) (index := 188) (C := RX12) (T := TX12) (xE_12 c_14) rfl wd_688 wd_689 (wG_in (List.mem_append_left _ (List.mem_of_getElem? (i := 52) rfl)) rfl) xw_X12_netNamed rfl (by decide) rfl rfl dX12_shortNet_20) (ev_X12_netNamed hO hP h_17) xw_X12_netNamed rfl wd_198 dX12_shortNet_20 (by decide) (by decide) (by simp [x_cat, x_catI, x_catJ])
            cases h
            exact x_callX z9 (evX_out rfl)
      · have z9 := x_call (M := mX12_shortNet) (M' := mX12_ok) (pc := 9) (st := [va_rf (some a0)]) (rest := []) (av := [va_rf (some a0)]) (x_linkV (M := mX12_shortNet) (M' := mX12_ok) (As := []) (index := 121) (C := RX12) (T := TX12) (xE_12 c_12) rfl wd_640 wd_641 (wG_in (List.mem_append_left _ (List.mem_of_getElem? (i := 37) rfl)) rfl) xw_X12_ok rfl (by decide) rfl rfl dX12_shortNet_9) (ev_X12_ok hO hP h_11) xw_X12_ok rfl wd_198 dX12_shortNet_9 (by decide) (by decide) (by simp [x_cat, x_catI, x_catJ])
        cases h
        exact x_callX z9 (evX_out rfl)
    · have z9 := x_call (M := mX12_shortNet) (M' := mX12_needName) (pc := 5) (st := [va_rf (some a0)]) (rest := []) (av := [va_rf (some a0)]) (x_linkV (M := mX12_shortNet) (M' := mX12_needName) (As := []) (index := 185) (C := RX12) (T := TX12) (xE_12 c_8) rfl wd_670 wd_671 (wG_in (List.mem_append_left _ (List.mem_of_getElem? (i := 45) rfl)) rfl) xw_X12_needName rfl (by decide) rfl rfl dX12_shortNet_5) (ev_X12_needName hO hP h_7) xw_X12_needName rfl wd_198 dX12_shortNet_5 (by decide) (by decide) (by simp [x_cat, x_catI, x_catJ])
      cases h
      exact x_callX z9 (evX_out rfl)
  · have z9 := x_call (M := mX12_shortNet) (M' := mX12_next) (pc := 1) (st := [va_rf (some a0)]) (rest := []) (av := [va_rf (some a0)]) (x_linkV (M := mX12_shortNet) (M' := mX12_next) (As := []) (index := 169) (C := RX12) (T := TX12) (xE_12 c_4) rfl wd_679 wd_680 (wG_in (List.mem_append_left _ (List.mem_of_getElem? (i := 36) rfl)) rfl) xw_X12_next rfl (by decide) rfl rfl dX12_shortNet_1) (ev_X12_next hO hP h_3) xw_X12_next rfl wd_198 dX12_shortNet_1 (by decide) (by decide) (by simp [x_cat, x_catI, x_catJ])
    cases h
    exact x_callX z9 (evX_out rfl)
set_option maxHeartbeats 4000000 in
set_option maxRecDepth 100000 in
theorem ev_X12_shortInstance_p59 {l : Launch} {G : xG} (hO : x_OK l G) {P : xP} (hP : x_PG P G) {a0 : Nat} {σ σ' : xS} {rr : Unit ⊕ String} (h : dm_X12_shortInstance_p59 P a0 σ = some (rr, σ')) : Ev l G mX12_shortInstance 59 [(0, va_rf (some a0))] [] σ (xrV rr) σ' := by
  unfold dm_X12_shortInstance_p59 at h
  refine ev_aload_n (j := 0) (x := (some a0)) dX12_shortInstance_59 rfl rfl ?_
  refine ev_bipush (v := 59) dX12_shortInstance_60 (by decide) ?_
  obtain ⟨c_4, h⟩ := x_chk_e h
  rcases x_bind_e h with ⟨v_1, σ_2, h_3, h⟩ | ⟨E_5, σ_2, h_3, h⟩
  · have z9 := x_call (M := mX12_shortInstance) (M' := mX12_needSign) (pc := 62) (st := [.int 59, va_rf (some a0)]) (rest := []) (av := [va_rf (some a0), .int 59]) (x_linkV (M := mX12_shortInstance) (M' := mX12_needSign) (As := [.int 59]) (index := 199) (C := RX12) (T := TX12) (xE_12 c_4) rfl wd_697 wd_698 (wG_in (List.mem_append_left _ (List.mem_of_getElem? (i := 49) rfl)) rfl) xw_X12_needSign rfl (by decide) rfl rfl dX12_shortInstance_62) (ev_X12_needSign hO hP h_3) xw_X12_needSign rfl wd_198 dX12_shortInstance_62 (by decide) (by decide) (by simp [x_cat, x_catI, x_catJ])
    refine x_callR z9 ?_
    refine ev_at (st' := []) rfl rfl ?_
    cases h
    exact ev_vret rfl dX12_shortInstance_65
  · have z9 := x_call (M := mX12_shortInstance) (M' := mX12_needSign) (pc := 62) (st := [.int 59, va_rf (some a0)]) (rest := []) (av := [va_rf (some a0), .int 59]) (x_linkV (M := mX12_shortInstance) (M' := mX12_needSign) (As := [.int 59]) (index := 199) (C := RX12) (T := TX12) (xE_12 c_4) rfl wd_697 wd_698 (wG_in (List.mem_append_left _ (List.mem_of_getElem? (i := 49) rfl)) rfl) xw_X12_needSign rfl (by decide) rfl rfl dX12_shortInstance_62) (ev_X12_needSign hO hP h_3) xw_X12_needSign rfl wd_198 dX12_shortInstance_62 (by decide) (by decide) (by simp [x_cat, x_catI, x_catJ])
    cases h
    exact x_callX z9 (evX_out rfl)
set_option maxHeartbeats 4000000 in
set_option maxRecDepth 100000 in
theorem ev_X12_shortInstance_L34 {l : Launch} {G : xG} (hO : x_OK l G) {P : xP} (hP : x_PG P G) {a0 : Nat} : ∀ (n : Nat) {v2 : Int32} {σ σ' : xS} {rr : Unit ⊕ String}, dm_X12_shortInstance_L34 P a0 n v2 σ = some (rr, σ') → Ev l G mX12_shortInstance 34 [(0, va_rf (some a0)), (2, .int v2)] [] σ (xrV rr) σ' := by
  intro n
  induction n with
  | zero => intro v2 σ σ' rr h; cases h
  | succ n ih =>
    intro v2 σ σ' rr h
    rw [dm_X12_shortInstance_L34] at h
    refine ev_aload_n (j := 0) (x := (some a0)) dX12_shortInstance_34 rfl rfl ?_
    obtain ⟨c_4, h⟩ := x_chk_e h
    rcases x_bind_e h with ⟨v_1, σ_2, h_3, h⟩ | ⟨E_17, σ_2, h_3, h⟩
    · have z9 := x_call (M := mX12_shortInstance) (M' := mX12_ok) (pc := 35) (st := [va_rf (some a0)]) (rest := []) (av := [va_rf (some a0)]) (x_linkV (M := mX12_shortInstance) (M' := mX12_ok) (As := []) (index := 121) (C := RX12) (T := TX12) (xE_12 c_4) rfl wd_640 wd_641 (wG_in (List.mem_append_left _ (List.mem_of_getElem? (i := 37) rfl)) rfl) xw_X12_ok rfl (by decide) rfl rfl dX12_shortInstance_35) (ev_X12_ok hO hP h_3) xw_X12_ok rfl wd_198 dX12_shortInstance_35 (by decide) (by decide) (by simp [x_cat, x_catI, x_catJ])
      refine x_callR z9 ?_
      refine ev_at (st' := [.int v_1]) rfl rfl ?_
      by_cases c_5 : v_1 = 0
      · rw [if_pos c_5] at h
        refine ev_if_eq (x := v_1) (tgt := 59) dX12_shortInstance_38 (by decide) (fun _ => ?_) (fun q9 => absurd c_5 q9)
        exact ev_sub [0] rfl (ev_X12_shortInstance_p59 hO hP h)
      · rw [if_neg c_5] at h
        refine ev_if_eq (x := v_1) (tgt := 59) dX12_shortInstance_38 (by decide) (fun q9 => absurd q9 c_5) (fun _ => ?_)
        refine ev_aload_n (j := 0) (x := (some a0)) dX12_shortInstance_41 rfl rfl ?_
        refine ev_bipush (v := 59) dX12_shortInstance_42 (by decide) ?_
        obtain ⟨c_9, h⟩ := x_chk_e h
        rcases x_bind_e h with ⟨v_6, σ_7, h_8, h⟩ | ⟨E_16, σ_7, h_8, h⟩
        · have z9 := x_call (M := mX12_shortInstance) (M' := mX12_isSign) (pc := 44) (st := [.int 59, va_rf (some a0)]) (rest := []) (av := [va_rf (some a0), .int 59]) (x_linkV (M := mX12_shortInstance) (M' := mX12_isSign) (As := [.int 59]) (index := 166) (C := RX12) (T := TX12) (xE_12 c_9) rfl wd_682 wd_683 (wG_in (List.mem_append_left _ (List.mem_of_getElem? (i := 50) rfl)) rfl) xw_X12_isSign rfl (by decide) rfl rfl dX12_shortInstance_44) (ev_X12_isSign hO hP h_8) xw_X12_isSign rfl wd_198 dX12_shortInstance_44 (by decide) (by decide) (by simp [x_cat, x_catI, x_catJ])
          refine x_callR z9 ?_
          refine ev_at (st' := [.int v_6]) rfl rfl ?_
          by_cases c_10 : v_6 = 0
          · rw [if_pos c_10] at h
            refine ev_if_ne (x := v_6) (tgt := 59) dX12_shortInstance_47 (by decide) (fun q9 => absurd c_10 q9) (fun _ => ?_)
            refine ev_aload_n (j := 0) (x := (some a0)) dX12_shortInstance_50 rfl rfl ?_
            refine ev_iload_n (j := 1) (x := v2) dX12_shortInstance_51 rfl rfl ?_
            refine ev_iconst (v := 0) dX12_shortInstance_52 (by decide) ?_
            obtain ⟨c_14, h⟩ := x_chk_e h
            rcases x_bind_e h with ⟨v_11, σ_12, h_13, h⟩ | ⟨E_15, σ_12, h_13, h⟩
            · have z9 := x_call (M := mX12_shortInstance) (M' := mX12_takeOrdered) (pc := 53) (st := [.int 0, .int v2, va_rf (some a0)]) (rest := []) (av := [va_rf (some a0), .int v2, .int 0]) (x_linkV (M := mX12_shortInstance) (M' := mX12_takeOrdered) (As := [.int v2, .int 0]) (index := 233) (C := RX12) (T := TX12) (xE_12 c_14) rfl wd_727 wd_728 (wG_in (List.mem_append_left _ (List.mem_of_getElem? (i := 69) rfl)) rfl) xw_X12_takeOrdered rfl (by decide) rfl rfl dX12_shortInstance_53) (ev_X12_takeOrdered hO hP h_13) xw_X12_takeOrdered rfl wd_198 dX12_shortInstance_53 (by decide) (by decide) (by simp [x_cat, x_catI, x_catJ])
              refine x_callR z9 ?_
              refine ev_at (st' := []) rfl rfl ?_
              refine ev_goto (tgt := 34) dX12_shortInstance_56 (by decide) ?_
              exact ev_sub [0, 1] rfl (ih h)
            · have z9 := x_call (M := mX12_shortInstance) (M' := mX12_takeOrdered) (pc := 53) (st := [.int 0, .int v2, va_rf (some a0)]) (rest := []) (av := [va_rf (some a0), .int v2, .int 0]) (x_linkV (M := mX12_shortInstance) (M' := mX12_takeOrdered) (As := [.int v2, .int 0]) (index := 233) (C := RX12) (T := TX12) (xE_12 c_14) rfl wd_727 wd_728 (wG_in (List.mem_append_left _ (List.mem_of_getElem? (i := 69) rfl)) rfl) xw_X12_takeOrdered rfl (by decide) rfl rfl dX12_shortInstance_53) (ev_X12_takeOrdered hO hP h_13) xw_X12_takeOrdered rfl wd_198 dX12_shortInstance_53 (by decide) (by decide) (by simp [x_cat, x_catI, x_catJ])
              cases h
              exact x_callX z9 (evX_out rfl)
          · rw [if_neg c_10] at h
            refine ev_if_ne (x := v_6) (tgt := 59) dX12_shortInstance_47 (by decide) (fun _ => ?_) (fun q9 => absurd q9 c_10)
            exact ev_sub [0] rfl (ev_X12_shortInstance_p59 hO hP h)
        · have z9 := x_call (M := mX12_shortInstance) (M' := mX12_isSign) (pc := 44) (st := [.int 59, va_rf (some a0)]) (rest := []) (av := [va_rf (some a0), .int 59]) (x_linkV (M := mX12_shortInstance) (M' := mX12_isSign) (As := [.int 59]) (index := 166) (C := RX12) (T := TX12) (xE_12 c_9) rfl wd_682 wd_683 (wG_in (List.mem_append_left _ (List.mem_of_getElem? (i := 50) rfl)) rfl) xw_X12_isSign rfl (by decide) rfl rfl dX12_shortInstance_44) (ev_X12_isSign hO hP h_8) xw_X12_isSign rfl wd_198 dX12_shortInstance_44 (by decide) (by decide) (by simp [x_cat, x_catI, x_catJ])
          cases h
          exact x_callX z9 (evX_out rfl)
    · have z9 := x_call (M := mX12_shortInstance) (M' := mX12_ok) (pc := 35) (st := [va_rf (some a0)]) (rest := []) (av := [va_rf (some a0)]) (x_linkV (M := mX12_shortInstance) (M' := mX12_ok) (As := []) (index := 121) (C := RX12) (T := TX12) (xE_12 c_4) rfl wd_640 wd_641 (wG_in (List.mem_append_left _ (List.mem_of_getElem? (i := 37) rfl)) rfl) xw_X12_ok rfl (by decide) rfl rfl dX12_shortInstance_35) (ev_X12_ok hO hP h_3) xw_X12_ok rfl wd_198 dX12_shortInstance_35 (by decide) (by decide) (by simp [x_cat, x_catI, x_catJ])
      cases h
      exact x_callX z9 (evX_out rfl)
set_option maxHeartbeats 4000000 in
set_option maxRecDepth 100000 in
theorem ev_X12_shortInstance_p33 {l : Launch} {G : xG} (hO : x_OK l G) {P : xP} (hP : x_PG P G) {a0 : Nat} {s0 : Int32} {σ σ' : xS} {rr : Unit ⊕ String} (h : dm_X12_shortInstance_p33 P a0 s0 σ = some (rr, σ')) : Ev l G mX12_shortInstance 33 [(0, va_rf (some a0))] [.int s0] σ (xrV rr) σ' := by
  unfold dm_X12_shortInstance_p33 at h
  refine ev_istore_n (i := 2) (lv' := [(2, .int s0), (0, va_rf (some a0))]) dX12_shortInstance_33 rfl (by decide) rfl ?_
  exact ev_sub [1, 0] rfl (ev_X12_shortInstance_L34 hO hP P.N h)
set_option maxHeartbeats 4000000 in
set_option maxRecDepth 100000 in
theorem ev_X12_shortInstance {l : Launch} {G : xG} (hO : x_OK l G) {P : xP} (hP : x_PG P G) {a0 : Nat} {σ σ' : xS} {rr : Unit ⊕ String} (h : dm_X12_shortInstance P a0 σ = some (rr, σ')) : EvM l G mX12_shortInstance [va_rf (some a0)] σ (xrV rr) σ' := by
  unfold dm_X12_shortInstance at h
  refine evM_of hO (by decide +kernel) (x_lenI (by simp [x_cat, x_catI, x_catJ, mX12_shortInstance, xM.maxL])) ?_
  refine Eq.mp (congrArg (fun z => Ev l G mX12_shortInstance 0 z [] σ (xrV rr) σ') (show [(0, va_rf (some a0))] = lv_args 0 [va_rf (some a0)] by simp [lv_args, x_cat, x_catI, x_catJ])) ?_
  refine ev_aload_n (j := 0) (x := (some a0)) dX12_shortInstance_0 rfl rfl ?_
  obtain ⟨c_4, h⟩ := x_chk_e h
  rcases x_bind_e h with ⟨v_1, σ_2, h_3, h⟩ | ⟨E_27, σ_2, h_3, h⟩
  · have z9 := x_call (M := mX12_shortInstance) (M' := mX12_next) (pc := 1) (st := [va_rf (some a0)]) (rest := []) (av := [va_rf (some a0)]) (x_linkV (M := mX12_shortInstance) (M' := mX12_next) (As := []) (index := 169) (C := RX12) (T := TX12) (xE_12 c_4) rfl wd_679 wd_680 (wG_in (List.mem_append_left _ (List.mem_of_getElem? (i := 36) rfl)) rfl) xw_X12_next rfl (by decide) rfl rfl dX12_shortInstance_1) (ev_X12_next hO hP h_3) xw_X12_next rfl wd_198 dX12_shortInstance_1 (by decide) (by decide) (by simp [x_cat, x_catI, x_catJ])
    refine x_callR z9 ?_
    refine ev_at (st' := []) rfl rfl ?_
    refine ev_aload_n (j := 0) (x := (some a0)) dX12_shortInstance_4 rfl rfl ?_
    obtain ⟨c_8, h⟩ := x_chk_e h
    rcases x_bind_e h with ⟨v_5, σ_6, h_7, h⟩ | ⟨E_26, σ_6, h_7, h⟩
    · have z9 := x_call (M := mX12_shortInstance) (M' := mX12_needName) (pc := 5) (st := [va_rf (some a0)]) (rest := []) (av := [va_rf (some a0)]) (x_linkV (M := mX12_shortInstance) (M' := mX12_needName) (As := []) (index := 185) (C := RX12) (T := TX12) (xE_12 c_8) rfl wd_670 wd_671 (wG_in (List.mem_append_left _ (List.mem_of_getElem? (i := 45) rfl)) rfl) xw_X12_needName rfl (by decide) rfl rfl dX12_shortInstance_5) (ev_X12_needName hO hP h_7) xw_X12_needName rfl wd_198 dX12_shortInstance_5 (by decide) (by decide) (by simp [x_cat, x_catI, x_catJ])
      refine x_callR z9 ?_
      refine ev_at (st' := []) rfl rfl ?_
      refine ev_aload_n (j := 0) (x := (some a0)) dX12_shortInstance_8 rfl rfl ?_
      obtain ⟨c_9, h⟩ := x_chk_e h
      refine ev_get (C := RX12) (T := TX12) (k := 36) inX12 (xE_12 c_9) rfl (by decide) wd_646 (Or.inl rfl) rfl dX12_shortInstance_9 ?_
      obtain ⟨v_10, ev_10, h⟩ := x_let_e h
      rw [← ev_10]
      refine ev_istore_n (i := 1) (lv' := [(1, .int v_10), (0, va_rf (some a0))]) dX12_shortInstance_12 rfl (by decide) (by simp [x_cat, x_catI, x_catJ]) ?_
      refine ev_aload_n (j := 1) (x := (some a0)) dX12_shortInstance_13 rfl rfl ?_
      rcases x_bind_e h with ⟨v_11, σ_12, h_13, h⟩ | ⟨E_25, σ_12, h_13, h⟩
      · have z9 := x_call (M := mX12_shortInstance) (M' := mX12_next) (pc := 14) (st := [va_rf (some a0)]) (rest := []) (av := [va_rf (some a0)]) (x_linkV (M := mX12_shortInstance) (M' := mX12_next) (As := []) (index := 169) (C := RX12) (T := TX12) (xE_12 c_9) rfl wd_679 wd_680 (wG_in (List.mem_append_left _ (List.mem_of_getElem? (i := 36) rfl)) rfl) xw_X12_next rfl (by decide) rfl rfl dX12_shortInstance_14) (ev_X12_next hO hP h_13) xw_X12_next rfl wd_198 dX12_shortInstance_14 (by decide) (by decide) (by simp [x_cat, x_catI, x_catJ])
        refine x_callR z9 ?_
        refine ev_at (st' := []) rfl rfl ?_
        refine ev_aload_n (j := 1) (x := (some a0)) dX12_shortInstance_17 rfl rfl ?_
        obtain ⟨c_17, h⟩ := x_chk_e h
        rcases x_bind_e h with ⟨v_14, σ_15, h_16, h⟩ | ⟨E_24, σ_15, h_16, h⟩
        · have z9 := x_call (M := mX12_shortInstance) (M' := mX12_ok) (pc := 18) (st := [va_rf (some a0)]) (rest := []) (av := [va_rf (some a0)]) (x_linkV (M := mX12_shortInstance) (M' := mX12_ok) (As := []) (index := 121) (C := RX12) (T := TX12) (xE_12 c_17) rfl wd_640 wd_641 (wG_in (List.mem_append_left _ (List.mem_of_getElem? (i := 37) rfl)) rfl) xw_X12_ok rfl (by decide) rfl rfl dX12_shortInstance_18) (ev_X12_ok hO hP h_16) xw_X12_ok rfl wd_198 dX12_shortInstance_18 (by decide) (by decide) (by simp [x_cat, x_catI, x_catJ])
          refine x_callR z9 ?_
          refine ev_at (st' := [.int v_14]) rfl rfl ?_
          by_cases c_18 : v_14 = 0
          · rw [if_pos c_18] at h
            refine ev_if_eq (x := v_14) (tgt := 32) dX12_shortInstance_21 (by decide) (fun _ => ?_) (fun q9 => absurd c_18 q9)
            refine ev_iconst (v := -1) dX12_shortInstance_32 (by decide) ?_
            exact ev_sub [1] rfl (ev_X12_shortInstance_p33 hO hP h)
          · rw [if_neg c_18] at h
            refine ev_if_eq (x := v_14) (tgt := 32) dX12_shortInstance_21 (by decide) (fun q9 => absurd q9 c_18) (fun _ => ?_)
            refine ev_aload_n (j := 1) (x := (some a0)) dX12_shortInstance_24 rfl rfl ?_
            refine ev_iload_n (j := 0) (x := v_10) dX12_shortInstance_25 rfl rfl ?_
            obtain ⟨c_22, h⟩ := x_chk_e h
            rcases x_bind_e h with ⟨v_19, σ_20, h_21, h⟩ | ⟨E_23, σ_20, h_21, h⟩
            · have z9 := x_call (M := mX12_shortInstance) (M' := mX12_takeInstance) (pc := 26) (st := [.int v_10, va_rf (some a0)]) (rest := []) (av := [va_rf (some a0), .int v_10]) (x_linkV (M := mX12_shortInstance) (M' := mX12_takeInstance) (As := [.int v_10]) (index := 227) (C := RX12) (T := TX12) (xE_12 c_22) rfl wd_724 wd_725 (wG_in (List.mem_append_left _ (List.mem_of_getElem? (i := 65) rfl)) rfl) xw_X12_takeInstance rfl (by decide) rfl rfl dX12_shortInstance_26) (ev_X12_takeInstance hO hP h_21) xw_X12_takeInstance rfl wd_198 dX12_shortInstance_26 (by decide) (by decide) (by simp [x_cat, x_catI, x_catJ])
              refine x_callR z9 ?_
              refine ev_at (st' := [.int v_19]) rfl rfl ?_
              refine ev_goto (tgt := 33) dX12_shortInstance_29 (by decide) ?_
              exact ev_sub [1] rfl (ev_X12_shortInstance_p33 hO hP h)
            · have z9 := x_call (M := mX12_shortInstance) (M' := mX12_takeInstance) (pc := 26) (st := [.int v_10, va_rf (some a0)]) (rest := []) (av := [va_rf (some a0), .int v_10]) (x_linkV (M := mX12_shortInstance) (M' := mX12_takeInstance) (As := [.int v_10]) (index := 227) (C := RX12) (T := TX12) (xE_12 c_22) rfl wd_724 wd_725 (wG_in (List.mem_append_left _ (List.mem_of_getElem? (i := 65) rfl)) rfl) xw_X12_takeInstance rfl (by decide) rfl rfl dX12_shortInstance_26) (ev_X12_takeInstance hO hP h_21) xw_X12_takeInstance rfl wd_198 dX12_shortInstance_26 (by decide) (by decide) (by simp [x_cat, x_catI, x_catJ])
              cases h
              exact x_callX z9 (evX_out rfl)
        · have z9 := x_call (M := mX12_shortInstance) (M' := mX12_ok) (pc := 18) (st := [va_rf (some a0)]) (rest := []) (av := [va_rf (some a0)]) (x_linkV (M := mX12_shortInstance) (M' := mX12_ok) (As := []) (index := 121) (C := RX12) (T := TX12) (xE_12 c_17) rfl wd_640 wd_641 (wG_in (List.mem_append_left _ (List.mem_of_getElem? (i := 37) rfl)) rfl) xw_X12_ok rfl (by decide) rfl rfl dX12_shortInstance_18) (ev_X12_ok hO hP h_16) xw_X12_ok rfl wd_198 dX12_shortInstance_18 (by decide) (by decide) (by simp [x_cat, x_catI, x_catJ])
          cases h
          exact x_callX z9 (evX_out rfl)
      · have z9 := x_call (M := mX12_shortInstance) (M' := mX12_next) (pc := 14) (st := [va_rf (some a0)]) (rest := []) (av := [va_rf (some a0)]) (x_linkV (M := mX12_shortInstance) (M' := mX12_next) (As := []) (index := 169) (C := RX12) (T := TX12) (xE_12 c_9) rfl wd_679 wd_680 (wG_in (List.mem_append_left _ (List.mem_of_getElem? (i := 36) rfl)) rfl) xw_X12_next rfl (by decide) rfl rfl dX12_shortInstance_14) (ev_X12_next hO hP h_13) xw_X12_next rfl wd_198 dX12_shortInstance_14 (by decide) (by decide) (by simp [x_cat, x_catI, x_catJ])
        cases h
        exact x_callX z9 (evX_out rfl)
    · have z9 := x_call (M := mX12_shortInstance) (M' := mX12_needName) (pc := 5) (st := [va_rf (some a0)]) (rest := []) (av := [va_rf (some a0)]) (x_linkV (M := mX12_shortInstance) (M' := mX12_needName) (As := []) (index := 185) (C := RX12) (T := TX12) (xE_12 c_8) rfl wd_670 wd_671 (wG_in (List.mem_append_left _ (List.mem_of_getElem? (i := 45) rfl)) rfl) xw_X12_needName rfl (by decide) rfl rfl dX12_shortInstance_5) (ev_X12_needName hO hP h_7) xw_X12_needName rfl wd_198 dX12_shortInstance_5 (by decide) (by decide) (by simp [x_cat, x_catI, x_catJ])
      cases h
      exact x_callX z9 (evX_out rfl)
  · have z9 := x_call (M := mX12_shortInstance) (M' := mX12_next) (pc := 1) (st := [va_rf (some a0)]) (rest := []) (av := [va_rf (some a0)]) (x_linkV (M := mX12_shortInstance) (M' := mX12_next) (As := []) (index := 169) (C := RX12) (T := TX12) (xE_12 c_4) rfl wd_679 wd_680 (wG_in (List.mem_append_left _ (List.mem_of_getElem? (i := 36) rfl)) rfl) xw_X12_next rfl (by decide) rfl rfl dX12_shortInstance_1) (ev_X12_next hO hP h_3) xw_X12_next rfl wd_198 dX12_shortInstance_1 (by decide) (by decide) (by simp [x_cat, x_catI, x_catJ])
    cases h
    exact x_callX z9 (evX_out rfl)
set_option maxHeartbeats 4000000 in
set_option maxRecDepth 100000 in
theorem ev_X12_shortModule_p102 {l : Launch} {G : xG} (hO : x_OK l G) {P : xP} (hP : x_PG P G) {a0 : Nat} {k31 : xS → xO Unit} (hk31 : ∀ {σ σ' : xS} {rr : Unit ⊕ String}, k31 σ = some (rr, σ') → Ev l G mX12_shortModule 31 [(0, va_rf (some a0))] [] σ (xrV rr) σ') {s0 : Option Nat} {s1 : Int32} {σ σ' : xS} {rr : Unit ⊕ String} (h : dm_X12_shortModule_p102 P k31 a0 s0 s1 σ = some (rr, σ')) : Ev l G mX12_shortModule 102 [(0, va_rf (some a0))] [.int s1, va_rf s0] σ (xrV rr) σ' := by
  unfold dm_X12_shortModule_p102 at h
  obtain ⟨a_1, ea_1, h⟩ := x_some_e h
  refine ev_at (st' := [.int s1, va_rf (some a_1)]) rfl (by rw [ea_1]) ?_
  obtain ⟨c_5, h⟩ := x_chk_e h
  rcases x_bind_e h with ⟨v_2, σ_3, h_4, h⟩ | ⟨E_6, σ_3, h_4, h⟩
  · have z9 := x_call (M := mX12_shortModule) (M' := mX12_shortNet) (pc := 102) (st := [.int s1, va_rf (some a_1)]) (rest := []) (av := [va_rf (some a_1), .int s1]) (x_linkV (M := mX12_shortModule) (M' := mX12_shortNet) (As := [.int s1]) (index := 265) (C := RX12) (T := TX12) (xE_12 c_5) rfl wd_763 wd_764 (wG_in (List.mem_append_left _ (List.mem_of_getElem? (i := 72) rfl)) rfl) xw_X12_shortNet rfl (by decide) rfl rfl dX12_shortModule_102) (ev_X12_shortNet hO hP h_4) xw_X12_shortNet rfl wd_198 dX12_shortModule_102 (by decide) (by decide) (by simp [x_cat, x_catI, x_catJ])
    refine x_callR z9 ?_
    refine ev_at (st' := []) rfl rfl ?_
    refine ev_goto (tgt := 31) dX12_shortModule_105 (by decide) ?_
    exact ev_sub [0] rfl (hk31 h)
  · have z9 := x_call (M := mX12_shortModule) (M' := mX12_shortNet) (pc := 102) (st := [.int s1, va_rf (some a_1)]) (rest := []) (av := [va_rf (some a_1), .int s1]) (x_linkV (M := mX12_shortModule) (M' := mX12_shortNet) (As := [.int s1]) (index := 265) (C := RX12) (T := TX12) (xE_12 c_5) rfl wd_763 wd_764 (wG_in (List.mem_append_left _ (List.mem_of_getElem? (i := 72) rfl)) rfl) xw_X12_shortNet rfl (by decide) rfl rfl dX12_shortModule_102) (ev_X12_shortNet hO hP h_4) xw_X12_shortNet rfl wd_198 dX12_shortModule_102 (by decide) (by decide) (by simp [x_cat, x_catI, x_catJ])
    cases h
    exact x_callX z9 (evX_out rfl)
set_option maxHeartbeats 4000000 in
set_option maxRecDepth 100000 in
theorem ev_X12_shortModule_p74 {l : Launch} {G : xG} (hO : x_OK l G) {P : xP} (hP : x_PG P G) {a0 : Nat} {k31 : xS → xO Unit} (hk31 : ∀ {σ σ' : xS} {rr : Unit ⊕ String}, k31 σ = some (rr, σ') → Ev l G mX12_shortModule 31 [(0, va_rf (some a0))] [] σ (xrV rr) σ') {σ σ' : xS} {rr : Unit ⊕ String} (h : dm_X12_shortModule_p74 P k31 a0 σ = some (rr, σ')) : Ev l G mX12_shortModule 74 [(0, va_rf (some a0))] [] σ (xrV rr) σ' := by
  unfold dm_X12_shortModule_p74 at h
  refine ev_aload_n (j := 0) (x := (some a0)) dX12_shortModule_74 rfl rfl ?_
  refine ev_aload_n (j := 0) (x := (some a0)) dX12_shortModule_75 rfl rfl ?_
  refine ev_bipush (v := 105) dX12_shortModule_76 (by decide) ?_
  obtain ⟨c_4, h⟩ := x_chk_e h
  rcases x_bind_e h with ⟨v_1, σ_2, h_3, h⟩ | ⟨E_12, σ_2, h_3, h⟩
  · have z9 := x_call (M := mX12_shortModule) (M' := mX12_isLetterWord) (pc := 78) (st := [.int 105, va_rf (some a0), va_rf (some a0)]) (rest := [va_rf (some a0)]) (av := [va_rf (some a0), .int 105]) (x_linkV (M := mX12_shortModule) (M' := mX12_isLetterWord) (As := [.int 105]) (index := 262) (C := RX12) (T := TX12) (xE_12 c_4) rfl wd_757 wd_758 (wG_in (List.mem_append_left _ (List.mem_of_getElem? (i := 71) rfl)) rfl) xw_X12_isLetterWord rfl (by decide) rfl rfl dX12_shortModule_78) (ev_X12_isLetterWord hO hP h_3) xw_X12_isLetterWord rfl wd_198 dX12_shortModule_78 (by decide) (by decide) (by simp [x_cat, x_catI, x_catJ])
    refine x_callR z9 ?_
    refine ev_at (st' := [.int v_1, va_rf (some a0)]) rfl rfl ?_
    by_cases c_5 : v_1 = 0
    · rw [if_pos c_5] at h
      refine ev_if_eq (x := v_1) (tgt := 88) dX12_shortModule_81 (by decide) (fun _ => ?_) (fun q9 => absurd c_5 q9)
      refine ev_aload_n (j := 0) (x := (some a0)) dX12_shortModule_88 rfl rfl ?_
      refine ev_bipush (v := 111) dX12_shortModule_89 (by decide) ?_
      obtain ⟨c_9, h⟩ := x_chk_e h
      rcases x_bind_e h with ⟨v_6, σ_7, h_8, h⟩ | ⟨E_11, σ_7, h_8, h⟩
      · have z9 := x_call (M := mX12_shortModule) (M' := mX12_isLetterWord) (pc := 91) (st := [.int 111, va_rf (some a0), va_rf (some a0)]) (rest := [va_rf (some a0)]) (av := [va_rf (some a0), .int 111]) (x_linkV (M := mX12_shortModule) (M' := mX12_isLetterWord) (As := [.int 111]) (index := 262) (C := RX12) (T := TX12) (xE_12 c_9) rfl wd_757 wd_758 (wG_in (List.mem_append_left _ (List.mem_of_getElem? (i := 71) rfl)) rfl) xw_X12_isLetterWord rfl (by decide) rfl rfl dX12_shortModule_91) (ev_X12_isLetterWord hO hP h_8) xw_X12_isLetterWord rfl wd_198 dX12_shortModule_91 (by decide) (by decide) (by simp [x_cat, x_catI, x_catJ])
        refine x_callR z9 ?_
        refine ev_at (st' := [.int v_6, va_rf (some a0)]) rfl rfl ?_
        by_cases c_10 : v_6 = 0
        · rw [if_pos c_10] at h
          refine ev_if_eq (x := v_6) (tgt := 101) dX12_shortModule_94 (by decide) (fun _ => ?_) (fun q9 => absurd c_10 q9)
          refine ev_iconst (v := 2) dX12_shortModule_101 (by decide) ?_
          exact ev_sub [0] rfl (ev_X12_shortModule_p102 hO hP hk31 h)
        · rw [if_neg c_10] at h
          refine ev_if_eq (x := v_6) (tgt := 101) dX12_shortModule_94 (by decide) (fun q9 => absurd q9 c_10) (fun _ => ?_)
          refine ev_iconst (v := 1) dX12_shortModule_97 (by decide) ?_
          refine ev_goto (tgt := 102) dX12_shortModule_98 (by decide) ?_
          exact ev_sub [0] rfl (ev_X12_shortModule_p102 hO hP hk31 h)
      · have z9 := x_call (M := mX12_shortModule) (M' := mX12_isLetterWord) (pc := 91) (st := [.int 111, va_rf (some a0), va_rf (some a0)]) (rest := [va_rf (some a0)]) (av := [va_rf (some a0), .int 111]) (x_linkV (M := mX12_shortModule) (M' := mX12_isLetterWord) (As := [.int 111]) (index := 262) (C := RX12) (T := TX12) (xE_12 c_9) rfl wd_757 wd_758 (wG_in (List.mem_append_left _ (List.mem_of_getElem? (i := 71) rfl)) rfl) xw_X12_isLetterWord rfl (by decide) rfl rfl dX12_shortModule_91) (ev_X12_isLetterWord hO hP h_8) xw_X12_isLetterWord rfl wd_198 dX12_shortModule_91 (by decide) (by decide) (by simp [x_cat, x_catI, x_catJ])
        cases h
        exact x_callX z9 (evX_out rfl)
    · rw [if_neg c_5] at h
      refine ev_if_eq (x := v_1) (tgt := 88) dX12_shortModule_81 (by decide) (fun q9 => absurd q9 c_5) (fun _ => ?_)
      refine ev_iconst (v := 0) dX12_shortModule_84 (by decide) ?_
      refine ev_goto (tgt := 102) dX12_shortModule_85 (by decide) ?_
      exact ev_sub [0] rfl (ev_X12_shortModule_p102 hO hP hk31 h)
  · have z9 := x_call (M := mX12_shortModule) (M' := mX12_isLetterWord) (pc := 78) (st := [.int 105, va_rf (some a0), va_rf (some a0)]) (rest := [va_rf (some a0)]) (av := [va_rf (some a0), .int 105]) (x_linkV (M := mX12_shortModule) (M' := mX12_isLetterWord) (As := [.int 105]) (index := 262) (C := RX12) (T := TX12) (xE_12 c_4) rfl wd_757 wd_758 (wG_in (List.mem_append_left _ (List.mem_of_getElem? (i := 71) rfl)) rfl) xw_X12_isLetterWord rfl (by decide) rfl rfl dX12_shortModule_78) (ev_X12_isLetterWord hO hP h_3) xw_X12_isLetterWord rfl wd_198 dX12_shortModule_78 (by decide) (by decide) (by simp [x_cat, x_catI, x_catJ])
    cases h
    exact x_callX z9 (evX_out rfl)
set_option maxHeartbeats 4000000 in
set_option maxRecDepth 100000 in
theorem ev_X12_shortModule_p152 {l : Launch} {G : xG} (hO : x_OK l G) {P : xP} (hP : x_PG P G) {a0 : Nat} {σ σ' : xS} {rr : Unit ⊕ String} (h : dm_X12_shortModule_p152 P a0 σ = some (rr, σ')) : Ev l G mX12_shortModule 152 [(0, va_rf (some a0))] [] σ (xrV rr) σ' := by
  unfold dm_X12_shortModule_p152 at h
  refine ev_aload_n (j := 0) (x := (some a0)) dX12_shortModule_152 rfl rfl ?_
  obtain ⟨c_4, h⟩ := x_chk_e h
  rcases x_bind_e h with ⟨v_1, σ_2, h_3, h⟩ | ⟨E_10, σ_2, h_3, h⟩
  · have z9 := x_call (M := mX12_shortModule) (M' := mX12_next) (pc := 153) (st := [va_rf (some a0)]) (rest := []) (av := [va_rf (some a0)]) (x_linkV (M := mX12_shortModule) (M' := mX12_next) (As := []) (index := 169) (C := RX12) (T := TX12) (xE_12 c_4) rfl wd_679 wd_680 (wG_in (List.mem_append_left _ (List.mem_of_getElem? (i := 36) rfl)) rfl) xw_X12_next rfl (by decide) rfl rfl dX12_shortModule_153) (ev_X12_next hO hP h_3) xw_X12_next rfl wd_198 dX12_shortModule_153 (by decide) (by decide) (by simp [x_cat, x_catI, x_catJ])
    refine x_callR z9 ?_
    refine ev_at (st' := []) rfl rfl ?_
    refine ev_aload_n (j := 0) (x := (some a0)) dX12_shortModule_156 rfl rfl ?_
    refine ev_bipush (v := 59) dX12_shortModule_157 (by decide) ?_
    obtain ⟨c_8, h⟩ := x_chk_e h
    rcases x_bind_e h with ⟨v_5, σ_6, h_7, h⟩ | ⟨E_9, σ_6, h_7, h⟩
    · have z9 := x_call (M := mX12_shortModule) (M' := mX12_needSign) (pc := 159) (st := [.int 59, va_rf (some a0)]) (rest := []) (av := [va_rf (some a0), .int 59]) (x_linkV (M := mX12_shortModule) (M' := mX12_needSign) (As := [.int 59]) (index := 199) (C := RX12) (T := TX12) (xE_12 c_8) rfl wd_697 wd_698 (wG_in (List.mem_append_left _ (List.mem_of_getElem? (i := 49) rfl)) rfl) xw_X12_needSign rfl (by decide) rfl rfl dX12_shortModule_159) (ev_X12_needSign hO hP h_7) xw_X12_needSign rfl wd_198 dX12_shortModule_159 (by decide) (by decide) (by simp [x_cat, x_catI, x_catJ])
      refine x_callR z9 ?_
      refine ev_at (st' := []) rfl rfl ?_
      cases h
      exact ev_vret rfl dX12_shortModule_162
    · have z9 := x_call (M := mX12_shortModule) (M' := mX12_needSign) (pc := 159) (st := [.int 59, va_rf (some a0)]) (rest := []) (av := [va_rf (some a0), .int 59]) (x_linkV (M := mX12_shortModule) (M' := mX12_needSign) (As := [.int 59]) (index := 199) (C := RX12) (T := TX12) (xE_12 c_8) rfl wd_697 wd_698 (wG_in (List.mem_append_left _ (List.mem_of_getElem? (i := 49) rfl)) rfl) xw_X12_needSign rfl (by decide) rfl rfl dX12_shortModule_159) (ev_X12_needSign hO hP h_7) xw_X12_needSign rfl wd_198 dX12_shortModule_159 (by decide) (by decide) (by simp [x_cat, x_catI, x_catJ])
      cases h
      exact x_callX z9 (evX_out rfl)
  · have z9 := x_call (M := mX12_shortModule) (M' := mX12_next) (pc := 153) (st := [va_rf (some a0)]) (rest := []) (av := [va_rf (some a0)]) (x_linkV (M := mX12_shortModule) (M' := mX12_next) (As := []) (index := 169) (C := RX12) (T := TX12) (xE_12 c_4) rfl wd_679 wd_680 (wG_in (List.mem_append_left _ (List.mem_of_getElem? (i := 36) rfl)) rfl) xw_X12_next rfl (by decide) rfl rfl dX12_shortModule_153) (ev_X12_next hO hP h_3) xw_X12_next rfl wd_198 dX12_shortModule_153 (by decide) (by decide) (by simp [x_cat, x_catI, x_catJ])
    cases h
    exact x_callX z9 (evX_out rfl)
set_option maxHeartbeats 4000000 in
set_option maxRecDepth 100000 in
theorem ev_X12_shortModule_L31 {l : Launch} {G : xG} (hO : x_OK l G) {P : xP} (hP : x_PG P G) {a0 : Nat} : ∀ (n : Nat) {σ σ' : xS} {rr : Unit ⊕ String}, dm_X12_shortModule_L31 P a0 n σ = some (rr, σ') → Ev l G mX12_shortModule 31 [(0, va_rf (some a0))] [] σ (xrV rr) σ' := by
  intro n
  induction n with
  | zero => intro σ σ' rr h; cases h
  | succ n ih =>
    intro σ σ' rr h
    rw [dm_X12_shortModule_L31] at h
    refine ev_aload_n (j := 0) (x := (some a0)) dX12_shortModule_31 rfl rfl ?_
    obtain ⟨c_4, h⟩ := x_chk_e h
    rcases x_bind_e h with ⟨v_1, σ_2, h_3, h⟩ | ⟨E_57, σ_2, h_3, h⟩
    · have z9 := x_call (M := mX12_shortModule) (M' := mX12_ok) (pc := 32) (st := [va_rf (some a0)]) (rest := []) (av := [va_rf (some a0)]) (x_linkV (M := mX12_shortModule) (M' := mX12_ok) (As := []) (index := 121) (C := RX12) (T := TX12) (xE_12 c_4) rfl wd_640 wd_641 (wG_in (List.mem_append_left _ (List.mem_of_getElem? (i := 37) rfl)) rfl) xw_X12_ok rfl (by decide) rfl rfl dX12_shortModule_32) (ev_X12_ok hO hP h_3) xw_X12_ok rfl wd_198 dX12_shortModule_32 (by decide) (by decide) (by simp [x_cat, x_catI, x_catJ])
      refine x_callR z9 ?_
      refine ev_at (st' := [.int v_1]) rfl rfl ?_
      by_cases c_5 : v_1 = 0
      · rw [if_pos c_5] at h
        refine ev_if_eq (x := v_1) (tgt := 152) dX12_shortModule_35 (by decide) (fun _ => ?_) (fun q9 => absurd c_5 q9)
        exact ev_sub [0] rfl (ev_X12_shortModule_p152 hO hP h)
      · rw [if_neg c_5] at h
        refine ev_if_eq (x := v_1) (tgt := 152) dX12_shortModule_35 (by decide) (fun q9 => absurd q9 c_5) (fun _ => ?_)
        refine ev_aload_n (j := 0) (x := (some a0)) dX12_shortModule_38 rfl rfl ?_
        refine ev_bipush (v := 101) dX12_shortModule_39 (by decide) ?_
        obtain ⟨c_9, h⟩ := x_chk_e h
        rcases x_bind_e h with ⟨v_6, σ_7, h_8, h⟩ | ⟨E_56, σ_7, h_8, h⟩
        · have z9 := x_call (M := mX12_shortModule) (M' := mX12_isLetterWord) (pc := 41) (st := [.int 101, va_rf (some a0)]) (rest := []) (av := [va_rf (some a0), .int 101]) (x_linkV (M := mX12_shortModule) (M' := mX12_isLetterWord) (As := [.int 101]) (index := 262) (C := RX12) (T := TX12) (xE_12 c_9) rfl wd_757 wd_758 (wG_in (List.mem_append_left _ (List.mem_of_getElem? (i := 71) rfl)) rfl) xw_X12_isLetterWord rfl (by decide) rfl rfl dX12_shortModule_41) (ev_X12_isLetterWord hO hP h_8) xw_X12_isLetterWord rfl wd_198 dX12_shortModule_41 (by decide) (by decide) (by simp [x_cat, x_catI, x_catJ])
          refine x_callR z9 ?_
          refine ev_at (st' := [.int v_6]) rfl rfl ?_
          by_cases c_10 : v_6 = 0
          · rw [if_pos c_10] at h
            refine ev_if_ne (x := v_6) (tgt := 152) dX12_shortModule_44 (by decide) (fun q9 => absurd c_10 q9) (fun _ => ?_)
            refine ev_aload_n (j := 0) (x := (some a0)) dX12_shortModule_47 rfl rfl ?_
            refine ev_bipush (v := 105) dX12_shortModule_48 (by decide) ?_
            obtain ⟨c_14, h⟩ := x_chk_e h
            rcases x_bind_e h with ⟨v_11, σ_12, h_13, h⟩ | ⟨E_55, σ_12, h_13, h⟩
            · have z9 := x_call (M := mX12_shortModule) (M' := mX12_isLetterWord) (pc := 50) (st := [.int 105, va_rf (some a0)]) (rest := []) (av := [va_rf (some a0), .int 105]) (x_linkV (M := mX12_shortModule) (M' := mX12_isLetterWord) (As := [.int 105]) (index := 262) (C := RX12) (T := TX12) (xE_12 c_14) rfl wd_757 wd_758 (wG_in (List.mem_append_left _ (List.mem_of_getElem? (i := 71) rfl)) rfl) xw_X12_isLetterWord rfl (by decide) rfl rfl dX12_shortModule_50) (ev_X12_isLetterWord hO hP h_13) xw_X12_isLetterWord rfl wd_198 dX12_shortModule_50 (by decide) (by decide) (by simp [x_cat, x_catI, x_catJ])
              refine x_callR z9 ?_
              refine ev_at (st' := [.int v_11]) rfl rfl ?_
              by_cases c_15 : v_11 = 0
              · rw [if_pos c_15] at h
                refine ev_if_ne (x := v_11) (tgt := 74) dX12_shortModule_53 (by decide) (fun q9 => absurd c_15 q9) (fun _ => ?_)
                refine ev_aload_n (j := 0) (x := (some a0)) dX12_shortModule_56 rfl rfl ?_
                refine ev_bipush (v := 111) dX12_shortModule_57 (by decide) ?_
                obtain ⟨c_19, h⟩ := x_chk_e h
                rcases x_bind_e h with ⟨v_16, σ_17, h_18, h⟩ | ⟨E_54, σ_17, h_18, h⟩
                · have z9 := x_call (M := mX12_shortModule) (M' := mX12_isLetterWord) (pc := 59) (st := [.int 111, va_rf (some a0)]) (rest := []) (av := [va_rf (some a0), .int 111]) (x_linkV (M := mX12_shortModule) (M' := mX12_isLetterWord) (As := [.int 111]) (index := 262) (C := RX12) (T := TX12) (xE_12 c_19) rfl wd_757 wd_758 (wG_in (List.mem_append_left _ (List.mem_of_getElem? (i := 71) rfl)) rfl) xw_X12_isLetterWord rfl (by decide) rfl rfl dX12_shortModule_59) (ev_X12_isLetterWord hO hP h_18) xw_X12_isLetterWord rfl wd_198 dX12_shortModule_59 (by decide) (by decide) (by simp [x_cat, x_catI, x_catJ])
                  refine x_callR z9 ?_
                  refine ev_at (st' := [.int v_16]) rfl rfl ?_
                  by_cases c_20 : v_16 = 0
                  · rw [if_pos c_20] at h
                    refine ev_if_ne (x := v_16) (tgt := 74) dX12_shortModule_62 (by decide) (fun q9 => absurd c_20 q9) (fun _ => ?_)
                    refine ev_aload_n (j := 0) (x := (some a0)) dX12_shortModule_65 rfl rfl ?_
                    refine ev_bipush (v := 119) dX12_shortModule_66 (by decide) ?_
                    obtain ⟨c_24, h⟩ := x_chk_e h
                    rcases x_bind_e h with ⟨v_21, σ_22, h_23, h⟩ | ⟨E_53, σ_22, h_23, h⟩
                    · have z9 := x_call (M := mX12_shortModule) (M' := mX12_isLetterWord) (pc := 68) (st := [.int 119, va_rf (some a0)]) (rest := []) (av := [va_rf (some a0), .int 119]) (x_linkV (M := mX12_shortModule) (M' := mX12_isLetterWord) (As := [.int 119]) (index := 262) (C := RX12) (T := TX12) (xE_12 c_24) rfl wd_757 wd_758 (wG_in (List.mem_append_left _ (List.mem_of_getElem? (i := 71) rfl)) rfl) xw_X12_isLetterWord rfl (by decide) rfl rfl dX12_shortModule_68) (ev_X12_isLetterWord hO hP h_23) xw_X12_isLetterWord rfl wd_198 dX12_shortModule_68 (by decide) (by decide) (by simp [x_cat, x_catI, x_catJ])
                      refine x_callR z9 ?_
                      refine ev_at (st' := [.int v_21]) rfl rfl ?_
                      by_cases c_25 : v_21 = 0
                      · rw [if_pos c_25] at h
                        refine ev_if_eq (x := v_21) (tgt := 108) dX12_shortModule_71 (by decide) (fun _ => ?_) (fun q9 => absurd c_25 q9)
                        refine ev_aload_n (j := 0) (x := (some a0)) dX12_shortModule_108 rfl rfl ?_
                        refine ev_bipush (v := 97) dX12_shortModule_109 (by decide) ?_
                        obtain ⟨c_29, h⟩ := x_chk_e h
                        rcases x_bind_e h with ⟨v_26, σ_27, h_28, h⟩ | ⟨E_52, σ_27, h_28, h⟩
                        · have z9 := x_call (M := mX12_shortModule) (M' := mX12_isLetterWord) (pc := 111) (st := [.int 97, va_rf (some a0)]) (rest := []) (av := [va_rf (some a0), .int 97]) (x_linkV (M := mX12_shortModule) (M' := mX12_isLetterWord) (As := [.int 97]) (index := 262) (C := RX12) (T := TX12) (xE_12 c_29) rfl wd_757 wd_758 (wG_in (List.mem_append_left _ (List.mem_of_getElem? (i := 71) rfl)) rfl) xw_X12_isLetterWord rfl (by decide) rfl rfl dX12_shortModule_111) (ev_X12_isLetterWord hO hP h_28) xw_X12_isLetterWord rfl wd_198 dX12_shortModule_111 (by decide) (by decide) (by simp [x_cat, x_catI, x_catJ])
                          refine x_callR z9 ?_
                          refine ev_at (st' := [.int v_26]) rfl rfl ?_
                          by_cases c_30 : v_26 = 0
                          · rw [if_pos c_30] at h
                            refine ev_if_eq (x := v_26) (tgt := 125) dX12_shortModule_114 (by decide) (fun _ => ?_) (fun q9 => absurd c_30 q9)
                            refine ev_aload_n (j := 0) (x := (some a0)) dX12_shortModule_125 rfl rfl ?_
                            refine ev_bipush (v := 117) dX12_shortModule_126 (by decide) ?_
                            obtain ⟨c_34, h⟩ := x_chk_e h
                            rcases x_bind_e h with ⟨v_31, σ_32, h_33, h⟩ | ⟨E_46, σ_32, h_33, h⟩
                            · have z9 := x_call (M := mX12_shortModule) (M' := mX12_isLetterWord) (pc := 128) (st := [.int 117, va_rf (some a0)]) (rest := []) (av := [va_rf (some a0), .int 117]) (x_linkV (M := mX12_shortModule) (M' := mX12_isLetterWord) (As := [.int 117]) (index := 262) (C := RX12) (T := TX12) (xE_12 c_34) rfl wd_757 wd_758 (wG_in (List.mem_append_left _ (List.mem_of_getElem? (i := 71) rfl)) rfl) xw_X12_isLetterWord rfl (by decide) rfl rfl dX12_shortModule_128) (ev_X12_isLetterWord hO hP h_33) xw_X12_isLetterWord rfl wd_198 dX12_shortModule_128 (by decide) (by decide) (by simp [x_cat, x_catI, x_catJ])
                              refine x_callR z9 ?_
                              refine ev_at (st' := [.int v_31]) rfl rfl ?_
                              by_cases c_35 : v_31 = 0
                              · rw [if_pos c_35] at h
                                refine ev_if_eq (x := v_31) (tgt := 141) dX12_shortModule_131 (by decide) (fun _ => ?_) (fun q9 => absurd c_35 q9)
                                refine ev_aload_n (j := 0) (x := (some a0)) dX12_shortModule_141 rfl rfl ?_
                                refine ev_aload_n (j := 0) (x := (some a0)) dX12_shortModule_142 rfl rfl ?_
                                obtain ⟨c_36, h⟩ := x_chk_e h
                                refine ev_get (C := RX12) (T := TX12) (k := 36) inX12 (xE_12 c_36) rfl (by decide) wd_646 (Or.inl rfl) rfl dX12_shortModule_143 ?_
                                rcases x_bind_e h with ⟨v_37, σ_38, h_39, h⟩ | ⟨E_40, σ_38, h_39, h⟩
                                · have z9 := x_call (M := mX12_shortModule) (M' := mX12_fail) (pc := 146) (st := [.int (σ_32.I 1136 a0), va_rf (some a0)]) (rest := []) (av := [va_rf (some a0), .int (σ_32.I 1136 a0)]) (x_linkV (M := mX12_shortModule) (M' := mX12_fail) (As := [.int (σ_32.I 1136 a0)]) (index := 150) (C := RX12) (T := TX12) (xE_12 c_36) rfl wd_657 wd_658 (wG_in (List.mem_append_left _ (List.mem_of_getElem? (i := 39) rfl)) rfl) xw_X12_fail rfl (by decide) rfl rfl dX12_shortModule_146) (ev_X12_fail hO hP h_39) xw_X12_fail rfl wd_198 dX12_shortModule_146 (by decide) (by decide) (by simp [x_cat, x_catI, x_catJ])
                                  refine x_callR z9 ?_
                                  refine ev_at (st' := []) rfl rfl ?_
                                  refine ev_goto (tgt := 31) dX12_shortModule_149 (by decide) ?_
                                  exact ev_sub [0] rfl (ih h)
                                · have z9 := x_call (M := mX12_shortModule) (M' := mX12_fail) (pc := 146) (st := [.int (σ_32.I 1136 a0), va_rf (some a0)]) (rest := []) (av := [va_rf (some a0), .int (σ_32.I 1136 a0)]) (x_linkV (M := mX12_shortModule) (M' := mX12_fail) (As := [.int (σ_32.I 1136 a0)]) (index := 150) (C := RX12) (T := TX12) (xE_12 c_36) rfl wd_657 wd_658 (wG_in (List.mem_append_left _ (List.mem_of_getElem? (i := 39) rfl)) rfl) xw_X12_fail rfl (by decide) rfl rfl dX12_shortModule_146) (ev_X12_fail hO hP h_39) xw_X12_fail rfl wd_198 dX12_shortModule_146 (by decide) (by decide) (by simp [x_cat, x_catI, x_catJ])
                                  cases h
                                  exact x_callX z9 (evX_out rfl)
                              · rw [if_neg c_35] at h
                                refine ev_if_eq (x := v_31) (tgt := 141) dX12_shortModule_131 (by decide) (fun q9 => absurd q9 c_35) (fun _ => ?_)
                                refine ev_aload_n (j := 0) (x := (some a0)) dX12_shortModule_134 rfl rfl ?_
                                obtain ⟨c_44, h⟩ := x_chk_e h
                                rcases x_bind_e h with ⟨v_41, σ_42, h_43, h⟩ | ⟨E_45, σ_42, h_43, h⟩
                                · have z9 := x_call (M := mX12_shortModule) (M' := mX12_shortInstance) (pc := 135) (st := [va_rf (some a0)]) (rest := []) (av := [va_rf (some a0)]) (x_linkV (M := mX12_shortModule) (M' := mX12_shortInstance) (As := []) (index := 268) (C := RX12) (T := TX12) (xE_12 c_44) rfl wd_760 wd_761 (wG_in (List.mem_append_left _ (List.mem_of_getElem? (i := 75) rfl)) rfl) xw_X12_shortInstance rfl (by decide) rfl rfl dX12_shortModule_135) (ev_X12_shortInstance hO hP h_43) xw_X12_shortInstance rfl wd_198 dX12_shortModule_135 (by decide) (by decide) (by simp [x_cat, x_catI, x_catJ])
                                  refine x_callR z9 ?_
                                  refine ev_at (st' := []) rfl rfl ?_
                                  refine ev_goto (tgt := 31) dX12_shortModule_138 (by decide) ?_
                                  exact ev_sub [0] rfl (ih h)
                                · have z9 := x_call (M := mX12_shortModule) (M' := mX12_shortInstance) (pc := 135) (st := [va_rf (some a0)]) (rest := []) (av := [va_rf (some a0)]) (x_linkV (M := mX12_shortModule) (M' := mX12_shortInstance) (As := []) (index := 268) (C := RX12) (T := TX12) (xE_12 c_44) rfl wd_760 wd_761 (wG_in (List.mem_append_left _ (List.mem_of_getElem? (i := 75) rfl)) rfl) xw_X12_shortInstance rfl (by decide) rfl rfl dX12_shortModule_135) (ev_X12_shortInstance hO hP h_43) xw_X12_shortInstance rfl wd_198 dX12_shortModule_135 (by decide) (by decide) (by simp [x_cat, x_catI, x_catJ])
                                  cases h
                                  exact x_callX z9 (evX_out rfl)
                            · have z9 := x_call (M := mX12_shortModule) (M' := mX12_isLetterWord) (pc := 128) (st := [.int 117, va_rf (some a0)]) (rest := []) (av := [va_rf (some a0), .int 117]) (x_linkV (M := mX12_shortModule) (M' := mX12_isLetterWord) (As := [.int 117]) (index := 262) (C := RX12) (T := TX12) (xE_12 c_34) rfl wd_757 wd_758 (wG_in (List.mem_append_left _ (List.mem_of_getElem? (i := 71) rfl)) rfl) xw_X12_isLetterWord rfl (by decide) rfl rfl dX12_shortModule_128) (ev_X12_isLetterWord hO hP h_33) xw_X12_isLetterWord rfl wd_198 dX12_shortModule_128 (by decide) (by decide) (by simp [x_cat, x_catI, x_catJ])
                              cases h
                              exact x_callX z9 (evX_out rfl)
                          · rw [if_neg c_30] at h
                            refine ev_if_eq (x := v_26) (tgt := 125) dX12_shortModule_114 (by decide) (fun q9 => absurd q9 c_30) (fun _ => ?_)
                            refine ev_aload_n (j := 0) (x := (some a0)) dX12_shortModule_117 rfl rfl ?_
                            refine ev_iconst (v := 0) dX12_shortModule_118 (by decide) ?_
                            obtain ⟨c_50, h⟩ := x_chk_e h
                            rcases x_bind_e h with ⟨v_47, σ_48, h_49, h⟩ | ⟨E_51, σ_48, h_49, h⟩
                            · have z9 := x_call (M := mX12_shortModule) (M' := mX12_readAssign) (pc := 119) (st := [.int 0, va_rf (some a0)]) (rest := []) (av := [va_rf (some a0), .int 0]) (x_linkV (M := mX12_shortModule) (M' := mX12_readAssign) (As := [.int 0]) (index := 249) (C := RX12) (T := TX12) (xE_12 c_50) rfl wd_748 wd_749 (wG_in (List.mem_append_left _ (List.mem_of_getElem? (i := 58) rfl)) rfl) xw_X12_readAssign rfl (by decide) rfl rfl dX12_shortModule_119) (ev_X12_readAssign hO hP h_49) xw_X12_readAssign rfl wd_198 dX12_shortModule_119 (by decide) (by decide) (by simp [x_cat, x_catI, x_catJ])
                              refine x_callR z9 ?_
                              refine ev_at (st' := []) rfl rfl ?_
                              refine ev_goto (tgt := 31) dX12_shortModule_122 (by decide) ?_
                              exact ev_sub [0] rfl (ih h)
                            · have z9 := x_call (M := mX12_shortModule) (M' := mX12_readAssign) (pc := 119) (st := [.int 0, va_rf (some a0)]) (rest := []) (av := [va_rf (some a0), .int 0]) (x_linkV (M := mX12_shortModule) (M' := mX12_readAssign) (As := [.int 0]) (index := 249) (C := RX12) (T := TX12) (xE_12 c_50) rfl wd_748 wd_749 (wG_in (List.mem_append_left _ (List.mem_of_getElem? (i := 58) rfl)) rfl) xw_X12_readAssign rfl (by decide) rfl rfl dX12_shortModule_119) (ev_X12_readAssign hO hP h_49) xw_X12_readAssign rfl wd_198 dX12_shortModule_119 (by decide) (by decide) (by simp [x_cat, x_catI, x_catJ])
                              cases h
                              exact x_callX z9 (evX_out rfl)
                        · have z9 := x_call (M := mX12_shortModule) (M' := mX12_isLetterWord) (pc := 111) (st := [.int 97, va_rf (some a0)]) (rest := []) (av := [va_rf (some a0), .int 97]) (x_linkV (M := mX12_shortModule) (M' := mX12_isLetterWord) (As := [.int 97]) (index := 262) (C := RX12) (T := TX12) (xE_12 c_29) rfl wd_757 wd_758 (wG_in (List.mem_append_left _ (List.mem_of_getElem? (i := 71) rfl)) rfl) xw_X12_isLetterWord rfl (by decide) rfl rfl dX12_shortModule_111) (ev_X12_isLetterWord hO hP h_28) xw_X12_isLetterWord rfl wd_198 dX12_shortModule_111 (by decide) (by decide) (by simp [x_cat, x_catI, x_catJ])
                          cases h
                          exact x_callX z9 (evX_out rfl)
                      · rw [if_neg c_25] at h
                        refine ev_if_eq (x := v_21) (tgt := 108) dX12_shortModule_71 (by decide) (fun q9 => absurd q9 c_25) (fun _ => ?_)
                        exact ev_sub [0] rfl (ev_X12_shortModule_p74 hO hP ih h)
                    · have z9 := x_call (M := mX12_shortModule) (M' := mX12_isLetterWord) (pc := 68) (st := [.int 119, va_rf (some a0)]) (rest := []) (av := [va_rf (some a0), .int 119]) (x_linkV (M := mX12_shortModule) (M' := mX12_isLetterWord) (As := [.int 119]) (index := 262) (C := RX12) (T := TX12) (xE_12 c_24) rfl wd_757 wd_758 (wG_in (List.mem_append_left _ (List.mem_of_getElem? (i := 71) rfl)) rfl) xw_X12_isLetterWord rfl (by decide) rfl rfl dX12_shortModule_68) (ev_X12_isLetterWord hO hP h_23) xw_X12_isLetterWord rfl wd_198 dX12_shortModule_68 (by decide) (by decide) (by simp [x_cat, x_catI, x_catJ])
                      cases h
                      exact x_callX z9 (evX_out rfl)
                  · rw [if_neg c_20] at h
                    refine ev_if_ne (x := v_16) (tgt := 74) dX12_shortModule_62 (by decide) (fun _ => ?_) (fun q9 => absurd q9 c_20)
                    exact ev_sub [0] rfl (ev_X12_shortModule_p74 hO hP ih h)
                · have z9 := x_call (M := mX12_shortModule) (M' := mX12_isLetterWord) (pc := 59) (st := [.int 111, va_rf (some a0)]) (rest := []) (av := [va_rf (some a0), .int 111]) (x_linkV (M := mX12_shortModule) (M' := mX12_isLetterWord) (As := [.int 111]) (index := 262) (C := RX12) (T := TX12) (xE_12 c_19) rfl wd_757 wd_758 (wG_in (List.mem_append_left _ (List.mem_of_getElem? (i := 71) rfl)) rfl) xw_X12_isLetterWord rfl (by decide) rfl rfl dX12_shortModule_59) (ev_X12_isLetterWord hO hP h_18) xw_X12_isLetterWord rfl wd_198 dX12_shortModule_59 (by decide) (by decide) (by simp [x_cat, x_catI, x_catJ])
                  cases h
                  exact x_callX z9 (evX_out rfl)
              · rw [if_neg c_15] at h
                refine ev_if_ne (x := v_11) (tgt := 74) dX12_shortModule_53 (by decide) (fun _ => ?_) (fun q9 => absurd q9 c_15)
                exact ev_sub [0] rfl (ev_X12_shortModule_p74 hO hP ih h)
            · have z9 := x_call (M := mX12_shortModule) (M' := mX12_isLetterWord) (pc := 50) (st := [.int 105, va_rf (some a0)]) (rest := []) (av := [va_rf (some a0), .int 105]) (x_linkV (M := mX12_shortModule) (M' := mX12_isLetterWord) (As := [.int 105]) (index := 262) (C := RX12) (T := TX12) (xE_12 c_14) rfl wd_757 wd_758 (wG_in (List.mem_append_left _ (List.mem_of_getElem? (i := 71) rfl)) rfl) xw_X12_isLetterWord rfl (by decide) rfl rfl dX12_shortModule_50) (ev_X12_isLetterWord hO hP h_13) xw_X12_isLetterWord rfl wd_198 dX12_shortModule_50 (by decide) (by decide) (by simp [x_cat, x_catI, x_catJ])
              cases h
              exact x_callX z9 (evX_out rfl)
          · rw [if_neg c_10] at h
            refine ev_if_ne (x := v_6) (tgt := 152) dX12_shortModule_44 (by decide) (fun _ => ?_) (fun q9 => absurd q9 c_10)
            exact ev_sub [0] rfl (ev_X12_shortModule_p152 hO hP h)
        · have z9 := x_call (M := mX12_shortModule) (M' := mX12_isLetterWord) (pc := 41) (st := [.int 101, va_rf (some a0)]) (rest := []) (av := [va_rf (some a0), .int 101]) (x_linkV (M := mX12_shortModule) (M' := mX12_isLetterWord) (As := [.int 101]) (index := 262) (C := RX12) (T := TX12) (xE_12 c_9) rfl wd_757 wd_758 (wG_in (List.mem_append_left _ (List.mem_of_getElem? (i := 71) rfl)) rfl) xw_X12_isLetterWord rfl (by decide) rfl rfl dX12_shortModule_41) (ev_X12_isLetterWord hO hP h_8) xw_X12_isLetterWord rfl wd_198 dX12_shortModule_41 (by decide) (by decide) (by simp [x_cat, x_catI, x_catJ])
          cases h
          exact x_callX z9 (evX_out rfl)
    · have z9 := x_call (M := mX12_shortModule) (M' := mX12_ok) (pc := 32) (st := [va_rf (some a0)]) (rest := []) (av := [va_rf (some a0)]) (x_linkV (M := mX12_shortModule) (M' := mX12_ok) (As := []) (index := 121) (C := RX12) (T := TX12) (xE_12 c_4) rfl wd_640 wd_641 (wG_in (List.mem_append_left _ (List.mem_of_getElem? (i := 37) rfl)) rfl) xw_X12_ok rfl (by decide) rfl rfl dX12_shortModule_32) (ev_X12_ok hO hP h_3) xw_X12_ok rfl wd_198 dX12_shortModule_32 (by decide) (by decide) (by simp [x_cat, x_catI, x_catJ])
      cases h
      exact x_callX z9 (evX_out rfl)
set_option maxHeartbeats 4000000 in
set_option maxRecDepth 100000 in
theorem ev_X12_shortModule_p17 {l : Launch} {G : xG} (hO : x_OK l G) {P : xP} (hP : x_PG P G) {a0 : Nat} {σ σ' : xS} {rr : Unit ⊕ String} (h : dm_X12_shortModule_p17 P a0 σ = some (rr, σ')) : Ev l G mX12_shortModule 17 [(0, va_rf (some a0))] [] σ (xrV rr) σ' := by
  unfold dm_X12_shortModule_p17 at h
  refine ev_aload_n (j := 0) (x := (some a0)) dX12_shortModule_17 rfl rfl ?_
  obtain ⟨c_4, h⟩ := x_chk_e h
  rcases x_bind_e h with ⟨v_1, σ_2, h_3, h⟩ | ⟨E_15, σ_2, h_3, h⟩
  · have z9 := x_call (M := mX12_shortModule) (M' := mX12_next) (pc := 18) (st := [va_rf (some a0)]) (rest := []) (av := [va_rf (some a0)]) (x_linkV (M := mX12_shortModule) (M' := mX12_next) (As := []) (index := 169) (C := RX12) (T := TX12) (xE_12 c_4) rfl wd_679 wd_680 (wG_in (List.mem_append_left _ (List.mem_of_getElem? (i := 36) rfl)) rfl) xw_X12_next rfl (by decide) rfl rfl dX12_shortModule_18) (ev_X12_next hO hP h_3) xw_X12_next rfl wd_198 dX12_shortModule_18 (by decide) (by decide) (by simp [x_cat, x_catI, x_catJ])
    refine x_callR z9 ?_
    refine ev_at (st' := []) rfl rfl ?_
    refine ev_aload_n (j := 0) (x := (some a0)) dX12_shortModule_21 rfl rfl ?_
    obtain ⟨c_8, h⟩ := x_chk_e h
    rcases x_bind_e h with ⟨v_5, σ_6, h_7, h⟩ | ⟨E_14, σ_6, h_7, h⟩
    · have z9 := x_call (M := mX12_shortModule) (M' := mX12_takeModule) (pc := 22) (st := [va_rf (some a0)]) (rest := []) (av := [va_rf (some a0)]) (x_linkV (M := mX12_shortModule) (M' := mX12_takeModule) (As := []) (index := 240) (C := RX12) (T := TX12) (xE_12 c_8) rfl wd_736 wd_737 (wG_in (List.mem_append_left _ (List.mem_of_getElem? (i := 44) rfl)) rfl) xw_X12_takeModule rfl (by decide) rfl rfl dX12_shortModule_22) (ev_X12_takeModule hO hP h_7) xw_X12_takeModule rfl wd_198 dX12_shortModule_22 (by decide) (by decide) (by simp [x_cat, x_catI, x_catJ])
      refine x_callR z9 ?_
      refine ev_at (st' := []) rfl rfl ?_
      refine ev_aload_n (j := 0) (x := (some a0)) dX12_shortModule_25 rfl rfl ?_
      refine ev_bipush (v := 59) dX12_shortModule_26 (by decide) ?_
      obtain ⟨c_12, h⟩ := x_chk_e h
      rcases x_bind_e h with ⟨v_9, σ_10, h_11, h⟩ | ⟨E_13, σ_10, h_11, h⟩
      · have z9 := x_call (M := mX12_shortModule) (M' := mX12_needSign) (pc := 28) (st := [.int 59, va_rf (some a0)]) (rest := []) (av := [va_rf (some a0), .int 59]) (x_linkV (M := mX12_shortModule) (M' := mX12_needSign) (As := [.int 59]) (index := 199) (C := RX12) (T := TX12) (xE_12 c_12) rfl wd_697 wd_698 (wG_in (List.mem_append_left _ (List.mem_of_getElem? (i := 49) rfl)) rfl) xw_X12_needSign rfl (by decide) rfl rfl dX12_shortModule_28) (ev_X12_needSign hO hP h_11) xw_X12_needSign rfl wd_198 dX12_shortModule_28 (by decide) (by decide) (by simp [x_cat, x_catI, x_catJ])
        refine x_callR z9 ?_
        refine ev_at (st' := []) rfl rfl ?_
        exact ev_sub [0] rfl (ev_X12_shortModule_L31 hO hP P.N h)
      · have z9 := x_call (M := mX12_shortModule) (M' := mX12_needSign) (pc := 28) (st := [.int 59, va_rf (some a0)]) (rest := []) (av := [va_rf (some a0), .int 59]) (x_linkV (M := mX12_shortModule) (M' := mX12_needSign) (As := [.int 59]) (index := 199) (C := RX12) (T := TX12) (xE_12 c_12) rfl wd_697 wd_698 (wG_in (List.mem_append_left _ (List.mem_of_getElem? (i := 49) rfl)) rfl) xw_X12_needSign rfl (by decide) rfl rfl dX12_shortModule_28) (ev_X12_needSign hO hP h_11) xw_X12_needSign rfl wd_198 dX12_shortModule_28 (by decide) (by decide) (by simp [x_cat, x_catI, x_catJ])
        cases h
        exact x_callX z9 (evX_out rfl)
    · have z9 := x_call (M := mX12_shortModule) (M' := mX12_takeModule) (pc := 22) (st := [va_rf (some a0)]) (rest := []) (av := [va_rf (some a0)]) (x_linkV (M := mX12_shortModule) (M' := mX12_takeModule) (As := []) (index := 240) (C := RX12) (T := TX12) (xE_12 c_8) rfl wd_736 wd_737 (wG_in (List.mem_append_left _ (List.mem_of_getElem? (i := 44) rfl)) rfl) xw_X12_takeModule rfl (by decide) rfl rfl dX12_shortModule_22) (ev_X12_takeModule hO hP h_7) xw_X12_takeModule rfl wd_198 dX12_shortModule_22 (by decide) (by decide) (by simp [x_cat, x_catI, x_catJ])
      cases h
      exact x_callX z9 (evX_out rfl)
  · have z9 := x_call (M := mX12_shortModule) (M' := mX12_next) (pc := 18) (st := [va_rf (some a0)]) (rest := []) (av := [va_rf (some a0)]) (x_linkV (M := mX12_shortModule) (M' := mX12_next) (As := []) (index := 169) (C := RX12) (T := TX12) (xE_12 c_4) rfl wd_679 wd_680 (wG_in (List.mem_append_left _ (List.mem_of_getElem? (i := 36) rfl)) rfl) xw_X12_next rfl (by decide) rfl rfl dX12_shortModule_18) (ev_X12_next hO hP h_3) xw_X12_next rfl wd_198 dX12_shortModule_18 (by decide) (by decide) (by simp [x_cat, x_catI, x_catJ])
    cases h
    exact x_callX z9 (evX_out rfl)
set_option maxHeartbeats 4000000 in
set_option maxRecDepth 100000 in
theorem ev_X12_shortModule {l : Launch} {G : xG} (hO : x_OK l G) {P : xP} (hP : x_PG P G) {a0 : Nat} {σ σ' : xS} {rr : Unit ⊕ String} (h : dm_X12_shortModule P a0 σ = some (rr, σ')) : EvM l G mX12_shortModule [va_rf (some a0)] σ (xrV rr) σ' := by
  unfold dm_X12_shortModule at h
  refine evM_of hO (by decide +kernel) (x_lenI (by simp [x_cat, x_catI, x_catJ, mX12_shortModule, xM.maxL])) ?_
  refine Eq.mp (congrArg (fun z => Ev l G mX12_shortModule 0 z [] σ (xrV rr) σ') (show [(0, va_rf (some a0))] = lv_args 0 [va_rf (some a0)] by simp [lv_args, x_cat, x_catI, x_catJ])) ?_
  refine ev_aload_n (j := 0) (x := (some a0)) dX12_shortModule_0 rfl rfl ?_
  refine ev_bipush (v := 109) dX12_shortModule_1 (by decide) ?_
  obtain ⟨c_4, h⟩ := x_chk_e h
  rcases x_bind_e h with ⟨v_1, σ_2, h_3, h⟩ | ⟨E_11, σ_2, h_3, h⟩
  · have z9 := x_call (M := mX12_shortModule) (M' := mX12_isLetterWord) (pc := 3) (st := [.int 109, va_rf (some a0)]) (rest := []) (av := [va_rf (some a0), .int 109]) (x_linkV (M := mX12_shortModule) (M' := mX12_isLetterWord) (As := [.int 109]) (index := 262) (C := RX12) (T := TX12) (xE_12 c_4) rfl wd_757 wd_758 (wG_in (List.mem_append_left _ (List.mem_of_getElem? (i := 71) rfl)) rfl) xw_X12_isLetterWord rfl (by decide) rfl rfl dX12_shortModule_3) (ev_X12_isLetterWord hO hP h_3) xw_X12_isLetterWord rfl wd_198 dX12_shortModule_3 (by decide) (by decide) (by simp [x_cat, x_catI, x_catJ])
    refine x_callR z9 ?_
    refine ev_at (st' := [.int v_1]) rfl rfl ?_
    by_cases c_5 : v_1 = 0
    · rw [if_pos c_5] at h
      refine ev_if_ne (x := v_1) (tgt := 17) dX12_shortModule_6 (by decide) (fun q9 => absurd c_5 q9) (fun _ => ?_)
      refine ev_aload_n (j := 0) (x := (some a0)) dX12_shortModule_9 rfl rfl ?_
      refine ev_aload_n (j := 0) (x := (some a0)) dX12_shortModule_10 rfl rfl ?_
      obtain ⟨c_6, h⟩ := x_chk_e h
      refine ev_get (C := RX12) (T := TX12) (k := 36) inX12 (xE_12 c_6) rfl (by decide) wd_646 (Or.inl rfl) rfl dX12_shortModule_11 ?_
      rcases x_bind_e h with ⟨v_7, σ_8, h_9, h⟩ | ⟨E_10, σ_8, h_9, h⟩
      · have z9 := x_call (M := mX12_shortModule) (M' := mX12_fail) (pc := 14) (st := [.int (σ_2.I 1136 a0), va_rf (some a0)]) (rest := []) (av := [va_rf (some a0), .int (σ_2.I 1136 a0)]) (x_linkV (M := mX12_shortModule) (M' := mX12_fail) (As := [.int (σ_2.I 1136 a0)]) (index := 150) (C := RX12) (T := TX12) (xE_12 c_6) rfl wd_657 wd_658 (wG_in (List.mem_append_left _ (List.mem_of_getElem? (i := 39) rfl)) rfl) xw_X12_fail rfl (by decide) rfl rfl dX12_shortModule_14) (ev_X12_fail hO hP h_9) xw_X12_fail rfl wd_198 dX12_shortModule_14 (by decide) (by decide) (by simp [x_cat, x_catI, x_catJ])
        refine x_callR z9 ?_
        refine ev_at (st' := []) rfl rfl ?_
        exact ev_sub [0] rfl (ev_X12_shortModule_p17 hO hP h)
      · have z9 := x_call (M := mX12_shortModule) (M' := mX12_fail) (pc := 14) (st := [.int (σ_2.I 1136 a0), va_rf (some a0)]) (rest := []) (av := [va_rf (some a0), .int (σ_2.I 1136 a0)]) (x_linkV (M := mX12_shortModule) (M' := mX12_fail) (As := [.int (σ_2.I 1136 a0)]) (index := 150) (C := RX12) (T := TX12) (xE_12 c_6) rfl wd_657 wd_658 (wG_in (List.mem_append_left _ (List.mem_of_getElem? (i := 39) rfl)) rfl) xw_X12_fail rfl (by decide) rfl rfl dX12_shortModule_14) (ev_X12_fail hO hP h_9) xw_X12_fail rfl wd_198 dX12_shortModule_14 (by decide) (by decide) (by simp [x_cat, x_catI, x_catJ])
        cases h
        exact x_callX z9 (evX_out rfl)
    · rw [if_neg c_5] at h
      refine ev_if_ne (x := v_1) (tgt := 17) dX12_shortModule_6 (by decide) (fun _ => ?_) (fun q9 => absurd q9 c_5)
      exact ev_sub [0] rfl (ev_X12_shortModule_p17 hO hP h)
  · have z9 := x_call (M := mX12_shortModule) (M' := mX12_isLetterWord) (pc := 3) (st := [.int 109, va_rf (some a0)]) (rest := []) (av := [va_rf (some a0), .int 109]) (x_linkV (M := mX12_shortModule) (M' := mX12_isLetterWord) (As := [.int 109]) (index := 262) (C := RX12) (T := TX12) (xE_12 c_4) rfl wd_757 wd_758 (wG_in (List.mem_append_left _ (List.mem_of_getElem? (i := 71) rfl)) rfl) xw_X12_isLetterWord rfl (by decide) rfl rfl dX12_shortModule_3) (ev_X12_isLetterWord hO hP h_3) xw_X12_isLetterWord rfl wd_198 dX12_shortModule_3 (by decide) (by decide) (by simp [x_cat, x_catI, x_catJ])
    cases h
    exact x_callX z9 (evX_out rfl)
set_option maxHeartbeats 4000000 in
set_option maxRecDepth 100000 in
theorem ev_X12_moduleNamed_p39 {l : Launch} {G : xG} (hO : x_OK l G) {P : xP} (hP : x_PG P G) {a0 : Nat} {k4 : Int32 → Int32 → Int32 → xS → xO Int32} (hk4 : ∀ {v1 : Int32} {v2 : Int32} {v3 : Int32} {σ σ' : xS} {rr : Int32 ⊕ String}, k4 v1 v2 v3 σ = some (rr, σ') → Ev l G mX12_moduleNamed 4 [(0, va_rf (some a0)), (1, .int v1), (2, .int v2), (3, .int v3)] [] σ (xrI rr) σ') {v1 : Int32} {v3 : Int32} {s0 : Int32} {σ σ' : xS} {rr : Int32 ⊕ String} (h : dm_X12_moduleNamed_p39 P k4 a0 v1 v3 s0 σ = some (rr, σ')) : Ev l G mX12_moduleNamed 39 [(0, va_rf (some a0)), (1, .int v1), (3, .int v3)] [.int s0] σ (xrI rr) σ' := by
  unfold dm_X12_moduleNamed_p39 at h
  refine ev_istore_n (i := 2) (lv' := [(2, .int s0), (0, va_rf (some a0)), (1, .int v1), (3, .int v3)]) dX12_moduleNamed_39 rfl (by decide) rfl ?_
  obtain ⟨v_1, ev_1, h⟩ := x_let_e h
  refine ev_iinc (j := 3) (x := v3) (v := v_1) (lv' := [(3, .int v_1), (2, .int s0), (0, va_rf (some a0)), (1, .int v1)]) dX12_moduleNamed_40 rfl (by rw [ev_1]; rfl) (by decide) rfl ?_
  refine ev_goto (tgt := 4) dX12_moduleNamed_43 (by decide) ?_
  exact ev_sub [2, 3, 1, 0] rfl (hk4 h)
set_option maxHeartbeats 4000000 in
set_option maxRecDepth 100000 in
theorem ev_X12_moduleNamed_L4 {l : Launch} {G : xG} (hO : x_OK l G) {P : xP} (hP : x_PG P G) {a0 : Nat} : ∀ (n : Nat) {v1 : Int32} {v2 : Int32} {v3 : Int32} {σ σ' : xS} {rr : Int32 ⊕ String}, dm_X12_moduleNamed_L4 P a0 n v1 v2 v3 σ = some (rr, σ') → Ev l G mX12_moduleNamed 4 [(0, va_rf (some a0)), (1, .int v1), (2, .int v2), (3, .int v3)] [] σ (xrI rr) σ' := by
  intro n
  induction n with
  | zero => intro v1 v2 v3 σ σ' rr h; cases h
  | succ n ih =>
    intro v1 v2 v3 σ σ' rr h
    rw [dm_X12_moduleNamed_L4] at h
    refine ev_iload_n (j := 3) (x := v3) dX12_moduleNamed_4 rfl rfl ?_
    refine ev_aload_n (j := 0) (x := (some a0)) dX12_moduleNamed_5 rfl rfl ?_
    obtain ⟨c_1, h⟩ := x_chk_e h
    refine ev_get (C := RX12) (T := TX12) (k := 41) inX12 (xE_12 c_1) rfl (by decide) wd_668 (Or.inl rfl) rfl dX12_moduleNamed_6 ?_
    by_cases c_2 : (σ.I 1141 a0) ≤ v3
    · rw [if_pos c_2] at h
      refine ev_icmp_ge (x := v3) (y := (σ.I 1141 a0)) (tgt := 46) dX12_moduleNamed_9 (by decide) (fun _ => ?_) (fun q9 => absurd c_2 q9)
      refine ev_iload_n (j := 2) (x := v2) dX12_moduleNamed_46 rfl rfl ?_
      cases h
      exact ev_iret rfl rfl dX12_moduleNamed_47
    · rw [if_neg c_2] at h
      refine ev_icmp_ge (x := v3) (y := (σ.I 1141 a0)) (tgt := 46) dX12_moduleNamed_9 (by decide) (fun q9 => absurd q9 c_2) (fun _ => ?_)
      refine ev_aload_n (j := 0) (x := (some a0)) dX12_moduleNamed_12 rfl rfl ?_
      refine ev_aload_n (j := 0) (x := (some a0)) dX12_moduleNamed_13 rfl rfl ?_
      refine ev_get (C := RX12) (T := TX12) (k := 7) inX12 (xE_12 c_1) rfl (by decide) wd_154 (Or.inl rfl) rfl dX12_moduleNamed_14 ?_
      refine ev_bipush (v := 8) dX12_moduleNamed_17 (by decide) ?_
      refine ev_aload_n (j := 0) (x := (some a0)) dX12_moduleNamed_19 rfl rfl ?_
      refine ev_get (C := RX12) (T := TX12) (k := 40) inX12 (xE_12 c_1) rfl (by decide) wd_638 (Or.inl rfl) rfl dX12_moduleNamed_20 ?_
      refine ev_imul (x := 8) (y := (σ.I 1140 a0)) dX12_moduleNamed_23 ?_
      refine ev_iload_n (j := 3) (x := v3) dX12_moduleNamed_24 rfl rfl ?_
      refine ev_iadd (x := (8 * (σ.I 1140 a0))) (y := v3) dX12_moduleNamed_25 ?_
      obtain ⟨a_3, ea_3, h⟩ := x_some_e h
      refine ev_at (st' := [.int ((8 * (σ.I 1140 a0)) + v3), va_rf (some a_3), va_rf (some a0)]) rfl (by rw [ea_3]) ?_
      obtain ⟨c_4, h⟩ := x_chk_e h
      refine ev_iald_31 c_4.1 c_4.2 dX12_moduleNamed_26 ?_
      refine ev_iload_n (j := 1) (x := v1) dX12_moduleNamed_27 rfl rfl ?_
      rcases x_bind_e h with ⟨v_5, σ_6, h_7, h⟩ | ⟨E_9, σ_6, h_7, h⟩
      · have z9 := x_call (M := mX12_moduleNamed) (M' := mX12_areSame) (pc := 28) (st := [.int v1, .int (σ.AI a_3 (Int32.toNatClampNeg ((8 * (σ.I 1140 a0)) + v3))), va_rf (some a0)]) (rest := []) (av := [va_rf (some a0), .int (σ.AI a_3 (Int32.toNatClampNeg ((8 * (σ.I 1140 a0)) + v3))), .int v1]) (x_linkV (M := mX12_moduleNamed) (M' := mX12_areSame) (As := [.int (σ.AI a_3 (Int32.toNatClampNeg ((8 * (σ.I 1140 a0)) + v3))), .int v1]) (index := 181) (C := RX12) (T := TX12) (xE_12 c_1) rfl wd_673 wd_674 (wG_in (List.mem_append_left _ (List.mem_of_getElem? (i := 46) rfl)) rfl) xw_X12_areSame rfl (by decide) rfl rfl dX12_moduleNamed_28) (ev_X12_areSame hO hP h_7) xw_X12_areSame rfl wd_198 dX12_moduleNamed_28 (by decide) (by decide) (by simp [x_cat, x_catI, x_catJ])
        refine x_callR z9 ?_
        refine ev_at (st' := [.int v_5]) rfl rfl ?_
        by_cases c_8 : v_5 = 0
        · rw [if_pos c_8] at h
          refine ev_if_eq (x := v_5) (tgt := 38) dX12_moduleNamed_31 (by decide) (fun _ => ?_) (fun q9 => absurd c_8 q9)
          refine ev_iload_n (j := 2) (x := v2) dX12_moduleNamed_38 rfl rfl ?_
          exact ev_sub [0, 1, 3] rfl (ev_X12_moduleNamed_p39 hO hP ih h)
        · rw [if_neg c_8] at h
          refine ev_if_eq (x := v_5) (tgt := 38) dX12_moduleNamed_31 (by decide) (fun q9 => absurd q9 c_8) (fun _ => ?_)
          refine ev_iload_n (j := 3) (x := v3) dX12_moduleNamed_34 rfl rfl ?_
          refine ev_goto (tgt := 39) dX12_moduleNamed_35 (by decide) ?_
          exact ev_sub [0, 1, 3] rfl (ev_X12_moduleNamed_p39 hO hP ih h)
      · have z9 := x_call (M := mX12_moduleNamed) (M' := mX12_areSame) (pc := 28) (st := [.int v1, .int (σ.AI a_3 (Int32.toNatClampNeg ((8 * (σ.I 1140 a0)) + v3))), va_rf (some a0)]) (rest := []) (av := [va_rf (some a0), .int (σ.AI a_3 (Int32.toNatClampNeg ((8 * (σ.I 1140 a0)) + v3))), .int v1]) (x_linkV (M := mX12_moduleNamed) (M' := mX12_areSame) (As := [.int (σ.AI a_3 (Int32.toNatClampNeg ((8 * (σ.I 1140 a0)) + v3))), .int v1]) (index := 181) (C := RX12) (T := TX12) (xE_12 c_1) rfl wd_673 wd_674 (wG_in (List.mem_append_left _ (List.mem_of_getElem? (i := 46) rfl)) rfl) xw_X12_areSame rfl (by decide) rfl rfl dX12_moduleNamed_28) (ev_X12_areSame hO hP h_7) xw_X12_areSame rfl wd_198 dX12_moduleNamed_28 (by decide) (by decide) (by simp [x_cat, x_catI, x_catJ])
        cases h
        exact x_callX z9 (evX_out rfl)
set_option maxHeartbeats 4000000 in
set_option maxRecDepth 100000 in
theorem ev_X12_moduleNamed {l : Launch} {G : xG} (hO : x_OK l G) {P : xP} (hP : x_PG P G) {a0 : Nat} {v1 : Int32} {σ σ' : xS} {rr : Int32 ⊕ String} (h : dm_X12_moduleNamed P a0 v1 σ = some (rr, σ')) : EvM l G mX12_moduleNamed [va_rf (some a0), .int v1] σ (xrI rr) σ' := by
  unfold dm_X12_moduleNamed at h
  refine evM_of hO (by decide +kernel) (x_lenI (by simp [x_cat, x_catI, x_catJ, mX12_moduleNamed, xM.maxL])) ?_
  refine Eq.mp (congrArg (fun z => Ev l G mX12_moduleNamed 0 z [] σ (xrI rr) σ') (show [(0, va_rf (some a0)), (1, .int v1)] = lv_args 0 [va_rf (some a0), .int v1] by simp [lv_args, x_cat, x_catI, x_catJ])) ?_
  refine ev_iconst (v := -1) dX12_moduleNamed_0 (by decide) ?_
  refine ev_istore_n (i := 2) (lv' := [(2, .int (-1)), (0, va_rf (some a0)), (1, .int v1)]) dX12_moduleNamed_1 rfl (by decide) rfl ?_
  refine ev_iconst (v := 0) dX12_moduleNamed_2 (by decide) ?_
  refine ev_istore_n (i := 3) (lv' := [(3, .int 0), (2, .int (-1)), (0, va_rf (some a0)), (1, .int v1)]) dX12_moduleNamed_3 rfl (by decide) rfl ?_
  exact ev_sub [2, 3, 1, 0] rfl (ev_X12_moduleNamed_L4 hO hP P.N h)
set_option maxHeartbeats 4000000 in
set_option maxRecDepth 100000 in
theorem ev_X12_refWidth_p70 {l : Launch} {G : xG} (hO : x_OK l G) {P : xP} (hP : x_PG P G) {a0 : Nat} {s0 : Int32} {σ σ' : xS} {rr : Int32 ⊕ String} (h : dm_X12_refWidth_p70 P a0 s0 σ = some (rr, σ')) : Ev l G mX12_refWidth 70 [] [.int s0] σ (xrI rr) σ' := by
  unfold dm_X12_refWidth_p70 at h
  cases h
  exact ev_iret rfl rfl dX12_refWidth_70
set_option maxHeartbeats 4000000 in
set_option maxRecDepth 100000 in
theorem ev_X12_refWidth {l : Launch} {G : xG} (hO : x_OK l G) {P : xP} (hP : x_PG P G) {a0 : Nat} {v1 : Int32} {v2 : Int32} {v3 : Int32} {σ σ' : xS} {rr : Int32 ⊕ String} (h : dm_X12_refWidth P a0 v1 v2 v3 σ = some (rr, σ')) : EvM l G mX12_refWidth [va_rf (some a0), .int v1, .int v2, .int v3] σ (xrI rr) σ' := by
  unfold dm_X12_refWidth at h
  refine evM_of hO (by decide +kernel) (x_lenI (by simp [x_cat, x_catI, x_catJ, mX12_refWidth, xM.maxL])) ?_
  refine Eq.mp (congrArg (fun z => Ev l G mX12_refWidth 0 z [] σ (xrI rr) σ') (show [(0, va_rf (some a0)), (1, .int v1), (2, .int v2), (3, .int v3)] = lv_args 0 [va_rf (some a0), .int v1, .int v2, .int v3] by simp [lv_args, x_cat, x_catI, x_catJ])) ?_
  refine ev_aload_n (j := 0) (x := (some a0)) dX12_refWidth_0 rfl rfl ?_
  obtain ⟨c_1, h⟩ := x_chk_e h
  refine ev_get (C := RX12) (T := TX12) (k := 17) inX12 (xE_12 c_1) rfl (by decide) wd_165 (Or.inl rfl) rfl dX12_refWidth_1 ?_
  refine ev_iload_n (j := 3) (x := v3) dX12_refWidth_4 rfl rfl ?_
  obtain ⟨a_2, ea_2, h⟩ := x_some_e h
  refine ev_at (st' := [.int v3, va_rf (some a_2)]) rfl (by rw [ea_2]) ?_
  obtain ⟨c_3, h⟩ := x_chk_e h
  refine ev_iald_31 c_3.1 c_3.2 dX12_refWidth_5 ?_
  obtain ⟨v_4, ev_4, h⟩ := x_let_e h
  rw [← ev_4]
  refine ev_istore (i := 4) (lv' := [(4, .int v_4), (0, va_rf (some a0)), (1, .int v1), (2, .int v2), (3, .int v3)]) dX12_refWidth_6 (by decide) rfl ?_
  refine ev_iload (j := 0) (x := v_4) dX12_refWidth_8 rfl ?_
  refine ev_iconst (v := 3) dX12_refWidth_10 (by decide) ?_
  by_cases c_5 : v_4 = 3
  · rw [if_pos c_5] at h
    refine ev_icmp_ne (x := v_4) (y := 3) (tgt := 21) dX12_refWidth_11 (by decide) (fun q9 => absurd c_5 q9) (fun _ => ?_)
    refine ev_aload_n (j := 1) (x := (some a0)) dX12_refWidth_14 rfl rfl ?_
    refine ev_get (C := RX12) (T := TX12) (k := 20) inX12 (xE_12 c_1) rfl (by decide) wd_168 (Or.inl rfl) rfl dX12_refWidth_15 ?_
    refine ev_iload_n (j := 4) (x := v3) dX12_refWidth_18 rfl rfl ?_
    obtain ⟨a_16, ea_16, h⟩ := x_some_e h
    refine ev_at (st' := [.int v3, va_rf (some a_16)]) rfl (by rw [ea_16]) ?_
    obtain ⟨c_17, h⟩ := x_chk_e h
    refine ev_iald_31 c_17.1 c_17.2 dX12_refWidth_19 ?_
    cases h
    exact ev_iret rfl rfl dX12_refWidth_20
  · rw [if_neg c_5] at h
    refine ev_icmp_ne (x := v_4) (y := 3) (tgt := 21) dX12_refWidth_11 (by decide) (fun _ => ?_) (fun q9 => absurd q9 c_5)
    refine ev_iload (j := 0) (x := v_4) dX12_refWidth_21 rfl ?_
    by_cases c_6 : v_4 = 0
    · rw [if_pos c_6] at h
      refine ev_if_ne (x := v_4) (tgt := 45) dX12_refWidth_23 (by decide) (fun q9 => absurd c_6 q9) (fun _ => ?_)
      refine ev_aload_n (j := 1) (x := (some a0)) dX12_refWidth_26 rfl rfl ?_
      refine ev_get (C := RX12) (T := TX12) (k := 12) inX12 (xE_12 c_1) rfl (by decide) wd_159 (Or.inl rfl) rfl dX12_refWidth_27 ?_
      refine ev_bipush (v := 16) dX12_refWidth_30 (by decide) ?_
      refine ev_iload_n (j := 3) (x := v2) dX12_refWidth_32 rfl rfl ?_
      refine ev_imul (x := 16) (y := v2) dX12_refWidth_33 ?_
      refine ev_aload_n (j := 1) (x := (some a0)) dX12_refWidth_34 rfl rfl ?_
      refine ev_get (C := RX12) (T := TX12) (k := 18) inX12 (xE_12 c_1) rfl (by decide) wd_166 (Or.inl rfl) rfl dX12_refWidth_35 ?_
      refine ev_iload_n (j := 4) (x := v3) dX12_refWidth_38 rfl rfl ?_
      obtain ⟨a_12, ea_12, h⟩ := x_some_e h
      refine ev_at (st' := [.int v3, va_rf (some a_12), .int (16 * v2), va_rf (σ.R 1112 a0)]) rfl (by rw [ea_12]) ?_
      obtain ⟨c_13, h⟩ := x_chk_e h
      refine ev_iald_31 c_13.1 c_13.2 dX12_refWidth_39 ?_
      refine ev_iadd (x := (16 * v2)) (y := (σ.AI a_12 (Int32.toNatClampNeg v3))) dX12_refWidth_40 ?_
      obtain ⟨a_14, ea_14, h⟩ := x_some_e h
      refine ev_at (st' := [.int ((16 * v2) + (σ.AI a_12 (Int32.toNatClampNeg v3))), va_rf (some a_14)]) rfl (by rw [ea_14]) ?_
      obtain ⟨c_15, h⟩ := x_chk_e h
      refine ev_iald_31 c_15.1 c_15.2 dX12_refWidth_41 ?_
      refine ev_goto (tgt := 70) dX12_refWidth_42 (by decide) ?_
      exact ev_sub [] rfl (ev_X12_refWidth_p70 hO hP h)
    · rw [if_neg c_6] at h
      refine ev_if_ne (x := v_4) (tgt := 45) dX12_refWidth_23 (by decide) (fun _ => ?_) (fun q9 => absurd q9 c_6)
      refine ev_iload (j := 0) (x := v_4) dX12_refWidth_45 rfl ?_
      refine ev_iconst (v := 1) dX12_refWidth_47 (by decide) ?_
      by_cases c_7 : v_4 = 1
      · rw [if_pos c_7] at h
        refine ev_icmp_ne (x := v_4) (y := 1) (tgt := 55) dX12_refWidth_48 (by decide) (fun q9 => absurd c_7 q9) (fun _ => ?_)
        refine ev_iconst (v := 1) dX12_refWidth_51 (by decide) ?_
        refine ev_goto (tgt := 70) dX12_refWidth_52 (by decide) ?_
        exact ev_sub [] rfl (ev_X12_refWidth_p70 hO hP h)
      · rw [if_neg c_7] at h
        refine ev_icmp_ne (x := v_4) (y := 1) (tgt := 55) dX12_refWidth_48 (by decide) (fun _ => ?_) (fun q9 => absurd q9 c_7)
        refine ev_aload_n (j := 1) (x := (some a0)) dX12_refWidth_55 rfl rfl ?_
        refine ev_get (C := RX12) (T := TX12) (k := 19) inX12 (xE_12 c_1) rfl (by decide) wd_167 (Or.inl rfl) rfl dX12_refWidth_56 ?_
        refine ev_iload_n (j := 4) (x := v3) dX12_refWidth_59 rfl rfl ?_
        obtain ⟨a_8, ea_8, h⟩ := x_some_e h
        refine ev_at (st' := [.int v3, va_rf (some a_8)]) rfl (by rw [ea_8]) ?_
        obtain ⟨c_9, h⟩ := x_chk_e h
        refine ev_iald_31 c_9.1 c_9.2 dX12_refWidth_60 ?_
        refine ev_aload_n (j := 1) (x := (some a0)) dX12_refWidth_61 rfl rfl ?_
        refine ev_get (C := RX12) (T := TX12) (k := 20) inX12 (xE_12 c_1) rfl (by decide) wd_168 (Or.inl rfl) rfl dX12_refWidth_62 ?_
        refine ev_iload_n (j := 4) (x := v3) dX12_refWidth_65 rfl rfl ?_
        obtain ⟨a_10, ea_10, h⟩ := x_some_e h
        refine ev_at (st' := [.int v3, va_rf (some a_10), .int (σ.AI a_8 (Int32.toNatClampNeg v3))]) rfl (by rw [ea_10]) ?_
        obtain ⟨c_11, h⟩ := x_chk_e h
        refine ev_iald_31 c_11.1 c_11.2 dX12_refWidth_66 ?_
        refine ev_isub (x := (σ.AI a_8 (Int32.toNatClampNeg v3))) (y := (σ.AI a_10 (Int32.toNatClampNeg v3))) dX12_refWidth_67 ?_
        refine ev_iconst (v := 1) dX12_refWidth_68 (by decide) ?_
        refine ev_iadd (x := ((σ.AI a_8 (Int32.toNatClampNeg v3)) - (σ.AI a_10 (Int32.toNatClampNeg v3)))) (y := 1) dX12_refWidth_69 ?_
        exact ev_sub [] rfl (ev_X12_refWidth_p70 hO hP h)
set_option maxHeartbeats 4000000 in
set_option maxRecDepth 100000 in
theorem ev_X12_late_p25 {l : Launch} {G : xG} (hO : x_OK l G) {P : xP} (hP : x_PG P G) {a0 : Nat} {s0 : Option Nat} {s1 : Int32} {σ σ' : xS} {rr : Unit ⊕ String} (h : dm_X12_late_p25 P a0 s0 s1 σ = some (rr, σ')) : Ev l G mX12_late 25 [] [.int s1, va_rf s0] σ (xrV rr) σ' := by
  unfold dm_X12_late_p25 at h
  obtain ⟨a_1, ea_1, h⟩ := x_some_e h
  refine ev_at (st' := [.int s1, va_rf (some a_1)]) rfl (by rw [ea_1]) ?_
  obtain ⟨c_2, h⟩ := x_chk_e h
  obtain ⟨σ_3, eσ_3, h⟩ := x_let_e h
  refine ev_put (σ2 := σ_3) (C := RX12) (T := TX12) (k := 39) inX12 tyX12 tyX12_ok nmX12 (xE_12 c_2.1) rfl (by decide) wd_182 (Or.inl rfl) rfl rfl rfl rfl (Nat.le_of_ble_eq_true rfl) (hP.2.2.2.1 ▸ c_2.2) (by rw [eσ_3]; exact xP_12_39 _ c_2.1) (by rw [eσ_3]; exact xPut_I) dX12_late_25 ?_
  cases h
  exact ev_vret rfl dX12_late_28
set_option maxHeartbeats 4000000 in
set_option maxRecDepth 100000 in
theorem ev_X12_late_p17 {l : Launch} {G : xG} (hO : x_OK l G) {P : xP} (hP : x_PG P G) {a0 : Nat} {v1 : Int32} {s0 : Option Nat} {σ σ' : xS} {rr : Unit ⊕ String} (h : dm_X12_late_p17 P a0 v1 s0 σ = some (rr, σ')) : Ev l G mX12_late 17 [(1, .int v1)] [va_rf s0] σ (xrV rr) σ' := by
  unfold dm_X12_late_p17 at h
  refine ev_iload_n (j := 0) (x := v1) dX12_late_17 rfl rfl ?_
  refine ev_goto (tgt := 25) dX12_late_18 (by decide) ?_
  exact ev_sub [] rfl (ev_X12_late_p25 hO hP h)
set_option maxHeartbeats 4000000 in
set_option maxRecDepth 100000 in
theorem ev_X12_late {l : Launch} {G : xG} (hO : x_OK l G) {P : xP} (hP : x_PG P G) {a0 : Nat} {v1 : Int32} {σ σ' : xS} {rr : Unit ⊕ String} (h : dm_X12_late P a0 v1 σ = some (rr, σ')) : EvM l G mX12_late [va_rf (some a0), .int v1] σ (xrV rr) σ' := by
  unfold dm_X12_late at h
  refine evM_of hO (by decide +kernel) (x_lenI (by simp [x_cat, x_catI, x_catJ, mX12_late, xM.maxL])) ?_
  refine Eq.mp (congrArg (fun z => Ev l G mX12_late 0 z [] σ (xrV rr) σ') (show [(0, va_rf (some a0)), (1, .int v1)] = lv_args 0 [va_rf (some a0), .int v1] by simp [lv_args, x_cat, x_catI, x_catJ])) ?_
  refine ev_aload_n (j := 0) (x := (some a0)) dX12_late_0 rfl rfl ?_
  refine ev_aload_n (j := 0) (x := (some a0)) dX12_late_1 rfl rfl ?_
  obtain ⟨c_1, h⟩ := x_chk_e h
  refine ev_get (C := RX12) (T := TX12) (k := 39) inX12 (xE_12 c_1) rfl (by decide) wd_182 (Or.inl rfl) rfl dX12_late_2 ?_
  refine ev_iconst (v := -1) dX12_late_5 (by decide) ?_
  by_cases c_2 : (σ.I 1139 a0) = (-1)
  · rw [if_pos c_2] at h
    refine ev_icmp_eq (x := (σ.I 1139 a0)) (y := (-1)) (tgt := 17) dX12_late_6 (by decide) (fun _ => ?_) (fun q9 => absurd c_2 q9)
    exact ev_sub [1] rfl (ev_X12_late_p17 hO hP h)
  · rw [if_neg c_2] at h
    refine ev_icmp_eq (x := (σ.I 1139 a0)) (y := (-1)) (tgt := 17) dX12_late_6 (by decide) (fun q9 => absurd q9 c_2) (fun _ => ?_)
    refine ev_iload_n (j := 1) (x := v1) dX12_late_9 rfl rfl ?_
    refine ev_aload_n (j := 0) (x := (some a0)) dX12_late_10 rfl rfl ?_
    refine ev_get (C := RX12) (T := TX12) (k := 39) inX12 (xE_12 c_1) rfl (by decide) wd_182 (Or.inl rfl) rfl dX12_late_11 ?_
    by_cases c_3 : (σ.I 1139 a0) ≤ v1
    · rw [if_pos c_3] at h
      refine ev_icmp_ge (x := v1) (y := (σ.I 1139 a0)) (tgt := 21) dX12_late_14 (by decide) (fun _ => ?_) (fun q9 => absurd c_3 q9)
      refine ev_aload_n (j := 0) (x := (some a0)) dX12_late_21 rfl rfl ?_
      refine ev_get (C := RX12) (T := TX12) (k := 39) inX12 (xE_12 c_1) rfl (by decide) wd_182 (Or.inl rfl) rfl dX12_late_22 ?_
      exact ev_sub [] rfl (ev_X12_late_p25 hO hP h)
    · rw [if_neg c_3] at h
      refine ev_icmp_ge (x := v1) (y := (σ.I 1139 a0)) (tgt := 21) dX12_late_14 (by decide) (fun q9 => absurd q9 c_3) (fun _ => ?_)
      exact ev_sub [1] rfl (ev_X12_late_p17 hO hP h)
set_option maxHeartbeats 4000000 in
set_option maxRecDepth 100000 in
theorem ev_X12_portNamed_p42 {l : Launch} {G : xG} (hO : x_OK l G) {P : xP} (hP : x_PG P G) {a0 : Nat} {k5 : Int32 → Int32 → Int32 → Int32 → xS → xO Int32} (hk5 : ∀ {v1 : Int32} {v2 : Int32} {v3 : Int32} {v4 : Int32} {σ σ' : xS} {rr : Int32 ⊕ String}, k5 v1 v2 v3 v4 σ = some (rr, σ') → Ev l G mX12_portNamed 5 [(0, va_rf (some a0)), (1, .int v1), (2, .int v2), (3, .int v3), (4, .int v4)] [] σ (xrI rr) σ') {v1 : Int32} {v2 : Int32} {v4 : Int32} {s0 : Int32} {σ σ' : xS} {rr : Int32 ⊕ String} (h : dm_X12_portNamed_p42 P k5 a0 v1 v2 v4 s0 σ = some (rr, σ')) : Ev l G mX12_portNamed 42 [(0, va_rf (some a0)), (1, .int v1), (2, .int v2), (4, .int v4)] [.int s0] σ (xrI rr) σ' := by
  unfold dm_X12_portNamed_p42 at h
  refine ev_istore_n (i := 3) (lv' := [(3, .int s0), (0, va_rf (some a0)), (1, .int v1), (2, .int v2), (4, .int v4)]) dX12_portNamed_42 rfl (by decide) rfl ?_
  obtain ⟨v_1, ev_1, h⟩ := x_let_e h
  refine ev_iinc (j := 4) (x := v4) (v := v_1) (lv' := [(4, .int v_1), (3, .int s0), (0, va_rf (some a0)), (1, .int v1), (2, .int v2)]) dX12_portNamed_43 rfl (by rw [ev_1]; rfl) (by decide) rfl ?_
  refine ev_goto (tgt := 5) dX12_portNamed_46 (by decide) ?_
  exact ev_sub [2, 3, 4, 1, 0] rfl (hk5 h)
set_option maxHeartbeats 4000000 in
set_option maxRecDepth 100000 in
theorem ev_X12_portNamed_L5 {l : Launch} {G : xG} (hO : x_OK l G) {P : xP} (hP : x_PG P G) {a0 : Nat} : ∀ (n : Nat) {v1 : Int32} {v2 : Int32} {v3 : Int32} {v4 : Int32} {σ σ' : xS} {rr : Int32 ⊕ String}, dm_X12_portNamed_L5 P a0 n v1 v2 v3 v4 σ = some (rr, σ') → Ev l G mX12_portNamed 5 [(0, va_rf (some a0)), (1, .int v1), (2, .int v2), (3, .int v3), (4, .int v4)] [] σ (xrI rr) σ' := by
  intro n
  induction n with
  | zero => intro v1 v2 v3 v4 σ σ' rr h; cases h
  | succ n ih =>
    intro v1 v2 v3 v4 σ σ' rr h
    rw [dm_X12_portNamed_L5] at h
    refine ev_iload (j := 4) (x := v4) dX12_portNamed_5 rfl ?_
    refine ev_aload_n (j := 0) (x := (some a0)) dX12_portNamed_7 rfl rfl ?_
    obtain ⟨c_1, h⟩ := x_chk_e h
    refine ev_get (C := RX12) (T := TX12) (k := 8) inX12 (xE_12 c_1) rfl (by decide) wd_155 (Or.inl rfl) rfl dX12_portNamed_8 ?_
    refine ev_iload_n (j := 1) (x := v1) dX12_portNamed_11 rfl rfl ?_
    obtain ⟨a_2, ea_2, h⟩ := x_some_e h
    refine ev_at (st' := [.int v1, va_rf (some a_2), .int v4]) rfl (by rw [ea_2]) ?_
    obtain ⟨c_3, h⟩ := x_chk_e h
    refine ev_iald_31 c_3.1 c_3.2 dX12_portNamed_12 ?_
    by_cases c_4 : (σ.AI a_2 (Int32.toNatClampNeg v1)) ≤ v4
    · rw [if_pos c_4] at h
      refine ev_icmp_ge (x := v4) (y := (σ.AI a_2 (Int32.toNatClampNeg v1))) (tgt := 49) dX12_portNamed_13 (by decide) (fun _ => ?_) (fun q9 => absurd c_4 q9)
      refine ev_iload_n (j := 3) (x := v3) dX12_portNamed_49 rfl rfl ?_
      cases h
      exact ev_iret rfl rfl dX12_portNamed_50
    · rw [if_neg c_4] at h
      refine ev_icmp_ge (x := v4) (y := (σ.AI a_2 (Int32.toNatClampNeg v1))) (tgt := 49) dX12_portNamed_13 (by decide) (fun q9 => absurd q9 c_4) (fun _ => ?_)
      refine ev_aload_n (j := 0) (x := (some a0)) dX12_portNamed_16 rfl rfl ?_
      refine ev_aload_n (j := 0) (x := (some a0)) dX12_portNamed_17 rfl rfl ?_
      refine ev_get (C := RX12) (T := TX12) (k := 10) inX12 (xE_12 c_1) rfl (by decide) wd_157 (Or.inl rfl) rfl dX12_portNamed_18 ?_
      refine ev_bipush (v := 16) dX12_portNamed_21 (by decide) ?_
      refine ev_iload_n (j := 1) (x := v1) dX12_portNamed_23 rfl rfl ?_
      refine ev_imul (x := 16) (y := v1) dX12_portNamed_24 ?_
      refine ev_iload (j := 4) (x := v4) dX12_portNamed_25 rfl ?_
      refine ev_iadd (x := (16 * v1)) (y := v4) dX12_portNamed_27 ?_
      obtain ⟨a_5, ea_5, h⟩ := x_some_e h
      refine ev_at (st' := [.int ((16 * v1) + v4), va_rf (some a_5), va_rf (some a0)]) rfl (by rw [ea_5]) ?_
      obtain ⟨c_6, h⟩ := x_chk_e h
      refine ev_iald_31 c_6.1 c_6.2 dX12_portNamed_28 ?_
      refine ev_iload_n (j := 2) (x := v2) dX12_portNamed_29 rfl rfl ?_
      rcases x_bind_e h with ⟨v_7, σ_8, h_9, h⟩ | ⟨E_11, σ_8, h_9, h⟩
      · have z9 := x_call (M := mX12_portNamed) (M' := mX12_areSame) (pc := 30) (st := [.int v2, .int (σ.AI a_5 (Int32.toNatClampNeg ((16 * v1) + v4))), va_rf (some a0)]) (rest := []) (av := [va_rf (some a0), .int (σ.AI a_5 (Int32.toNatClampNeg ((16 * v1) + v4))), .int v2]) (x_linkV (M := mX12_portNamed) (M' := mX12_areSame) (As := [.int (σ.AI a_5 (Int32.toNatClampNeg ((16 * v1) + v4))), .int v2]) (index := 181) (C := RX12) (T := TX12) (xE_12 c_1) rfl wd_673 wd_674 (wG_in (List.mem_append_left _ (List.mem_of_getElem? (i := 46) rfl)) rfl) xw_X12_areSame rfl (by decide) rfl rfl dX12_portNamed_30) (ev_X12_areSame hO hP h_9) xw_X12_areSame rfl wd_198 dX12_portNamed_30 (by decide) (by decide) (by simp [x_cat, x_catI, x_catJ])
        refine x_callR z9 ?_
        refine ev_at (st' := [.int v_7]) rfl rfl ?_
        by_cases c_10 : v_7 = 0
        · rw [if_pos c_10] at h
          refine ev_if_eq (x := v_7) (tgt := 41) dX12_portNamed_33 (by decide) (fun _ => ?_) (fun q9 => absurd c_10 q9)
          refine ev_iload_n (j := 3) (x := v3) dX12_portNamed_41 rfl rfl ?_
          exact ev_sub [0, 1, 2, 4] rfl (ev_X12_portNamed_p42 hO hP ih h)
        · rw [if_neg c_10] at h
          refine ev_if_eq (x := v_7) (tgt := 41) dX12_portNamed_33 (by decide) (fun q9 => absurd q9 c_10) (fun _ => ?_)
          refine ev_iload (j := 4) (x := v4) dX12_portNamed_36 rfl ?_
          refine ev_goto (tgt := 42) dX12_portNamed_38 (by decide) ?_
          exact ev_sub [0, 1, 2, 4] rfl (ev_X12_portNamed_p42 hO hP ih h)
      · have z9 := x_call (M := mX12_portNamed) (M' := mX12_areSame) (pc := 30) (st := [.int v2, .int (σ.AI a_5 (Int32.toNatClampNeg ((16 * v1) + v4))), va_rf (some a0)]) (rest := []) (av := [va_rf (some a0), .int (σ.AI a_5 (Int32.toNatClampNeg ((16 * v1) + v4))), .int v2]) (x_linkV (M := mX12_portNamed) (M' := mX12_areSame) (As := [.int (σ.AI a_5 (Int32.toNatClampNeg ((16 * v1) + v4))), .int v2]) (index := 181) (C := RX12) (T := TX12) (xE_12 c_1) rfl wd_673 wd_674 (wG_in (List.mem_append_left _ (List.mem_of_getElem? (i := 46) rfl)) rfl) xw_X12_areSame rfl (by decide) rfl rfl dX12_portNamed_30) (ev_X12_areSame hO hP h_9) xw_X12_areSame rfl wd_198 dX12_portNamed_30 (by decide) (by decide) (by simp [x_cat, x_catI, x_catJ])
        cases h
        exact x_callX z9 (evX_out rfl)
set_option maxHeartbeats 4000000 in
set_option maxRecDepth 100000 in
theorem ev_X12_portNamed {l : Launch} {G : xG} (hO : x_OK l G) {P : xP} (hP : x_PG P G) {a0 : Nat} {v1 : Int32} {v2 : Int32} {σ σ' : xS} {rr : Int32 ⊕ String} (h : dm_X12_portNamed P a0 v1 v2 σ = some (rr, σ')) : EvM l G mX12_portNamed [va_rf (some a0), .int v1, .int v2] σ (xrI rr) σ' := by
  unfold dm_X12_portNamed at h
  refine evM_of hO (by decide +kernel) (x_lenI (by simp [x_cat, x_catI, x_catJ, mX12_portNamed, xM.maxL])) ?_
  refine Eq.mp (congrArg (fun z => Ev l G mX12_portNamed 0 z [] σ (xrI rr) σ') (show [(0, va_rf (some a0)), (1, .int v1), (2, .int v2)] = lv_args 0 [va_rf (some a0), .int v1, .int v2] by simp [lv_args, x_cat, x_catI, x_catJ])) ?_
  refine ev_iconst (v := -1) dX12_portNamed_0 (by decide) ?_
  refine ev_istore_n (i := 3) (lv' := [(3, .int (-1)), (0, va_rf (some a0)), (1, .int v1), (2, .int v2)]) dX12_portNamed_1 rfl (by decide) rfl ?_
  refine ev_iconst (v := 0) dX12_portNamed_2 (by decide) ?_
  refine ev_istore (i := 4) (lv' := [(4, .int 0), (3, .int (-1)), (0, va_rf (some a0)), (1, .int v1), (2, .int v2)]) dX12_portNamed_3 (by decide) rfl ?_
  exact ev_sub [2, 3, 4, 1, 0] rfl (ev_X12_portNamed_L5 hO hP P.N h)
set_option maxHeartbeats 4000000 in
set_option maxRecDepth 100000 in
theorem ev_X12_checkInstance_p232 {l : Launch} {G : xG} (hO : x_OK l G) {P : xP} (hP : x_PG P G) {a0 : Nat} {k72 : Int32 → Int32 → Int32 → Int32 → xS → xO Unit} (hk72 : ∀ {v1 : Int32} {v2 : Int32} {v3 : Int32} {v4 : Int32} {σ σ' : xS} {rr : Unit ⊕ String}, k72 v1 v2 v3 v4 σ = some (rr, σ') → Ev l G mX12_checkInstance 72 [(0, va_rf (some a0)), (1, .int v1), (2, .int v2), (3, .int v3), (4, .int v4)] [] σ (xrV rr) σ') {v1 : Int32} {v2 : Int32} {v3 : Int32} {v4 : Int32} {σ σ' : xS} {rr : Unit ⊕ String} (h : dm_X12_checkInstance_p232 P k72 a0 v1 v2 v3 v4 σ = some (rr, σ')) : Ev l G mX12_checkInstance 232 [(0, va_rf (some a0)), (1, .int v1), (2, .int v2), (3, .int v3), (4, .int v4)] [] σ (xrV rr) σ' := by
  unfold dm_X12_checkInstance_p232 at h
  obtain ⟨v_1, ev_1, h⟩ := x_let_e h
  refine ev_iinc (j := 4) (x := v4) (v := v_1) (lv' := [(4, .int v_1), (0, va_rf (some a0)), (1, .int v1), (2, .int v2), (3, .int v3)]) dX12_checkInstance_232 rfl (by rw [ev_1]; rfl) (by decide) rfl ?_
  refine ev_goto (tgt := 72) dX12_checkInstance_235 (by decide) ?_
  exact ev_sub [1, 2, 3, 4, 0] rfl (hk72 h)
set_option maxHeartbeats 4000000 in
set_option maxRecDepth 100000 in
theorem ev_X12_checkInstance_p168 {l : Launch} {G : xG} (hO : x_OK l G) {P : xP} (hP : x_PG P G) {a0 : Nat} {k72 : Int32 → Int32 → Int32 → Int32 → xS → xO Unit} (hk72 : ∀ {v1 : Int32} {v2 : Int32} {v3 : Int32} {v4 : Int32} {σ σ' : xS} {rr : Unit ⊕ String}, k72 v1 v2 v3 v4 σ = some (rr, σ') → Ev l G mX12_checkInstance 72 [(0, va_rf (some a0)), (1, .int v1), (2, .int v2), (3, .int v3), (4, .int v4)] [] σ (xrV rr) σ') {v1 : Int32} {v2 : Int32} {v3 : Int32} {v4 : Int32} {s0 : Option Nat} {s1 : Int32} {σ σ' : xS} {rr : Unit ⊕ String} (h : dm_X12_checkInstance_p168 P k72 a0 v1 v2 v3 v4 s0 s1 σ = some (rr, σ')) : Ev l G mX12_checkInstance 168 [(0, va_rf (some a0)), (1, .int v1), (2, .int v2), (3, .int v3), (4, .int v4)] [.int s1, va_rf s0] σ (xrV rr) σ' := by
  unfold dm_X12_checkInstance_p168 at h
  obtain ⟨a_1, ea_1, h⟩ := x_some_e h
  refine ev_at (st' := [.int s1, va_rf (some a_1)]) rfl (by rw [ea_1]) ?_
  obtain ⟨c_5, h⟩ := x_chk_e h
  rcases x_bind_e h with ⟨v_2, σ_3, h_4, h⟩ | ⟨E_6, σ_3, h_4, h⟩
  · have z9 := x_call (M := mX12_checkInstance) (M' := mX12_late) (pc := 168) (st := [.int s1, va_rf (some a_1)]) (rest := []) (av := [va_rf (some a_1), .int s1]) (x_linkV (M := mX12_checkInstance) (M' := mX12_late) (As := [.int s1]) (index := 271) (C := RX12) (T := TX12) (xE_12 c_5) rfl wd_766 wd_767 (wG_in (List.mem_append_left _ (List.mem_of_getElem? (i := 79) rfl)) rfl) xw_X12_late rfl (by decide) rfl rfl dX12_checkInstance_168) (ev_X12_late hO hP h_4) xw_X12_late rfl wd_198 dX12_checkInstance_168 (by decide) (by decide) (by simp [x_cat, x_catI, x_catJ])
    refine x_callR z9 ?_
    refine ev_at (st' := []) rfl rfl ?_
    refine ev_goto (tgt := 232) dX12_checkInstance_171 (by decide) ?_
    exact ev_sub [0, 1, 2, 3, 4] rfl (ev_X12_checkInstance_p232 hO hP hk72 h)
  · have z9 := x_call (M := mX12_checkInstance) (M' := mX12_late) (pc := 168) (st := [.int s1, va_rf (some a_1)]) (rest := []) (av := [va_rf (some a_1), .int s1]) (x_linkV (M := mX12_checkInstance) (M' := mX12_late) (As := [.int s1]) (index := 271) (C := RX12) (T := TX12) (xE_12 c_5) rfl wd_766 wd_767 (wG_in (List.mem_append_left _ (List.mem_of_getElem? (i := 79) rfl)) rfl) xw_X12_late rfl (by decide) rfl rfl dX12_checkInstance_168) (ev_X12_late hO hP h_4) xw_X12_late rfl wd_198 dX12_checkInstance_168 (by decide) (by decide) (by simp [x_cat, x_catI, x_catJ])
    cases h
    exact x_callX z9 (evX_out rfl)
set_option maxHeartbeats 4000000 in
set_option maxRecDepth 100000 in
theorem ev_X12_checkInstance_p133 {l : Launch} {G : xG} (hO : x_OK l G) {P : xP} (hP : x_PG P G) {a0 : Nat} {k72 : Int32 → Int32 → Int32 → Int32 → xS → xO Unit} (hk72 : ∀ {v1 : Int32} {v2 : Int32} {v3 : Int32} {v4 : Int32} {σ σ' : xS} {rr : Unit ⊕ String}, k72 v1 v2 v3 v4 σ = some (rr, σ') → Ev l G mX12_checkInstance 72 [(0, va_rf (some a0)), (1, .int v1), (2, .int v2), (3, .int v3), (4, .int v4)] [] σ (xrV rr) σ') {v1 : Int32} {v2 : Int32} {v3 : Int32} {v4 : Int32} {v5 : Int32} {s0 : Int32} {σ σ' : xS} {rr : Unit ⊕ String} (h : dm_X12_checkInstance_p133 P k72 a0 v1 v2 v3 v4 v5 s0 σ = some (rr, σ')) : Ev l G mX12_checkInstance 133 [(0, va_rf (some a0)), (1, .int v1), (2, .int v2), (3, .int v3), (4, .int v4), (5, .int v5)] [.int s0] σ (xrV rr) σ' := by
  unfold dm_X12_checkInstance_p133 at h
  refine ev_istore (i := 6) (lv' := [(6, .int s0), (0, va_rf (some a0)), (1, .int v1), (2, .int v2), (3, .int v3), (4, .int v4), (5, .int v5)]) dX12_checkInstance_133 (by decide) rfl ?_
  refine ev_iload (j := 0) (x := s0) dX12_checkInstance_135 rfl ?_
  refine ev_iconst (v := -1) dX12_checkInstance_137 (by decide) ?_
  by_cases c_1 : s0 = (-1)
  · rw [if_pos c_1] at h
    refine ev_icmp_ne (x := s0) (y := (-1)) (tgt := 174) dX12_checkInstance_138 (by decide) (fun q9 => absurd c_1 q9) (fun _ => ?_)
    refine ev_aload_n (j := 1) (x := (some a0)) dX12_checkInstance_141 rfl rfl ?_
    refine ev_aload_n (j := 1) (x := (some a0)) dX12_checkInstance_142 rfl rfl ?_
    obtain ⟨c_22, h⟩ := x_chk_e h
    refine ev_get (C := RX12) (T := TX12) (k := 27) inX12 (xE_12 c_22) rfl (by decide) wd_175 (Or.inl rfl) rfl dX12_checkInstance_143 ?_
    refine ev_iload_n (j := 3) (x := v2) dX12_checkInstance_146 rfl rfl ?_
    obtain ⟨a_23, ea_23, h⟩ := x_some_e h
    refine ev_at (st' := [.int v2, va_rf (some a_23), va_rf (some a0)]) rfl (by rw [ea_23]) ?_
    obtain ⟨c_24, h⟩ := x_chk_e h
    refine ev_zald_33 c_24.1 c_24.2 dX12_checkInstance_147 ?_
    by_cases c_25 : (σ.AI a_23 (Int32.toNatClampNeg v2)) = 0
    · rw [if_pos c_25] at h
      refine ev_if_eq (x := (σ.AI a_23 (Int32.toNatClampNeg v2))) (tgt := 161) dX12_checkInstance_148 (by decide) (fun _ => ?_) (fun q9 => absurd c_25 q9)
      refine ev_aload_n (j := 1) (x := (some a0)) dX12_checkInstance_161 rfl rfl ?_
      refine ev_get (C := RX12) (T := TX12) (k := 32) inX12 (xE_12 c_22) rfl (by decide) wd_180 (Or.inl rfl) rfl dX12_checkInstance_162 ?_
      refine ev_iload (j := 6) (x := v5) dX12_checkInstance_165 rfl ?_
      obtain ⟨a_26, ea_26, h⟩ := x_some_e h
      refine ev_at (st' := [.int v5, va_rf (some a_26), va_rf (some a0)]) rfl (by rw [ea_26]) ?_
      obtain ⟨c_27, h⟩ := x_chk_e h
      refine ev_iald_31 c_27.1 c_27.2 dX12_checkInstance_167 ?_
      exact ev_sub [1, 2, 3, 4, 5] rfl (ev_X12_checkInstance_p168 hO hP hk72 h)
    · rw [if_neg c_25] at h
      refine ev_if_eq (x := (σ.AI a_23 (Int32.toNatClampNeg v2))) (tgt := 161) dX12_checkInstance_148 (by decide) (fun q9 => absurd q9 c_25) (fun _ => ?_)
      refine ev_aload_n (j := 1) (x := (some a0)) dX12_checkInstance_151 rfl rfl ?_
      refine ev_get (C := RX12) (T := TX12) (k := 31) inX12 (xE_12 c_22) rfl (by decide) wd_179 (Or.inl rfl) rfl dX12_checkInstance_152 ?_
      refine ev_iload (j := 6) (x := v5) dX12_checkInstance_155 rfl ?_
      obtain ⟨a_28, ea_28, h⟩ := x_some_e h
      refine ev_at (st' := [.int v5, va_rf (some a_28), va_rf (some a0)]) rfl (by rw [ea_28]) ?_
      obtain ⟨c_29, h⟩ := x_chk_e h
      refine ev_iald_31 c_29.1 c_29.2 dX12_checkInstance_157 ?_
      refine ev_goto (tgt := 168) dX12_checkInstance_158 (by decide) ?_
      exact ev_sub [1, 2, 3, 4, 5] rfl (ev_X12_checkInstance_p168 hO hP hk72 h)
  · rw [if_neg c_1] at h
    refine ev_icmp_ne (x := s0) (y := (-1)) (tgt := 174) dX12_checkInstance_138 (by decide) (fun _ => ?_) (fun q9 => absurd q9 c_1)
    refine ev_aload_n (j := 1) (x := (some a0)) dX12_checkInstance_174 rfl rfl ?_
    obtain ⟨c_2, h⟩ := x_chk_e h
    refine ev_get (C := RX12) (T := TX12) (k := 30) inX12 (xE_12 c_2) rfl (by decide) wd_178 (Or.inl rfl) rfl dX12_checkInstance_175 ?_
    refine ev_iload (j := 6) (x := v5) dX12_checkInstance_178 rfl ?_
    obtain ⟨a_3, ea_3, h⟩ := x_some_e h
    refine ev_at (st' := [.int v5, va_rf (some a_3)]) rfl (by rw [ea_3]) ?_
    obtain ⟨c_4, h⟩ := x_chk_e h
    refine ev_iald_31 c_4.1 c_4.2 dX12_checkInstance_180 ?_
    refine ev_iconst (v := -1) dX12_checkInstance_181 (by decide) ?_
    by_cases c_5 : (σ.AI a_3 (Int32.toNatClampNeg v5)) = (-1)
    · rw [if_pos c_5] at h
      refine ev_icmp_eq (x := (σ.AI a_3 (Int32.toNatClampNeg v5))) (y := (-1)) (tgt := 232) dX12_checkInstance_182 (by decide) (fun _ => ?_) (fun q9 => absurd c_5 q9)
      exact ev_sub [1, 2, 3, 4, 5] rfl (ev_X12_checkInstance_p232 hO hP hk72 h)
    · rw [if_neg c_5] at h
      refine ev_icmp_eq (x := (σ.AI a_3 (Int32.toNatClampNeg v5))) (y := (-1)) (tgt := 232) dX12_checkInstance_182 (by decide) (fun q9 => absurd q9 c_5) (fun _ => ?_)
      refine ev_aload_n (j := 1) (x := (some a0)) dX12_checkInstance_185 rfl rfl ?_
      refine ev_aload_n (j := 1) (x := (some a0)) dX12_checkInstance_186 rfl rfl ?_
      refine ev_get (C := RX12) (T := TX12) (k := 40) inX12 (xE_12 c_2) rfl (by decide) wd_638 (Or.inl rfl) rfl dX12_checkInstance_187 ?_
      refine ev_iload_n (j := 2) (x := v1) dX12_checkInstance_190 rfl rfl ?_
      refine ev_aload_n (j := 1) (x := (some a0)) dX12_checkInstance_191 rfl rfl ?_
      refine ev_get (C := RX12) (T := TX12) (k := 30) inX12 (xE_12 c_2) rfl (by decide) wd_178 (Or.inl rfl) rfl dX12_checkInstance_192 ?_
      refine ev_iload (j := 6) (x := v5) dX12_checkInstance_195 rfl ?_
      refine ev_at (st' := [.int v5, va_rf (some a_3), .int v1, .int (σ.I 1140 a0), va_rf (some a0)]) rfl (by rw [ea_3]) ?_
      refine ev_iald_31 c_4.1 c_4.2 dX12_checkInstance_197 ?_
      rcases x_bind_e h with ⟨v_6, σ_7, h_8, h⟩ | ⟨E_21, σ_7, h_8, h⟩
      · have z9 := x_call (M := mX12_checkInstance) (M' := mX12_refWidth) (pc := 198) (st := [.int (σ.AI a_3 (Int32.toNatClampNeg v5)), .int v1, .int (σ.I 1140 a0), va_rf (some a0)]) (rest := []) (av := [va_rf (some a0), .int (σ.I 1140 a0), .int v1, .int (σ.AI a_3 (Int32.toNatClampNeg v5))]) (x_linkV (M := mX12_checkInstance) (M' := mX12_refWidth) (As := [.int (σ.I 1140 a0), .int v1, .int (σ.AI a_3 (Int32.toNatClampNeg v5))]) (index := 277) (C := RX12) (T := TX12) (xE_12 c_2) rfl wd_772 wd_773 (wG_in (List.mem_append_left _ (List.mem_of_getElem? (i := 78) rfl)) rfl) xw_X12_refWidth rfl (by decide) rfl rfl dX12_checkInstance_198) (ev_X12_refWidth hO hP h_8) xw_X12_refWidth rfl wd_198 dX12_checkInstance_198 (by decide) (by decide) (by simp [x_cat, x_catI, x_catJ])
        refine x_callR z9 ?_
        refine ev_at (st' := [.int v_6]) rfl rfl ?_
        refine ev_aload_n (j := 1) (x := (some a0)) dX12_checkInstance_201 rfl rfl ?_
        obtain ⟨c_9, h⟩ := x_chk_e h
        refine ev_get (C := RX12) (T := TX12) (k := 12) inX12 (xE_12 c_9) rfl (by decide) wd_159 (Or.inl rfl) rfl dX12_checkInstance_202 ?_
        refine ev_bipush (v := 16) dX12_checkInstance_205 (by decide) ?_
        refine ev_iload_n (j := 4) (x := v3) dX12_checkInstance_207 rfl rfl ?_
        refine ev_imul (x := 16) (y := v3) dX12_checkInstance_208 ?_
        refine ev_iload (j := 0) (x := s0) dX12_checkInstance_209 rfl ?_
        refine ev_iadd (x := (16 * v3)) (y := s0) dX12_checkInstance_211 ?_
        obtain ⟨a_10, ea_10, h⟩ := x_some_e h
        refine ev_at (st' := [.int ((16 * v3) + s0), va_rf (some a_10), .int v_6]) rfl (by rw [ea_10]) ?_
        obtain ⟨c_11, h⟩ := x_chk_e h
        refine ev_iald_31 c_11.1 c_11.2 dX12_checkInstance_212 ?_
        by_cases c_12 : v_6 = (σ_7.AI a_10 (Int32.toNatClampNeg ((16 * v3) + s0)))
        · rw [if_pos c_12] at h
          refine ev_icmp_eq (x := v_6) (y := (σ_7.AI a_10 (Int32.toNatClampNeg ((16 * v3) + s0)))) (tgt := 232) dX12_checkInstance_213 (by decide) (fun _ => ?_) (fun q9 => absurd c_12 q9)
          exact ev_sub [1, 2, 3, 4, 5] rfl (ev_X12_checkInstance_p232 hO hP hk72 h)
        · rw [if_neg c_12] at h
          refine ev_icmp_eq (x := v_6) (y := (σ_7.AI a_10 (Int32.toNatClampNeg ((16 * v3) + s0)))) (tgt := 232) dX12_checkInstance_213 (by decide) (fun q9 => absurd q9 c_12) (fun _ => ?_)
          refine ev_aload_n (j := 1) (x := (some a0)) dX12_checkInstance_216 rfl rfl ?_
          refine ev_aload_n (j := 1) (x := (some a0)) dX12_checkInstance_217 rfl rfl ?_
          refine ev_get (C := RX12) (T := TX12) (k := 16) inX12 (xE_12 c_9) rfl (by decide) wd_164 (Or.inl rfl) rfl dX12_checkInstance_218 ?_
          refine ev_aload_n (j := 1) (x := (some a0)) dX12_checkInstance_221 rfl rfl ?_
          refine ev_get (C := RX12) (T := TX12) (k := 30) inX12 (xE_12 c_9) rfl (by decide) wd_178 (Or.inl rfl) rfl dX12_checkInstance_222 ?_
          refine ev_iload (j := 6) (x := v5) dX12_checkInstance_225 rfl ?_
          obtain ⟨a_13, ea_13, h⟩ := x_some_e h
          refine ev_at (st' := [.int v5, va_rf (some a_13), va_rf (σ_7.R 1116 a0), va_rf (some a0)]) rfl (by rw [ea_13]) ?_
          obtain ⟨c_14, h⟩ := x_chk_e h
          refine ev_iald_31 c_14.1 c_14.2 dX12_checkInstance_227 ?_
          obtain ⟨a_15, ea_15, h⟩ := x_some_e h
          refine ev_at (st' := [.int (σ_7.AI a_13 (Int32.toNatClampNeg v5)), va_rf (some a_15), va_rf (some a0)]) rfl (by rw [ea_15]) ?_
          obtain ⟨c_16, h⟩ := x_chk_e h
          refine ev_iald_31 c_16.1 c_16.2 dX12_checkInstance_228 ?_
          rcases x_bind_e h with ⟨v_17, σ_18, h_19, h⟩ | ⟨E_20, σ_18, h_19, h⟩
          · have z9 := x_call (M := mX12_checkInstance) (M' := mX12_late) (pc := 229) (st := [.int (σ_7.AI a_15 (Int32.toNatClampNeg (σ_7.AI a_13 (Int32.toNatClampNeg v5)))), va_rf (some a0)]) (rest := []) (av := [va_rf (some a0), .int (σ_7.AI a_15 (Int32.toNatClampNeg (σ_7.AI a_13 (Int32.toNatClampNeg v5))))]) (x_linkV (M := mX12_checkInstance) (M' := mX12_late) (As := [.int (σ_7.AI a_15 (Int32.toNatClampNeg (σ_7.AI a_13 (Int32.toNatClampNeg v5))))]) (index := 271) (C := RX12) (T := TX12) (xE_12 c_9) rfl wd_766 wd_767 (wG_in (List.mem_append_left _ (List.mem_of_getElem? (i := 79) rfl)) rfl) xw_X12_late rfl (by decide) rfl rfl dX12_checkInstance_229) (ev_X12_late hO hP h_19) xw_X12_late rfl wd_198 dX12_checkInstance_229 (by decide) (by decide) (by simp [x_cat, x_catI, x_catJ])
            refine x_callR z9 ?_
            refine ev_at (st' := []) rfl rfl ?_
            exact ev_sub [1, 2, 3, 4, 5] rfl (ev_X12_checkInstance_p232 hO hP hk72 h)
          · have z9 := x_call (M := mX12_checkInstance) (M' := mX12_late) (pc := 229) (st := [.int (σ_7.AI a_15 (Int32.toNatClampNeg (σ_7.AI a_13 (Int32.toNatClampNeg v5)))), va_rf (some a0)]) (rest := []) (av := [va_rf (some a0), .int (σ_7.AI a_15 (Int32.toNatClampNeg (σ_7.AI a_13 (Int32.toNatClampNeg v5))))]) (x_linkV (M := mX12_checkInstance) (M' := mX12_late) (As := [.int (σ_7.AI a_15 (Int32.toNatClampNeg (σ_7.AI a_13 (Int32.toNatClampNeg v5))))]) (index := 271) (C := RX12) (T := TX12) (xE_12 c_9) rfl wd_766 wd_767 (wG_in (List.mem_append_left _ (List.mem_of_getElem? (i := 79) rfl)) rfl) xw_X12_late rfl (by decide) rfl rfl dX12_checkInstance_229) (ev_X12_late hO hP h_19) xw_X12_late rfl wd_198 dX12_checkInstance_229 (by decide) (by decide) (by simp [x_cat, x_catI, x_catJ])
            cases h
            exact x_callX z9 (evX_out rfl)
      · have z9 := x_call (M := mX12_checkInstance) (M' := mX12_refWidth) (pc := 198) (st := [.int (σ.AI a_3 (Int32.toNatClampNeg v5)), .int v1, .int (σ.I 1140 a0), va_rf (some a0)]) (rest := []) (av := [va_rf (some a0), .int (σ.I 1140 a0), .int v1, .int (σ.AI a_3 (Int32.toNatClampNeg v5))]) (x_linkV (M := mX12_checkInstance) (M' := mX12_refWidth) (As := [.int (σ.I 1140 a0), .int v1, .int (σ.AI a_3 (Int32.toNatClampNeg v5))]) (index := 277) (C := RX12) (T := TX12) (xE_12 c_2) rfl wd_772 wd_773 (wG_in (List.mem_append_left _ (List.mem_of_getElem? (i := 78) rfl)) rfl) xw_X12_refWidth rfl (by decide) rfl rfl dX12_checkInstance_198) (ev_X12_refWidth hO hP h_8) xw_X12_refWidth rfl wd_198 dX12_checkInstance_198 (by decide) (by decide) (by simp [x_cat, x_catI, x_catJ])
        cases h
        exact x_callX z9 (evX_out rfl)
set_option maxHeartbeats 4000000 in
set_option maxRecDepth 100000 in
theorem ev_X12_checkInstance_L72 {l : Launch} {G : xG} (hO : x_OK l G) {P : xP} (hP : x_PG P G) {a0 : Nat} : ∀ (n : Nat) {v1 : Int32} {v2 : Int32} {v3 : Int32} {v4 : Int32} {σ σ' : xS} {rr : Unit ⊕ String}, dm_X12_checkInstance_L72 P a0 n v1 v2 v3 v4 σ = some (rr, σ') → Ev l G mX12_checkInstance 72 [(0, va_rf (some a0)), (1, .int v1), (2, .int v2), (3, .int v3), (4, .int v4)] [] σ (xrV rr) σ' := by
  intro n
  induction n with
  | zero => intro v1 v2 v3 v4 σ σ' rr h; cases h
  | succ n ih =>
    intro v1 v2 v3 v4 σ σ' rr h
    rw [dm_X12_checkInstance_L72] at h
    refine ev_iload (j := 4) (x := v4) dX12_checkInstance_72 rfl ?_
    refine ev_aload_n (j := 0) (x := (some a0)) dX12_checkInstance_74 rfl rfl ?_
    obtain ⟨c_1, h⟩ := x_chk_e h
    refine ev_get (C := RX12) (T := TX12) (k := 29) inX12 (xE_12 c_1) rfl (by decide) wd_177 (Or.inl rfl) rfl dX12_checkInstance_75 ?_
    refine ev_iload_n (j := 2) (x := v2) dX12_checkInstance_78 rfl rfl ?_
    obtain ⟨a_2, ea_2, h⟩ := x_some_e h
    refine ev_at (st' := [.int v2, va_rf (some a_2), .int v4]) rfl (by rw [ea_2]) ?_
    obtain ⟨c_3, h⟩ := x_chk_e h
    refine ev_iald_31 c_3.1 c_3.2 dX12_checkInstance_79 ?_
    by_cases c_4 : (σ.AI a_2 (Int32.toNatClampNeg v2)) ≤ v4
    · rw [if_pos c_4] at h
      refine ev_icmp_ge (x := v4) (y := (σ.AI a_2 (Int32.toNatClampNeg v2))) (tgt := 238) dX12_checkInstance_80 (by decide) (fun _ => ?_) (fun q9 => absurd c_4 q9)
      cases h
      exact ev_vret rfl dX12_checkInstance_238
    · rw [if_neg c_4] at h
      refine ev_icmp_ge (x := v4) (y := (σ.AI a_2 (Int32.toNatClampNeg v2))) (tgt := 238) dX12_checkInstance_80 (by decide) (fun q9 => absurd q9 c_4) (fun _ => ?_)
      refine ev_bipush (v := 16) dX12_checkInstance_83 (by decide) ?_
      refine ev_iload_n (j := 2) (x := v2) dX12_checkInstance_85 rfl rfl ?_
      refine ev_imul (x := 16) (y := v2) dX12_checkInstance_86 ?_
      refine ev_iload (j := 4) (x := v4) dX12_checkInstance_87 rfl ?_
      refine ev_iadd (x := (16 * v2)) (y := v4) dX12_checkInstance_89 ?_
      obtain ⟨v_5, ev_5, h⟩ := x_let_e h
      rw [← ev_5]
      refine ev_istore (i := 5) (lv' := [(5, .int v_5), (0, va_rf (some a0)), (1, .int v1), (2, .int v2), (3, .int v3), (4, .int v4)]) dX12_checkInstance_90 (by decide) rfl ?_
      refine ev_aload_n (j := 1) (x := (some a0)) dX12_checkInstance_92 rfl rfl ?_
      refine ev_get (C := RX12) (T := TX12) (k := 27) inX12 (xE_12 c_1) rfl (by decide) wd_175 (Or.inl rfl) rfl dX12_checkInstance_93 ?_
      refine ev_iload_n (j := 3) (x := v2) dX12_checkInstance_96 rfl rfl ?_
      obtain ⟨a_6, ea_6, h⟩ := x_some_e h
      refine ev_at (st' := [.int v2, va_rf (some a_6)]) rfl (by rw [ea_6]) ?_
      obtain ⟨c_7, h⟩ := x_chk_e h
      refine ev_zald_33 c_7.1 c_7.2 dX12_checkInstance_97 ?_
      by_cases c_8 : (σ.AI a_6 (Int32.toNatClampNeg v2)) = 0
      · rw [if_pos c_8] at h
        refine ev_if_eq (x := (σ.AI a_6 (Int32.toNatClampNeg v2))) (tgt := 116) dX12_checkInstance_98 (by decide) (fun _ => ?_) (fun q9 => absurd c_8 q9)
        refine ev_iload (j := 5) (x := v4) dX12_checkInstance_116 rfl ?_
        refine ev_aload_n (j := 1) (x := (some a0)) dX12_checkInstance_118 rfl rfl ?_
        refine ev_get (C := RX12) (T := TX12) (k := 8) inX12 (xE_12 c_1) rfl (by decide) wd_155 (Or.inl rfl) rfl dX12_checkInstance_119 ?_
        refine ev_iload_n (j := 4) (x := v3) dX12_checkInstance_122 rfl rfl ?_
        obtain ⟨a_9, ea_9, h⟩ := x_some_e h
        refine ev_at (st' := [.int v3, va_rf (some a_9), .int v4]) rfl (by rw [ea_9]) ?_
        obtain ⟨c_10, h⟩ := x_chk_e h
        refine ev_iald_31 c_10.1 c_10.2 dX12_checkInstance_123 ?_
        by_cases c_11 : (σ.AI a_9 (Int32.toNatClampNeg v3)) ≤ v4
        · rw [if_pos c_11] at h
          refine ev_icmp_ge (x := v4) (y := (σ.AI a_9 (Int32.toNatClampNeg v3))) (tgt := 132) dX12_checkInstance_124 (by decide) (fun _ => ?_) (fun q9 => absurd c_11 q9)
          refine ev_iconst (v := -1) dX12_checkInstance_132 (by decide) ?_
          exact ev_sub [1, 2, 3, 4, 5, 0] rfl (ev_X12_checkInstance_p133 hO hP ih h)
        · rw [if_neg c_11] at h
          refine ev_icmp_ge (x := v4) (y := (σ.AI a_9 (Int32.toNatClampNeg v3))) (tgt := 132) dX12_checkInstance_124 (by decide) (fun q9 => absurd q9 c_11) (fun _ => ?_)
          refine ev_iload (j := 5) (x := v4) dX12_checkInstance_127 rfl ?_
          refine ev_goto (tgt := 133) dX12_checkInstance_129 (by decide) ?_
          exact ev_sub [1, 2, 3, 4, 5, 0] rfl (ev_X12_checkInstance_p133 hO hP ih h)
      · rw [if_neg c_8] at h
        refine ev_if_eq (x := (σ.AI a_6 (Int32.toNatClampNeg v2))) (tgt := 116) dX12_checkInstance_98 (by decide) (fun q9 => absurd q9 c_8) (fun _ => ?_)
        refine ev_aload_n (j := 1) (x := (some a0)) dX12_checkInstance_101 rfl rfl ?_
        refine ev_iload_n (j := 4) (x := v3) dX12_checkInstance_102 rfl rfl ?_
        refine ev_aload_n (j := 1) (x := (some a0)) dX12_checkInstance_103 rfl rfl ?_
        refine ev_get (C := RX12) (T := TX12) (k := 31) inX12 (xE_12 c_1) rfl (by decide) wd_179 (Or.inl rfl) rfl dX12_checkInstance_104 ?_
        refine ev_iload (j := 0) (x := v_5) dX12_checkInstance_107 rfl ?_
        obtain ⟨a_12, ea_12, h⟩ := x_some_e h
        refine ev_at (st' := [.int v_5, va_rf (some a_12), .int v3, va_rf (some a0)]) rfl (by rw [ea_12]) ?_
        obtain ⟨c_13, h⟩ := x_chk_e h
        refine ev_iald_31 c_13.1 c_13.2 dX12_checkInstance_109 ?_
        rcases x_bind_e h with ⟨v_14, σ_15, h_16, h⟩ | ⟨E_17, σ_15, h_16, h⟩
        · have z9 := x_call (M := mX12_checkInstance) (M' := mX12_portNamed) (pc := 110) (st := [.int (σ.AI a_12 (Int32.toNatClampNeg v_5)), .int v3, va_rf (some a0)]) (rest := []) (av := [va_rf (some a0), .int v3, .int (σ.AI a_12 (Int32.toNatClampNeg v_5))]) (x_linkV (M := mX12_checkInstance) (M' := mX12_portNamed) (As := [.int v3, .int (σ.AI a_12 (Int32.toNatClampNeg v_5))]) (index := 274) (C := RX12) (T := TX12) (xE_12 c_1) rfl wd_769 wd_770 (wG_in (List.mem_append_left _ (List.mem_of_getElem? (i := 81) rfl)) rfl) xw_X12_portNamed rfl (by decide) rfl rfl dX12_checkInstance_110) (ev_X12_portNamed hO hP h_16) xw_X12_portNamed rfl wd_198 dX12_checkInstance_110 (by decide) (by decide) (by simp [x_cat, x_catI, x_catJ])
          refine x_callR z9 ?_
          refine ev_at (st' := [.int v_14]) rfl rfl ?_
          refine ev_goto (tgt := 133) dX12_checkInstance_113 (by decide) ?_
          exact ev_sub [1, 2, 3, 4, 5, 0] rfl (ev_X12_checkInstance_p133 hO hP ih h)
        · have z9 := x_call (M := mX12_checkInstance) (M' := mX12_portNamed) (pc := 110) (st := [.int (σ.AI a_12 (Int32.toNatClampNeg v_5)), .int v3, va_rf (some a0)]) (rest := []) (av := [va_rf (some a0), .int v3, .int (σ.AI a_12 (Int32.toNatClampNeg v_5))]) (x_linkV (M := mX12_checkInstance) (M' := mX12_portNamed) (As := [.int v3, .int (σ.AI a_12 (Int32.toNatClampNeg v_5))]) (index := 274) (C := RX12) (T := TX12) (xE_12 c_1) rfl wd_769 wd_770 (wG_in (List.mem_append_left _ (List.mem_of_getElem? (i := 81) rfl)) rfl) xw_X12_portNamed rfl (by decide) rfl rfl dX12_checkInstance_110) (ev_X12_portNamed hO hP h_16) xw_X12_portNamed rfl wd_198 dX12_checkInstance_110 (by decide) (by decide) (by simp [x_cat, x_catI, x_catJ])
          cases h
          exact x_callX z9 (evX_out rfl)
set_option maxHeartbeats 4000000 in
set_option maxRecDepth 100000 in
theorem ev_X12_checkInstance_p69 {l : Launch} {G : xG} (hO : x_OK l G) {P : xP} (hP : x_PG P G) {a0 : Nat} {v1 : Int32} {v2 : Int32} {v3 : Int32} {σ σ' : xS} {rr : Unit ⊕ String} (h : dm_X12_checkInstance_p69 P a0 v1 v2 v3 σ = some (rr, σ')) : Ev l G mX12_checkInstance 69 [(0, va_rf (some a0)), (1, .int v1), (2, .int v2), (3, .int v3)] [] σ (xrV rr) σ' := by
  unfold dm_X12_checkInstance_p69 at h
  refine ev_iconst (v := 0) dX12_checkInstance_69 (by decide) ?_
  refine ev_istore (i := 4) (lv' := [(4, .int 0), (0, va_rf (some a0)), (1, .int v1), (2, .int v2), (3, .int v3)]) dX12_checkInstance_70 (by decide) rfl ?_
  exact ev_sub [1, 2, 3, 4, 0] rfl (ev_X12_checkInstance_L72 hO hP P.N h)
set_option maxHeartbeats 4000000 in
set_option maxRecDepth 100000 in
theorem ev_X12_checkInstance_p28 {l : Launch} {G : xG} (hO : x_OK l G) {P : xP} (hP : x_PG P G) {a0 : Nat} {v1 : Int32} {v2 : Int32} {s0 : Int32} {σ σ' : xS} {rr : Unit ⊕ String} (h : dm_X12_checkInstance_p28 P a0 v1 v2 s0 σ = some (rr, σ')) : Ev l G mX12_checkInstance 28 [(0, va_rf (some a0)), (1, .int v1), (2, .int v2)] [.int s0] σ (xrV rr) σ' := by
  unfold dm_X12_checkInstance_p28 at h
  refine ev_istore_n (i := 3) (lv' := [(3, .int s0), (0, va_rf (some a0)), (1, .int v1), (2, .int v2)]) dX12_checkInstance_28 rfl (by decide) rfl ?_
  refine ev_iload_n (j := 0) (x := s0) dX12_checkInstance_29 rfl rfl ?_
  refine ev_iconst (v := -1) dX12_checkInstance_30 (by decide) ?_
  by_cases c_1 : s0 = (-1)
  · rw [if_pos c_1] at h
    refine ev_icmp_ne (x := s0) (y := (-1)) (tgt := 35) dX12_checkInstance_31 (by decide) (fun q9 => absurd c_1 q9) (fun _ => ?_)
    cases h
    exact ev_vret rfl dX12_checkInstance_34
  · rw [if_neg c_1] at h
    refine ev_icmp_ne (x := s0) (y := (-1)) (tgt := 35) dX12_checkInstance_31 (by decide) (fun _ => ?_) (fun q9 => absurd q9 c_1)
    refine ev_aload_n (j := 1) (x := (some a0)) dX12_checkInstance_35 rfl rfl ?_
    obtain ⟨c_2, h⟩ := x_chk_e h
    refine ev_get (C := RX12) (T := TX12) (k := 27) inX12 (xE_12 c_2) rfl (by decide) wd_175 (Or.inl rfl) rfl dX12_checkInstance_36 ?_
    refine ev_iload_n (j := 3) (x := v2) dX12_checkInstance_39 rfl rfl ?_
    obtain ⟨a_3, ea_3, h⟩ := x_some_e h
    refine ev_at (st' := [.int v2, va_rf (some a_3)]) rfl (by rw [ea_3]) ?_
    obtain ⟨c_4, h⟩ := x_chk_e h
    refine ev_zald_33 c_4.1 c_4.2 dX12_checkInstance_40 ?_
    by_cases c_5 : (σ.AI a_3 (Int32.toNatClampNeg v2)) = 0
    · rw [if_pos c_5] at h
      refine ev_if_ne (x := (σ.AI a_3 (Int32.toNatClampNeg v2))) (tgt := 69) dX12_checkInstance_41 (by decide) (fun q9 => absurd c_5 q9) (fun _ => ?_)
      refine ev_aload_n (j := 1) (x := (some a0)) dX12_checkInstance_44 rfl rfl ?_
      refine ev_get (C := RX12) (T := TX12) (k := 29) inX12 (xE_12 c_2) rfl (by decide) wd_177 (Or.inl rfl) rfl dX12_checkInstance_45 ?_
      refine ev_iload_n (j := 3) (x := v2) dX12_checkInstance_48 rfl rfl ?_
      obtain ⟨a_6, ea_6, h⟩ := x_some_e h
      refine ev_at (st' := [.int v2, va_rf (some a_6)]) rfl (by rw [ea_6]) ?_
      obtain ⟨c_7, h⟩ := x_chk_e h
      refine ev_iald_31 c_7.1 c_7.2 dX12_checkInstance_49 ?_
      refine ev_aload_n (j := 1) (x := (some a0)) dX12_checkInstance_50 rfl rfl ?_
      refine ev_get (C := RX12) (T := TX12) (k := 8) inX12 (xE_12 c_2) rfl (by decide) wd_155 (Or.inl rfl) rfl dX12_checkInstance_51 ?_
      refine ev_iload_n (j := 0) (x := s0) dX12_checkInstance_54 rfl rfl ?_
      obtain ⟨a_8, ea_8, h⟩ := x_some_e h
      refine ev_at (st' := [.int s0, va_rf (some a_8), .int (σ.AI a_6 (Int32.toNatClampNeg v2))]) rfl (by rw [ea_8]) ?_
      obtain ⟨c_9, h⟩ := x_chk_e h
      refine ev_iald_31 c_9.1 c_9.2 dX12_checkInstance_55 ?_
      by_cases c_10 : (σ.AI a_8 (Int32.toNatClampNeg s0)) ≤ (σ.AI a_6 (Int32.toNatClampNeg v2))
      · rw [if_pos c_10] at h
        refine ev_icmp_ge (x := (σ.AI a_6 (Int32.toNatClampNeg v2))) (y := (σ.AI a_8 (Int32.toNatClampNeg s0))) (tgt := 69) dX12_checkInstance_56 (by decide) (fun _ => ?_) (fun q9 => absurd c_10 q9)
        exact ev_sub [1, 2, 3, 0] rfl (ev_X12_checkInstance_p69 hO hP h)
      · rw [if_neg c_10] at h
        refine ev_icmp_ge (x := (σ.AI a_6 (Int32.toNatClampNeg v2))) (y := (σ.AI a_8 (Int32.toNatClampNeg s0))) (tgt := 69) dX12_checkInstance_56 (by decide) (fun q9 => absurd q9 c_10) (fun _ => ?_)
        refine ev_aload_n (j := 1) (x := (some a0)) dX12_checkInstance_59 rfl rfl ?_
        refine ev_aload_n (j := 1) (x := (some a0)) dX12_checkInstance_60 rfl rfl ?_
        refine ev_get (C := RX12) (T := TX12) (k := 26) inX12 (xE_12 c_2) rfl (by decide) wd_174 (Or.inl rfl) rfl dX12_checkInstance_61 ?_
        refine ev_iload_n (j := 3) (x := v2) dX12_checkInstance_64 rfl rfl ?_
        obtain ⟨a_11, ea_11, h⟩ := x_some_e h
        refine ev_at (st' := [.int v2, va_rf (some a_11), va_rf (some a0)]) rfl (by rw [ea_11]) ?_
        obtain ⟨c_12, h⟩ := x_chk_e h
        refine ev_iald_31 c_12.1 c_12.2 dX12_checkInstance_65 ?_
        rcases x_bind_e h with ⟨v_13, σ_14, h_15, h⟩ | ⟨E_16, σ_14, h_15, h⟩
        · have z9 := x_call (M := mX12_checkInstance) (M' := mX12_late) (pc := 66) (st := [.int (σ.AI a_11 (Int32.toNatClampNeg v2)), va_rf (some a0)]) (rest := []) (av := [va_rf (some a0), .int (σ.AI a_11 (Int32.toNatClampNeg v2))]) (x_linkV (M := mX12_checkInstance) (M' := mX12_late) (As := [.int (σ.AI a_11 (Int32.toNatClampNeg v2))]) (index := 271) (C := RX12) (T := TX12) (xE_12 c_2) rfl wd_766 wd_767 (wG_in (List.mem_append_left _ (List.mem_of_getElem? (i := 79) rfl)) rfl) xw_X12_late rfl (by decide) rfl rfl dX12_checkInstance_66) (ev_X12_late hO hP h_15) xw_X12_late rfl wd_198 dX12_checkInstance_66 (by decide) (by decide) (by simp [x_cat, x_catI, x_catJ])
          refine x_callR z9 ?_
          refine ev_at (st' := []) rfl rfl ?_
          exact ev_sub [1, 2, 3, 0] rfl (ev_X12_checkInstance_p69 hO hP h)
        · have z9 := x_call (M := mX12_checkInstance) (M' := mX12_late) (pc := 66) (st := [.int (σ.AI a_11 (Int32.toNatClampNeg v2)), va_rf (some a0)]) (rest := []) (av := [va_rf (some a0), .int (σ.AI a_11 (Int32.toNatClampNeg v2))]) (x_linkV (M := mX12_checkInstance) (M' := mX12_late) (As := [.int (σ.AI a_11 (Int32.toNatClampNeg v2))]) (index := 271) (C := RX12) (T := TX12) (xE_12 c_2) rfl wd_766 wd_767 (wG_in (List.mem_append_left _ (List.mem_of_getElem? (i := 79) rfl)) rfl) xw_X12_late rfl (by decide) rfl rfl dX12_checkInstance_66) (ev_X12_late hO hP h_15) xw_X12_late rfl wd_198 dX12_checkInstance_66 (by decide) (by decide) (by simp [x_cat, x_catI, x_catJ])
          cases h
          exact x_callX z9 (evX_out rfl)
    · rw [if_neg c_5] at h
      refine ev_if_ne (x := (σ.AI a_3 (Int32.toNatClampNeg v2))) (tgt := 69) dX12_checkInstance_41 (by decide) (fun _ => ?_) (fun q9 => absurd q9 c_5)
      exact ev_sub [1, 2, 3, 0] rfl (ev_X12_checkInstance_p69 hO hP h)
set_option maxHeartbeats 4000000 in
set_option maxRecDepth 100000 in
theorem ev_X12_checkInstance {l : Launch} {G : xG} (hO : x_OK l G) {P : xP} (hP : x_PG P G) {a0 : Nat} {v1 : Int32} {v2 : Int32} {σ σ' : xS} {rr : Unit ⊕ String} (h : dm_X12_checkInstance P a0 v1 v2 σ = some (rr, σ')) : EvM l G mX12_checkInstance [va_rf (some a0), .int v1, .int v2] σ (xrV rr) σ' := by
  unfold dm_X12_checkInstance at h
  refine evM_of hO (by decide +kernel) (x_lenI (by simp [x_cat, x_catI, x_catJ, mX12_checkInstance, xM.maxL])) ?_
  refine Eq.mp (congrArg (fun z => Ev l G mX12_checkInstance 0 z [] σ (xrV rr) σ') (show [(0, va_rf (some a0)), (1, .int v1), (2, .int v2)] = lv_args 0 [va_rf (some a0), .int v1, .int v2] by simp [lv_args, x_cat, x_catI, x_catJ])) ?_
  refine ev_aload_n (j := 0) (x := (some a0)) dX12_checkInstance_0 rfl rfl ?_
  obtain ⟨c_1, h⟩ := x_chk_e h
  refine ev_get (C := RX12) (T := TX12) (k := 28) inX12 (xE_12 c_1) rfl (by decide) wd_176 (Or.inl rfl) rfl dX12_checkInstance_1 ?_
  refine ev_iload_n (j := 2) (x := v2) dX12_checkInstance_4 rfl rfl ?_
  obtain ⟨a_2, ea_2, h⟩ := x_some_e h
  refine ev_at (st' := [.int v2, va_rf (some a_2)]) rfl (by rw [ea_2]) ?_
  obtain ⟨c_3, h⟩ := x_chk_e h
  refine ev_iald_31 c_3.1 c_3.2 dX12_checkInstance_5 ?_
  refine ev_iconst (v := -1) dX12_checkInstance_6 (by decide) ?_
  by_cases c_4 : (σ.AI a_2 (Int32.toNatClampNeg v2)) = (-1)
  · rw [if_pos c_4] at h
    refine ev_icmp_ne (x := (σ.AI a_2 (Int32.toNatClampNeg v2))) (y := (-1)) (tgt := 14) dX12_checkInstance_7 (by decide) (fun q9 => absurd c_4 q9) (fun _ => ?_)
    refine ev_iconst (v := -1) dX12_checkInstance_10 (by decide) ?_
    refine ev_goto (tgt := 28) dX12_checkInstance_11 (by decide) ?_
    exact ev_sub [0, 1, 2] rfl (ev_X12_checkInstance_p28 hO hP h)
  · rw [if_neg c_4] at h
    refine ev_icmp_ne (x := (σ.AI a_2 (Int32.toNatClampNeg v2))) (y := (-1)) (tgt := 14) dX12_checkInstance_7 (by decide) (fun _ => ?_) (fun q9 => absurd q9 c_4)
    refine ev_bipush (v := 8) dX12_checkInstance_14 (by decide) ?_
    refine ev_aload_n (j := 0) (x := (some a0)) dX12_checkInstance_16 rfl rfl ?_
    refine ev_get (C := RX12) (T := TX12) (k := 40) inX12 (xE_12 c_1) rfl (by decide) wd_638 (Or.inl rfl) rfl dX12_checkInstance_17 ?_
    refine ev_imul (x := 8) (y := (σ.I 1140 a0)) dX12_checkInstance_20 ?_
    refine ev_aload_n (j := 0) (x := (some a0)) dX12_checkInstance_21 rfl rfl ?_
    refine ev_get (C := RX12) (T := TX12) (k := 28) inX12 (xE_12 c_1) rfl (by decide) wd_176 (Or.inl rfl) rfl dX12_checkInstance_22 ?_
    refine ev_iload_n (j := 2) (x := v2) dX12_checkInstance_25 rfl rfl ?_
    refine ev_at (st' := [.int v2, va_rf (some a_2), .int (8 * (σ.I 1140 a0))]) rfl (by rw [ea_2]) ?_
    refine ev_iald_31 c_3.1 c_3.2 dX12_checkInstance_26 ?_
    refine ev_iadd (x := (8 * (σ.I 1140 a0))) (y := (σ.AI a_2 (Int32.toNatClampNeg v2))) dX12_checkInstance_27 ?_
    exact ev_sub [0, 1, 2] rfl (ev_X12_checkInstance_p28 hO hP h)
set_option maxHeartbeats 4000000 in
set_option maxRecDepth 100000 in
theorem ev_X12_checkAll_L27 {l : Launch} {G : xG} (hO : x_OK l G) {P : xP} (hP : x_PG P G) {a0 : Nat} {k2 : Int32 → xS → xO Unit} (hk2 : ∀ {v1 : Int32} {σ σ' : xS} {rr : Unit ⊕ String}, k2 v1 σ = some (rr, σ') → Ev l G mX12_checkAll 2 [(0, va_rf (some a0)), (1, .int v1)] [] σ (xrV rr) σ') : ∀ (n : Nat) {v1 : Int32} {v2 : Int32} {v3 : Int32} {σ σ' : xS} {rr : Unit ⊕ String}, dm_X12_checkAll_L27 P k2 a0 n v1 v2 v3 σ = some (rr, σ') → Ev l G mX12_checkAll 27 [(0, va_rf (some a0)), (1, .int v1), (2, .int v2), (3, .int v3)] [] σ (xrV rr) σ' := by
  intro n
  induction n with
  | zero => intro v1 v2 v3 σ σ' rr h; cases h
  | succ n ih =>
    intro v1 v2 v3 σ σ' rr h
    rw [dm_X12_checkAll_L27] at h
    refine ev_iload_n (j := 3) (x := v3) dX12_checkAll_27 rfl rfl ?_
    refine ev_aload_n (j := 0) (x := (some a0)) dX12_checkAll_28 rfl rfl ?_
    obtain ⟨c_1, h⟩ := x_chk_e h
    refine ev_get (C := RX12) (T := TX12) (k := 24) inX12 (xE_12 c_1) rfl (by decide) wd_172 (Or.inl rfl) rfl dX12_checkAll_29 ?_
    refine ev_iload_n (j := 2) (x := v2) dX12_checkAll_32 rfl rfl ?_
    obtain ⟨a_2, ea_2, h⟩ := x_some_e h
    refine ev_at (st' := [.int v2, va_rf (some a_2), .int v3]) rfl (by rw [ea_2]) ?_
    obtain ⟨c_3, h⟩ := x_chk_e h
    refine ev_iald_31 c_3.1 c_3.2 dX12_checkAll_33 ?_
    by_cases c_4 : (σ.AI a_2 (Int32.toNatClampNeg v2)) ≤ v3
    · rw [if_pos c_4] at h
      refine ev_icmp_ge (x := v3) (y := (σ.AI a_2 (Int32.toNatClampNeg v2))) (tgt := 69) dX12_checkAll_34 (by decide) (fun _ => ?_) (fun q9 => absurd c_4 q9)
      obtain ⟨v_5, ev_5, h⟩ := x_let_e h
      refine ev_iinc (j := 1) (x := v1) (v := v_5) (lv' := [(1, .int v_5), (0, va_rf (some a0)), (2, .int v2), (3, .int v3)]) dX12_checkAll_69 rfl (by rw [ev_5]; rfl) (by decide) (by simp [x_cat, x_catI, x_catJ]) ?_
      refine ev_goto (tgt := 2) dX12_checkAll_72 (by decide) ?_
      exact ev_sub [1, 0] rfl (hk2 h)
    · rw [if_neg c_4] at h
      refine ev_icmp_ge (x := v3) (y := (σ.AI a_2 (Int32.toNatClampNeg v2))) (tgt := 69) dX12_checkAll_34 (by decide) (fun q9 => absurd q9 c_4) (fun _ => ?_)
      refine ev_aload_n (j := 0) (x := (some a0)) dX12_checkAll_37 rfl rfl ?_
      refine ev_get (C := RX12) (T := TX12) (k := 28) inX12 (xE_12 c_1) rfl (by decide) wd_176 (Or.inl rfl) rfl dX12_checkAll_38 ?_
      refine ev_bipush (v := 12) dX12_checkAll_41 (by decide) ?_
      refine ev_iload_n (j := 2) (x := v2) dX12_checkAll_43 rfl rfl ?_
      refine ev_imul (x := 12) (y := v2) dX12_checkAll_44 ?_
      refine ev_iload_n (j := 3) (x := v3) dX12_checkAll_45 rfl rfl ?_
      refine ev_iadd (x := (12 * v2)) (y := v3) dX12_checkAll_46 ?_
      refine ev_aload_n (j := 0) (x := (some a0)) dX12_checkAll_47 rfl rfl ?_
      refine ev_aload_n (j := 0) (x := (some a0)) dX12_checkAll_48 rfl rfl ?_
      refine ev_get (C := RX12) (T := TX12) (k := 25) inX12 (xE_12 c_1) rfl (by decide) wd_173 (Or.inl rfl) rfl dX12_checkAll_49 ?_
      refine ev_bipush (v := 12) dX12_checkAll_52 (by decide) ?_
      refine ev_iload_n (j := 2) (x := v2) dX12_checkAll_54 rfl rfl ?_
      refine ev_imul (x := 12) (y := v2) dX12_checkAll_55 ?_
      refine ev_iload_n (j := 3) (x := v3) dX12_checkAll_56 rfl rfl ?_
      refine ev_iadd (x := (12 * v2)) (y := v3) dX12_checkAll_57 ?_
      obtain ⟨a_6, ea_6, h⟩ := x_some_e h
      refine ev_at (st' := [.int ((12 * v2) + v3), va_rf (some a_6), va_rf (some a0), .int ((12 * v2) + v3), va_rf (σ.R 1128 a0)]) rfl (by rw [ea_6]) ?_
      obtain ⟨c_7, h⟩ := x_chk_e h
      refine ev_iald_31 c_7.1 c_7.2 dX12_checkAll_58 ?_
      rcases x_bind_e h with ⟨v_8, σ_9, h_10, h⟩ | ⟨E_15, σ_9, h_10, h⟩
      · have z9 := x_call (M := mX12_checkAll) (M' := mX12_moduleNamed) (pc := 59) (st := [.int (σ.AI a_6 (Int32.toNatClampNeg ((12 * v2) + v3))), va_rf (some a0), .int ((12 * v2) + v3), va_rf (σ.R 1128 a0)]) (rest := [.int ((12 * v2) + v3), va_rf (σ.R 1128 a0)]) (av := [va_rf (some a0), .int (σ.AI a_6 (Int32.toNatClampNeg ((12 * v2) + v3)))]) (x_linkV (M := mX12_checkAll) (M' := mX12_moduleNamed) (As := [.int (σ.AI a_6 (Int32.toNatClampNeg ((12 * v2) + v3)))]) (index := 281) (C := RX12) (T := TX12) (xE_12 c_1) rfl wd_778 wd_779 (wG_in (List.mem_append_left _ (List.mem_of_getElem? (i := 77) rfl)) rfl) xw_X12_moduleNamed rfl (by decide) rfl rfl dX12_checkAll_59) (ev_X12_moduleNamed hO hP h_10) xw_X12_moduleNamed rfl wd_198 dX12_checkAll_59 (by decide) (by decide) (by simp [x_cat, x_catI, x_catJ])
        refine x_callR z9 ?_
        refine ev_at (st' := [.int v_8, .int ((12 * v2) + v3), va_rf (σ.R 1128 a0)]) rfl rfl ?_
        obtain ⟨a_11, ea_11, h⟩ := x_some_e h
        refine ev_at (st' := [.int v_8, .int ((12 * v2) + v3), va_rf (some a_11)]) rfl (by rw [ea_11]) ?_
        obtain ⟨c_12, h⟩ := x_chk_e h
        obtain ⟨σ_13, eσ_13, h⟩ := x_let_e h
        refine ev_iast_31 c_12.1 c_12.2.1 (hP.2.2.2.1 ▸ c_12.2.2) dX12_checkAll_62 (eσ_13 ▸ ?_)
        obtain ⟨v_14, ev_14, h⟩ := x_let_e h
        refine ev_iinc (j := 3) (x := v3) (v := v_14) (lv' := [(3, .int v_14), (0, va_rf (some a0)), (1, .int v1), (2, .int v2)]) dX12_checkAll_63 rfl (by rw [ev_14]; rfl) (by decide) rfl ?_
        refine ev_goto (tgt := 27) dX12_checkAll_66 (by decide) ?_
        exact ev_sub [1, 2, 3, 0] rfl (ih h)
      · have z9 := x_call (M := mX12_checkAll) (M' := mX12_moduleNamed) (pc := 59) (st := [.int (σ.AI a_6 (Int32.toNatClampNeg ((12 * v2) + v3))), va_rf (some a0), .int ((12 * v2) + v3), va_rf (σ.R 1128 a0)]) (rest := [.int ((12 * v2) + v3), va_rf (σ.R 1128 a0)]) (av := [va_rf (some a0), .int (σ.AI a_6 (Int32.toNatClampNeg ((12 * v2) + v3)))]) (x_linkV (M := mX12_checkAll) (M' := mX12_moduleNamed) (As := [.int (σ.AI a_6 (Int32.toNatClampNeg ((12 * v2) + v3)))]) (index := 281) (C := RX12) (T := TX12) (xE_12 c_1) rfl wd_778 wd_779 (wG_in (List.mem_append_left _ (List.mem_of_getElem? (i := 77) rfl)) rfl) xw_X12_moduleNamed rfl (by decide) rfl rfl dX12_checkAll_59) (ev_X12_moduleNamed hO hP h_10) xw_X12_moduleNamed rfl wd_198 dX12_checkAll_59 (by decide) (by decide) (by simp [x_cat, x_catI, x_catJ])
        cases h
        exact x_callX z9 (evX_out rfl)
set_option maxHeartbeats 4000000 in
set_option maxRecDepth 100000 in
theorem ev_X12_checkAll_p170 {l : Launch} {G : xG} (hO : x_OK l G) {P : xP} (hP : x_PG P G) {a0 : Nat} {k102 : Int32 → Int32 → Int32 → xS → xO Unit} {k77 : Int32 → xS → xO Unit} (hk102 : ∀ {v1 : Int32} {v2 : Int32} {v3 : Int32} {σ σ' : xS} {rr : Unit ⊕ String}, k102 v1 v2 v3 σ = some (rr, σ') → Ev l G mX12_checkAll 102 [(0, va_rf (some a0)), (1, .int v1), (2, .int v2), (3, .int v3)] [] σ (xrV rr) σ') (hk77 : ∀ {v1 : Int32} {σ σ' : xS} {rr : Unit ⊕ String}, k77 v1 σ = some (rr, σ') → Ev l G mX12_checkAll 77 [(0, va_rf (some a0)), (1, .int v1)] [] σ (xrV rr) σ') {v1 : Int32} {v2 : Int32} {v3 : Int32} {σ σ' : xS} {rr : Unit ⊕ String} (h : dm_X12_checkAll_p170 P k102 k77 a0 v1 v2 v3 σ = some (rr, σ')) : Ev l G mX12_checkAll 170 [(0, va_rf (some a0)), (1, .int v1), (2, .int v2), (3, .int v3)] [] σ (xrV rr) σ' := by
  unfold dm_X12_checkAll_p170 at h
  obtain ⟨v_1, ev_1, h⟩ := x_let_e h
  refine ev_iinc (j := 3) (x := v3) (v := v_1) (lv' := [(3, .int v_1), (0, va_rf (some a0)), (1, .int v1), (2, .int v2)]) dX12_checkAll_170 rfl (by rw [ev_1]; rfl) (by decide) rfl ?_
  refine ev_goto (tgt := 102) dX12_checkAll_173 (by decide) ?_
  exact ev_sub [1, 2, 3, 0] rfl (hk102 h)
set_option maxHeartbeats 4000000 in
set_option maxRecDepth 100000 in
theorem ev_X12_checkAll_L178 {l : Launch} {G : xG} (hO : x_OK l G) {P : xP} (hP : x_PG P G) {a0 : Nat} {k77 : Int32 → xS → xO Unit} (hk77 : ∀ {v1 : Int32} {σ σ' : xS} {rr : Unit ⊕ String}, k77 v1 σ = some (rr, σ') → Ev l G mX12_checkAll 77 [(0, va_rf (some a0)), (1, .int v1)] [] σ (xrV rr) σ') : ∀ (n : Nat) {v1 : Int32} {v2 : Int32} {v3 : Int32} {σ σ' : xS} {rr : Unit ⊕ String}, dm_X12_checkAll_L178 P k77 a0 n v1 v2 v3 σ = some (rr, σ') → Ev l G mX12_checkAll 178 [(0, va_rf (some a0)), (1, .int v1), (2, .int v2), (3, .int v3)] [] σ (xrV rr) σ' := by
  intro n
  induction n with
  | zero => intro v1 v2 v3 σ σ' rr h; cases h
  | succ n ih =>
    intro v1 v2 v3 σ σ' rr h
    rw [dm_X12_checkAll_L178] at h
    refine ev_iload_n (j := 3) (x := v3) dX12_checkAll_178 rfl rfl ?_
    refine ev_aload_n (j := 0) (x := (some a0)) dX12_checkAll_179 rfl rfl ?_
    obtain ⟨c_1, h⟩ := x_chk_e h
    refine ev_get (C := RX12) (T := TX12) (k := 24) inX12 (xE_12 c_1) rfl (by decide) wd_172 (Or.inl rfl) rfl dX12_checkAll_180 ?_
    refine ev_iload_n (j := 2) (x := v2) dX12_checkAll_183 rfl rfl ?_
    obtain ⟨a_2, ea_2, h⟩ := x_some_e h
    refine ev_at (st' := [.int v2, va_rf (some a_2), .int v3]) rfl (by rw [ea_2]) ?_
    obtain ⟨c_3, h⟩ := x_chk_e h
    refine ev_iald_31 c_3.1 c_3.2 dX12_checkAll_184 ?_
    by_cases c_4 : (σ.AI a_2 (Int32.toNatClampNeg v2)) ≤ v3
    · rw [if_pos c_4] at h
      refine ev_icmp_ge (x := v3) (y := (σ.AI a_2 (Int32.toNatClampNeg v2))) (tgt := 205) dX12_checkAll_185 (by decide) (fun _ => ?_) (fun q9 => absurd c_4 q9)
      obtain ⟨v_5, ev_5, h⟩ := x_let_e h
      refine ev_iinc (j := 1) (x := v1) (v := v_5) (lv' := [(1, .int v_5), (0, va_rf (some a0)), (2, .int v2), (3, .int v3)]) dX12_checkAll_205 rfl (by rw [ev_5]; rfl) (by decide) (by simp [x_cat, x_catI, x_catJ]) ?_
      refine ev_goto (tgt := 77) dX12_checkAll_208 (by decide) ?_
      exact ev_sub [1, 0] rfl (hk77 h)
    · rw [if_neg c_4] at h
      refine ev_icmp_ge (x := v3) (y := (σ.AI a_2 (Int32.toNatClampNeg v2))) (tgt := 205) dX12_checkAll_185 (by decide) (fun q9 => absurd q9 c_4) (fun _ => ?_)
      refine ev_aload_n (j := 0) (x := (some a0)) dX12_checkAll_188 rfl rfl ?_
      refine ev_iload_n (j := 2) (x := v2) dX12_checkAll_189 rfl rfl ?_
      refine ev_bipush (v := 12) dX12_checkAll_190 (by decide) ?_
      refine ev_iload_n (j := 2) (x := v2) dX12_checkAll_192 rfl rfl ?_
      refine ev_imul (x := 12) (y := v2) dX12_checkAll_193 ?_
      refine ev_iload_n (j := 3) (x := v3) dX12_checkAll_194 rfl rfl ?_
      refine ev_iadd (x := (12 * v2)) (y := v3) dX12_checkAll_195 ?_
      rcases x_bind_e h with ⟨v_6, σ_7, h_8, h⟩ | ⟨E_10, σ_7, h_8, h⟩
      · have z9 := x_call (M := mX12_checkAll) (M' := mX12_checkInstance) (pc := 196) (st := [.int ((12 * v2) + v3), .int v2, va_rf (some a0)]) (rest := []) (av := [va_rf (some a0), .int v2, .int ((12 * v2) + v3)]) (x_linkV (M := mX12_checkAll) (M' := mX12_checkInstance) (As := [.int v2, .int ((12 * v2) + v3)]) (index := 284) (C := RX12) (T := TX12) (xE_12 c_1) rfl wd_775 wd_776 (wG_in (List.mem_append_left _ (List.mem_of_getElem? (i := 80) rfl)) rfl) xw_X12_checkInstance rfl (by decide) rfl rfl dX12_checkAll_196) (ev_X12_checkInstance hO hP h_8) xw_X12_checkInstance rfl wd_198 dX12_checkAll_196 (by decide) (by decide) (by simp [x_cat, x_catI, x_catJ])
        refine x_callR z9 ?_
        refine ev_at (st' := []) rfl rfl ?_
        obtain ⟨v_9, ev_9, h⟩ := x_let_e h
        refine ev_iinc (j := 3) (x := v3) (v := v_9) (lv' := [(3, .int v_9), (0, va_rf (some a0)), (1, .int v1), (2, .int v2)]) dX12_checkAll_199 rfl (by rw [ev_9]; rfl) (by decide) rfl ?_
        refine ev_goto (tgt := 178) dX12_checkAll_202 (by decide) ?_
        exact ev_sub [1, 2, 3, 0] rfl (ih h)
      · have z9 := x_call (M := mX12_checkAll) (M' := mX12_checkInstance) (pc := 196) (st := [.int ((12 * v2) + v3), .int v2, va_rf (some a0)]) (rest := []) (av := [va_rf (some a0), .int v2, .int ((12 * v2) + v3)]) (x_linkV (M := mX12_checkAll) (M' := mX12_checkInstance) (As := [.int v2, .int ((12 * v2) + v3)]) (index := 284) (C := RX12) (T := TX12) (xE_12 c_1) rfl wd_775 wd_776 (wG_in (List.mem_append_left _ (List.mem_of_getElem? (i := 80) rfl)) rfl) xw_X12_checkInstance rfl (by decide) rfl rfl dX12_checkAll_196) (ev_X12_checkInstance hO hP h_8) xw_X12_checkInstance rfl wd_198 dX12_checkAll_196 (by decide) (by decide) (by simp [x_cat, x_catI, x_catJ])
        cases h
        exact x_callX z9 (evX_out rfl)
set_option maxHeartbeats 4000000 in
set_option maxRecDepth 100000 in
theorem ev_X12_checkAll_L102 {l : Launch} {G : xG} (hO : x_OK l G) {P : xP} (hP : x_PG P G) {a0 : Nat} {k77 : Int32 → xS → xO Unit} (hk77 : ∀ {v1 : Int32} {σ σ' : xS} {rr : Unit ⊕ String}, k77 v1 σ = some (rr, σ') → Ev l G mX12_checkAll 77 [(0, va_rf (some a0)), (1, .int v1)] [] σ (xrV rr) σ') : ∀ (n : Nat) {v1 : Int32} {v2 : Int32} {v3 : Int32} {σ σ' : xS} {rr : Unit ⊕ String}, dm_X12_checkAll_L102 P k77 a0 n v1 v2 v3 σ = some (rr, σ') → Ev l G mX12_checkAll 102 [(0, va_rf (some a0)), (1, .int v1), (2, .int v2), (3, .int v3)] [] σ (xrV rr) σ' := by
  intro n
  induction n with
  | zero => intro v1 v2 v3 σ σ' rr h; cases h
  | succ n ih =>
    intro v1 v2 v3 σ σ' rr h
    rw [dm_X12_checkAll_L102] at h
    refine ev_iload_n (j := 3) (x := v3) dX12_checkAll_102 rfl rfl ?_
    refine ev_aload_n (j := 0) (x := (some a0)) dX12_checkAll_103 rfl rfl ?_
    obtain ⟨c_1, h⟩ := x_chk_e h
    refine ev_get (C := RX12) (T := TX12) (k := 21) inX12 (xE_12 c_1) rfl (by decide) wd_169 (Or.inl rfl) rfl dX12_checkAll_104 ?_
    refine ev_iload_n (j := 2) (x := v2) dX12_checkAll_107 rfl rfl ?_
    obtain ⟨a_2, ea_2, h⟩ := x_some_e h
    refine ev_at (st' := [.int v2, va_rf (some a_2), .int v3]) rfl (by rw [ea_2]) ?_
    obtain ⟨c_3, h⟩ := x_chk_e h
    refine ev_iald_31 c_3.1 c_3.2 dX12_checkAll_108 ?_
    by_cases c_4 : (σ.AI a_2 (Int32.toNatClampNeg v2)) ≤ v3
    · rw [if_pos c_4] at h
      refine ev_icmp_ge (x := v3) (y := (σ.AI a_2 (Int32.toNatClampNeg v2))) (tgt := 176) dX12_checkAll_109 (by decide) (fun _ => ?_) (fun q9 => absurd c_4 q9)
      refine ev_iconst (v := 0) dX12_checkAll_176 (by decide) ?_
      refine ev_istore_n (i := 3) (lv' := [(3, .int 0), (0, va_rf (some a0)), (1, .int v1), (2, .int v2)]) dX12_checkAll_177 rfl (by decide) rfl ?_
      exact ev_sub [1, 2, 3, 0] rfl (ev_X12_checkAll_L178 hO hP hk77 P.N h)
    · rw [if_neg c_4] at h
      refine ev_icmp_ge (x := v3) (y := (σ.AI a_2 (Int32.toNatClampNeg v2))) (tgt := 176) dX12_checkAll_109 (by decide) (fun q9 => absurd q9 c_4) (fun _ => ?_)
      refine ev_aload_n (j := 0) (x := (some a0)) dX12_checkAll_112 rfl rfl ?_
      refine ev_get (C := RX12) (T := TX12) (k := 23) inX12 (xE_12 c_1) rfl (by decide) wd_171 (Or.inl rfl) rfl dX12_checkAll_113 ?_
      refine ev_bipush (v := 8) dX12_checkAll_116 (by decide) ?_
      refine ev_iload_n (j := 2) (x := v2) dX12_checkAll_118 rfl rfl ?_
      refine ev_imul (x := 8) (y := v2) dX12_checkAll_119 ?_
      refine ev_iload_n (j := 3) (x := v3) dX12_checkAll_120 rfl rfl ?_
      refine ev_iadd (x := (8 * v2)) (y := v3) dX12_checkAll_121 ?_
      obtain ⟨a_5, ea_5, h⟩ := x_some_e h
      refine ev_at (st' := [.int ((8 * v2) + v3), va_rf (some a_5)]) rfl (by rw [ea_5]) ?_
      obtain ⟨c_6, h⟩ := x_chk_e h
      refine ev_iald_31 c_6.1 c_6.2 dX12_checkAll_122 ?_
      obtain ⟨v_7, ev_7, h⟩ := x_let_e h
      rw [← ev_7]
      refine ev_istore (i := 4) (lv' := [(4, .int v_7), (0, va_rf (some a0)), (1, .int v1), (2, .int v2), (3, .int v3)]) dX12_checkAll_123 (by decide) rfl ?_
      refine ev_aload_n (j := 1) (x := (some a0)) dX12_checkAll_125 rfl rfl ?_
      refine ev_aload_n (j := 1) (x := (some a0)) dX12_checkAll_126 rfl rfl ?_
      refine ev_get (C := RX12) (T := TX12) (k := 40) inX12 (xE_12 c_1) rfl (by decide) wd_638 (Or.inl rfl) rfl dX12_checkAll_127 ?_
      refine ev_iload_n (j := 3) (x := v2) dX12_checkAll_130 rfl rfl ?_
      refine ev_aload_n (j := 1) (x := (some a0)) dX12_checkAll_131 rfl rfl ?_
      refine ev_get (C := RX12) (T := TX12) (k := 22) inX12 (xE_12 c_1) rfl (by decide) wd_170 (Or.inl rfl) rfl dX12_checkAll_132 ?_
      refine ev_bipush (v := 8) dX12_checkAll_135 (by decide) ?_
      refine ev_iload_n (j := 3) (x := v2) dX12_checkAll_137 rfl rfl ?_
      refine ev_imul (x := 8) (y := v2) dX12_checkAll_138 ?_
      refine ev_iload_n (j := 4) (x := v3) dX12_checkAll_139 rfl rfl ?_
      refine ev_iadd (x := (8 * v2)) (y := v3) dX12_checkAll_140 ?_
      obtain ⟨a_8, ea_8, h⟩ := x_some_e h
      refine ev_at (st' := [.int ((8 * v2) + v3), va_rf (some a_8), .int v2, .int (σ.I 1140 a0), va_rf (some a0)]) rfl (by rw [ea_8]) ?_
      obtain ⟨c_9, h⟩ := x_chk_e h
      refine ev_iald_31 c_9.1 c_9.2 dX12_checkAll_141 ?_
      rcases x_bind_e h with ⟨v_10, σ_11, h_12, h⟩ | ⟨E_26, σ_11, h_12, h⟩
      · have z9 := x_call (M := mX12_checkAll) (M' := mX12_refWidth) (pc := 142) (st := [.int (σ.AI a_8 (Int32.toNatClampNeg ((8 * v2) + v3))), .int v2, .int (σ.I 1140 a0), va_rf (some a0)]) (rest := []) (av := [va_rf (some a0), .int (σ.I 1140 a0), .int v2, .int (σ.AI a_8 (Int32.toNatClampNeg ((8 * v2) + v3)))]) (x_linkV (M := mX12_checkAll) (M' := mX12_refWidth) (As := [.int (σ.I 1140 a0), .int v2, .int (σ.AI a_8 (Int32.toNatClampNeg ((8 * v2) + v3)))]) (index := 277) (C := RX12) (T := TX12) (xE_12 c_1) rfl wd_772 wd_773 (wG_in (List.mem_append_left _ (List.mem_of_getElem? (i := 78) rfl)) rfl) xw_X12_refWidth rfl (by decide) rfl rfl dX12_checkAll_142) (ev_X12_refWidth hO hP h_12) xw_X12_refWidth rfl wd_198 dX12_checkAll_142 (by decide) (by decide) (by simp [x_cat, x_catI, x_catJ])
        refine x_callR z9 ?_
        refine ev_at (st' := [.int v_10]) rfl rfl ?_
        refine ev_aload_n (j := 1) (x := (some a0)) dX12_checkAll_145 rfl rfl ?_
        refine ev_aload_n (j := 1) (x := (some a0)) dX12_checkAll_146 rfl rfl ?_
        obtain ⟨c_13, h⟩ := x_chk_e h
        refine ev_get (C := RX12) (T := TX12) (k := 40) inX12 (xE_12 c_13) rfl (by decide) wd_638 (Or.inl rfl) rfl dX12_checkAll_147 ?_
        refine ev_iload_n (j := 3) (x := v2) dX12_checkAll_150 rfl rfl ?_
        refine ev_iload (j := 0) (x := v_7) dX12_checkAll_151 rfl ?_
        rcases x_bind_e h with ⟨v_14, σ_15, h_16, h⟩ | ⟨E_25, σ_15, h_16, h⟩
        · have z9 := x_call (M := mX12_checkAll) (M' := mX12_refWidth) (pc := 153) (st := [.int v_7, .int v2, .int (σ_11.I 1140 a0), va_rf (some a0), .int v_10]) (rest := [.int v_10]) (av := [va_rf (some a0), .int (σ_11.I 1140 a0), .int v2, .int v_7]) (x_linkV (M := mX12_checkAll) (M' := mX12_refWidth) (As := [.int (σ_11.I 1140 a0), .int v2, .int v_7]) (index := 277) (C := RX12) (T := TX12) (xE_12 c_13) rfl wd_772 wd_773 (wG_in (List.mem_append_left _ (List.mem_of_getElem? (i := 78) rfl)) rfl) xw_X12_refWidth rfl (by decide) rfl rfl dX12_checkAll_153) (ev_X12_refWidth hO hP h_16) xw_X12_refWidth rfl wd_198 dX12_checkAll_153 (by decide) (by decide) (by simp [x_cat, x_catI, x_catJ])
          refine x_callR z9 ?_
          refine ev_at (st' := [.int v_14, .int v_10]) rfl rfl ?_
          by_cases c_17 : v_10 = v_14
          · rw [if_pos c_17] at h
            refine ev_icmp_eq (x := v_10) (y := v_14) (tgt := 170) dX12_checkAll_156 (by decide) (fun _ => ?_) (fun q9 => absurd c_17 q9)
            exact ev_sub [1, 2, 3, 4] rfl (ev_X12_checkAll_p170 hO hP ih hk77 h)
          · rw [if_neg c_17] at h
            refine ev_icmp_eq (x := v_10) (y := v_14) (tgt := 170) dX12_checkAll_156 (by decide) (fun q9 => absurd q9 c_17) (fun _ => ?_)
            refine ev_aload_n (j := 1) (x := (some a0)) dX12_checkAll_159 rfl rfl ?_
            refine ev_aload_n (j := 1) (x := (some a0)) dX12_checkAll_160 rfl rfl ?_
            obtain ⟨c_18, h⟩ := x_chk_e h
            refine ev_get (C := RX12) (T := TX12) (k := 16) inX12 (xE_12 c_18) rfl (by decide) wd_164 (Or.inl rfl) rfl dX12_checkAll_161 ?_
            refine ev_iload (j := 0) (x := v_7) dX12_checkAll_164 rfl ?_
            obtain ⟨a_19, ea_19, h⟩ := x_some_e h
            refine ev_at (st' := [.int v_7, va_rf (some a_19), va_rf (some a0)]) rfl (by rw [ea_19]) ?_
            obtain ⟨c_20, h⟩ := x_chk_e h
            refine ev_iald_31 c_20.1 c_20.2 dX12_checkAll_166 ?_
            rcases x_bind_e h with ⟨v_21, σ_22, h_23, h⟩ | ⟨E_24, σ_22, h_23, h⟩
            · have z9 := x_call (M := mX12_checkAll) (M' := mX12_late) (pc := 167) (st := [.int (σ_15.AI a_19 (Int32.toNatClampNeg v_7)), va_rf (some a0)]) (rest := []) (av := [va_rf (some a0), .int (σ_15.AI a_19 (Int32.toNatClampNeg v_7))]) (x_linkV (M := mX12_checkAll) (M' := mX12_late) (As := [.int (σ_15.AI a_19 (Int32.toNatClampNeg v_7))]) (index := 271) (C := RX12) (T := TX12) (xE_12 c_18) rfl wd_766 wd_767 (wG_in (List.mem_append_left _ (List.mem_of_getElem? (i := 79) rfl)) rfl) xw_X12_late rfl (by decide) rfl rfl dX12_checkAll_167) (ev_X12_late hO hP h_23) xw_X12_late rfl wd_198 dX12_checkAll_167 (by decide) (by decide) (by simp [x_cat, x_catI, x_catJ])
              refine x_callR z9 ?_
              refine ev_at (st' := []) rfl rfl ?_
              exact ev_sub [1, 2, 3, 4] rfl (ev_X12_checkAll_p170 hO hP ih hk77 h)
            · have z9 := x_call (M := mX12_checkAll) (M' := mX12_late) (pc := 167) (st := [.int (σ_15.AI a_19 (Int32.toNatClampNeg v_7)), va_rf (some a0)]) (rest := []) (av := [va_rf (some a0), .int (σ_15.AI a_19 (Int32.toNatClampNeg v_7))]) (x_linkV (M := mX12_checkAll) (M' := mX12_late) (As := [.int (σ_15.AI a_19 (Int32.toNatClampNeg v_7))]) (index := 271) (C := RX12) (T := TX12) (xE_12 c_18) rfl wd_766 wd_767 (wG_in (List.mem_append_left _ (List.mem_of_getElem? (i := 79) rfl)) rfl) xw_X12_late rfl (by decide) rfl rfl dX12_checkAll_167) (ev_X12_late hO hP h_23) xw_X12_late rfl wd_198 dX12_checkAll_167 (by decide) (by decide) (by simp [x_cat, x_catI, x_catJ])
              cases h
              exact x_callX z9 (evX_out rfl)
        · have z9 := x_call (M := mX12_checkAll) (M' := mX12_refWidth) (pc := 153) (st := [.int v_7, .int v2, .int (σ_11.I 1140 a0), va_rf (some a0), .int v_10]) (rest := [.int v_10]) (av := [va_rf (some a0), .int (σ_11.I 1140 a0), .int v2, .int v_7]) (x_linkV (M := mX12_checkAll) (M' := mX12_refWidth) (As := [.int (σ_11.I 1140 a0), .int v2, .int v_7]) (index := 277) (C := RX12) (T := TX12) (xE_12 c_13) rfl wd_772 wd_773 (wG_in (List.mem_append_left _ (List.mem_of_getElem? (i := 78) rfl)) rfl) xw_X12_refWidth rfl (by decide) rfl rfl dX12_checkAll_153) (ev_X12_refWidth hO hP h_16) xw_X12_refWidth rfl wd_198 dX12_checkAll_153 (by decide) (by decide) (by simp [x_cat, x_catI, x_catJ])
          cases h
          exact x_callX z9 (evX_out rfl)
      · have z9 := x_call (M := mX12_checkAll) (M' := mX12_refWidth) (pc := 142) (st := [.int (σ.AI a_8 (Int32.toNatClampNeg ((8 * v2) + v3))), .int v2, .int (σ.I 1140 a0), va_rf (some a0)]) (rest := []) (av := [va_rf (some a0), .int (σ.I 1140 a0), .int v2, .int (σ.AI a_8 (Int32.toNatClampNeg ((8 * v2) + v3)))]) (x_linkV (M := mX12_checkAll) (M' := mX12_refWidth) (As := [.int (σ.I 1140 a0), .int v2, .int (σ.AI a_8 (Int32.toNatClampNeg ((8 * v2) + v3)))]) (index := 277) (C := RX12) (T := TX12) (xE_12 c_1) rfl wd_772 wd_773 (wG_in (List.mem_append_left _ (List.mem_of_getElem? (i := 78) rfl)) rfl) xw_X12_refWidth rfl (by decide) rfl rfl dX12_checkAll_142) (ev_X12_refWidth hO hP h_12) xw_X12_refWidth rfl wd_198 dX12_checkAll_142 (by decide) (by decide) (by simp [x_cat, x_catI, x_catJ])
        cases h
        exact x_callX z9 (evX_out rfl)
set_option maxHeartbeats 4000000 in
set_option maxRecDepth 100000 in
theorem ev_X12_checkAll_L77 {l : Launch} {G : xG} (hO : x_OK l G) {P : xP} (hP : x_PG P G) {a0 : Nat} : ∀ (n : Nat) {v1 : Int32} {σ σ' : xS} {rr : Unit ⊕ String}, dm_X12_checkAll_L77 P a0 n v1 σ = some (rr, σ') → Ev l G mX12_checkAll 77 [(0, va_rf (some a0)), (1, .int v1)] [] σ (xrV rr) σ' := by
  intro n
  induction n with
  | zero => intro v1 σ σ' rr h; cases h
  | succ n ih =>
    intro v1 σ σ' rr h
    rw [dm_X12_checkAll_L77] at h
    refine ev_iload_n (j := 1) (x := v1) dX12_checkAll_77 rfl rfl ?_
    refine ev_aload_n (j := 0) (x := (some a0)) dX12_checkAll_78 rfl rfl ?_
    obtain ⟨c_1, h⟩ := x_chk_e h
    refine ev_get (C := RX12) (T := TX12) (k := 6) inX12 (xE_12 c_1) rfl (by decide) wd_153 (Or.inl rfl) rfl dX12_checkAll_79 ?_
    refine ev_aload_n (j := 0) (x := (some a0)) dX12_checkAll_82 rfl rfl ?_
    refine ev_get (C := RX12) (T := TX12) (k := 40) inX12 (xE_12 c_1) rfl (by decide) wd_638 (Or.inl rfl) rfl dX12_checkAll_83 ?_
    obtain ⟨a_2, ea_2, h⟩ := x_some_e h
    refine ev_at (st' := [.int (σ.I 1140 a0), va_rf (some a_2), .int v1]) rfl (by rw [ea_2]) ?_
    obtain ⟨c_3, h⟩ := x_chk_e h
    refine ev_iald_31 c_3.1 c_3.2 dX12_checkAll_86 ?_
    by_cases c_4 : (σ.AI a_2 (Int32.toNatClampNeg (σ.I 1140 a0))) ≤ v1
    · rw [if_pos c_4] at h
      refine ev_icmp_ge (x := v1) (y := (σ.AI a_2 (Int32.toNatClampNeg (σ.I 1140 a0)))) (tgt := 211) dX12_checkAll_87 (by decide) (fun _ => ?_) (fun q9 => absurd c_4 q9)
      cases h
      exact ev_vret rfl dX12_checkAll_211
    · rw [if_neg c_4] at h
      refine ev_icmp_ge (x := v1) (y := (σ.AI a_2 (Int32.toNatClampNeg (σ.I 1140 a0)))) (tgt := 211) dX12_checkAll_87 (by decide) (fun q9 => absurd q9 c_4) (fun _ => ?_)
      refine ev_bipush (v := 8) dX12_checkAll_90 (by decide) ?_
      refine ev_aload_n (j := 0) (x := (some a0)) dX12_checkAll_92 rfl rfl ?_
      refine ev_get (C := RX12) (T := TX12) (k := 40) inX12 (xE_12 c_1) rfl (by decide) wd_638 (Or.inl rfl) rfl dX12_checkAll_93 ?_
      refine ev_imul (x := 8) (y := (σ.I 1140 a0)) dX12_checkAll_96 ?_
      refine ev_iload_n (j := 1) (x := v1) dX12_checkAll_97 rfl rfl ?_
      refine ev_iadd (x := (8 * (σ.I 1140 a0))) (y := v1) dX12_checkAll_98 ?_
      obtain ⟨v_5, ev_5, h⟩ := x_let_e h
      rw [← ev_5]
      refine ev_istore_n (i := 2) (lv' := [(2, .int v_5), (0, va_rf (some a0)), (1, .int v1)]) dX12_checkAll_99 rfl (by decide) rfl ?_
      refine ev_iconst (v := 0) dX12_checkAll_100 (by decide) ?_
      refine ev_istore_n (i := 3) (lv' := [(3, .int 0), (2, .int v_5), (0, va_rf (some a0)), (1, .int v1)]) dX12_checkAll_101 rfl (by decide) rfl ?_
      exact ev_sub [2, 3, 1, 0] rfl (ev_X12_checkAll_L102 hO hP ih P.N h)
set_option maxHeartbeats 4000000 in
set_option maxRecDepth 100000 in
theorem ev_X12_checkAll_L2 {l : Launch} {G : xG} (hO : x_OK l G) {P : xP} (hP : x_PG P G) {a0 : Nat} : ∀ (n : Nat) {v1 : Int32} {σ σ' : xS} {rr : Unit ⊕ String}, dm_X12_checkAll_L2 P a0 n v1 σ = some (rr, σ') → Ev l G mX12_checkAll 2 [(0, va_rf (some a0)), (1, .int v1)] [] σ (xrV rr) σ' := by
  intro n
  induction n with
  | zero => intro v1 σ σ' rr h; cases h
  | succ n ih =>
    intro v1 σ σ' rr h
    rw [dm_X12_checkAll_L2] at h
    refine ev_iload_n (j := 1) (x := v1) dX12_checkAll_2 rfl rfl ?_
    refine ev_aload_n (j := 0) (x := (some a0)) dX12_checkAll_3 rfl rfl ?_
    obtain ⟨c_1, h⟩ := x_chk_e h
    refine ev_get (C := RX12) (T := TX12) (k := 6) inX12 (xE_12 c_1) rfl (by decide) wd_153 (Or.inl rfl) rfl dX12_checkAll_4 ?_
    refine ev_aload_n (j := 0) (x := (some a0)) dX12_checkAll_7 rfl rfl ?_
    refine ev_get (C := RX12) (T := TX12) (k := 40) inX12 (xE_12 c_1) rfl (by decide) wd_638 (Or.inl rfl) rfl dX12_checkAll_8 ?_
    obtain ⟨a_2, ea_2, h⟩ := x_some_e h
    refine ev_at (st' := [.int (σ.I 1140 a0), va_rf (some a_2), .int v1]) rfl (by rw [ea_2]) ?_
    obtain ⟨c_3, h⟩ := x_chk_e h
    refine ev_iald_31 c_3.1 c_3.2 dX12_checkAll_11 ?_
    by_cases c_4 : (σ.AI a_2 (Int32.toNatClampNeg (σ.I 1140 a0))) ≤ v1
    · rw [if_pos c_4] at h
      refine ev_icmp_ge (x := v1) (y := (σ.AI a_2 (Int32.toNatClampNeg (σ.I 1140 a0)))) (tgt := 75) dX12_checkAll_12 (by decide) (fun _ => ?_) (fun q9 => absurd c_4 q9)
      refine ev_iconst (v := 0) dX12_checkAll_75 (by decide) ?_
      refine ev_istore_n (i := 1) (lv' := [(1, .int 0), (0, va_rf (some a0))]) dX12_checkAll_76 rfl (by decide) (by simp [x_cat, x_catI, x_catJ]) ?_
      exact ev_sub [1, 0] rfl (ev_X12_checkAll_L77 hO hP P.N h)
    · rw [if_neg c_4] at h
      refine ev_icmp_ge (x := v1) (y := (σ.AI a_2 (Int32.toNatClampNeg (σ.I 1140 a0)))) (tgt := 75) dX12_checkAll_12 (by decide) (fun q9 => absurd q9 c_4) (fun _ => ?_)
      refine ev_bipush (v := 8) dX12_checkAll_15 (by decide) ?_
      refine ev_aload_n (j := 0) (x := (some a0)) dX12_checkAll_17 rfl rfl ?_
      refine ev_get (C := RX12) (T := TX12) (k := 40) inX12 (xE_12 c_1) rfl (by decide) wd_638 (Or.inl rfl) rfl dX12_checkAll_18 ?_
      refine ev_imul (x := 8) (y := (σ.I 1140 a0)) dX12_checkAll_21 ?_
      refine ev_iload_n (j := 1) (x := v1) dX12_checkAll_22 rfl rfl ?_
      refine ev_iadd (x := (8 * (σ.I 1140 a0))) (y := v1) dX12_checkAll_23 ?_
      obtain ⟨v_5, ev_5, h⟩ := x_let_e h
      rw [← ev_5]
      refine ev_istore_n (i := 2) (lv' := [(2, .int v_5), (0, va_rf (some a0)), (1, .int v1)]) dX12_checkAll_24 rfl (by decide) rfl ?_
      refine ev_iconst (v := 0) dX12_checkAll_25 (by decide) ?_
      refine ev_istore_n (i := 3) (lv' := [(3, .int 0), (2, .int v_5), (0, va_rf (some a0)), (1, .int v1)]) dX12_checkAll_26 rfl (by decide) rfl ?_
      exact ev_sub [2, 3, 1, 0] rfl (ev_X12_checkAll_L27 hO hP ih P.N h)
set_option maxHeartbeats 4000000 in
set_option maxRecDepth 100000 in
theorem ev_X12_checkAll {l : Launch} {G : xG} (hO : x_OK l G) {P : xP} (hP : x_PG P G) {a0 : Nat} {σ σ' : xS} {rr : Unit ⊕ String} (h : dm_X12_checkAll P a0 σ = some (rr, σ')) : EvM l G mX12_checkAll [va_rf (some a0)] σ (xrV rr) σ' := by
  unfold dm_X12_checkAll at h
  refine evM_of hO (by decide +kernel) (x_lenI (by simp [x_cat, x_catI, x_catJ, mX12_checkAll, xM.maxL])) ?_
  refine Eq.mp (congrArg (fun z => Ev l G mX12_checkAll 0 z [] σ (xrV rr) σ') (show [(0, va_rf (some a0))] = lv_args 0 [va_rf (some a0)] by simp [lv_args, x_cat, x_catI, x_catJ])) ?_
  refine ev_iconst (v := 0) dX12_checkAll_0 (by decide) ?_
  refine ev_istore_n (i := 1) (lv' := [(1, .int 0), (0, va_rf (some a0))]) dX12_checkAll_1 rfl (by decide) (by simp [x_cat, x_catI, x_catJ]) ?_
  exact ev_sub [1, 0] rfl (ev_X12_checkAll_L2 hO hP P.N h)
