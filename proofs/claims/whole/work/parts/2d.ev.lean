set_option maxHeartbeats 4000000 in
set_option maxRecDepth 100000 in
theorem ev_X9_readInstance_p43 {l : Launch} {G : xG} (hO : x_OK l G) {P : xP} (hP : x_PG P G) {a0 : Nat} {σ σ' : xS} {rr : Unit ⊕ String} (h : dm_X9_readInstance_p43 P a0 σ = some (rr, σ')) : Ev l G mX9_readInstance 43 [(0, va_rf (some a0))] [] σ (xrV rr) σ' := by
  unfold dm_X9_readInstance_p43 at h
  refine ev_aload_n (j := 0) (x := (some a0)) dX9_readInstance_43 rfl rfl ?_
  obtain ⟨c_1, h⟩ := x_chk_e h
  refine ev_get (C := RX9) (T := TX9) (k := 0) inX9 (xE_9 c_1) rfl (by decide) wd_403 (Or.inr wd_402) rfl dX9_readInstance_44 ?_
  refine ev_bipush (v := 59) dX9_readInstance_47 (by decide) ?_
  obtain ⟨a_2, ea_2, h⟩ := x_some_e h
  refine ev_at (st' := [.int 59, va_rf (some a_2)]) rfl (by rw [ea_2]) ?_
  obtain ⟨c_6, h⟩ := x_chk_e h
  rcases x_bind_e h with ⟨v_3, σ_4, h_5, h⟩ | ⟨E_7, σ_4, h_5, h⟩
  · have z9 := x_call (M := mX9_readInstance) (M' := mX10_takeSign) (pc := 49) (st := [.int 59, va_rf (some a_2)]) (rest := []) (av := [va_rf (some a_2), .int 59]) (x_linkV (M := mX9_readInstance) (M' := mX10_takeSign) (As := [.int 59]) (index := 31) (C := RX10) (T := TX10) (xE_10 c_6) rfl wd_527 wd_321 wd_319 xw_X10_takeSign rfl (by decide) rfl rfl dX9_readInstance_49) (ev_X10_takeSign hO hP h_5) xw_X10_takeSign rfl wd_118 dX9_readInstance_49 (by decide) (by decide) (by simp [x_cat, x_catI, x_catJ])
    refine x_callR z9 ?_
    refine ev_at (st' := []) rfl rfl ?_
    cases h
    exact ev_vret rfl dX9_readInstance_52
  · have z9 := x_call (M := mX9_readInstance) (M' := mX10_takeSign) (pc := 49) (st := [.int 59, va_rf (some a_2)]) (rest := []) (av := [va_rf (some a_2), .int 59]) (x_linkV (M := mX9_readInstance) (M' := mX10_takeSign) (As := [.int 59]) (index := 31) (C := RX10) (T := TX10) (xE_10 c_6) rfl wd_527 wd_321 wd_319 xw_X10_takeSign rfl (by decide) rfl rfl dX9_readInstance_49) (ev_X10_takeSign hO hP h_5) xw_X10_takeSign rfl wd_118 dX9_readInstance_49 (by decide) (by decide) (by simp [x_cat, x_catI, x_catJ])
    cases h
    exact x_callX z9 (evX_out rfl)
set_option maxHeartbeats 4000000 in
set_option maxRecDepth 100000 in
theorem ev_X9_readInstance_L14 {l : Launch} {G : xG} (hO : x_OK l G) {P : xP} (hP : x_PG P G) {a0 : Nat} : ∀ (n : Nat) {v1 : Option Nat} {v2 : Int32} {σ σ' : xS} {rr : Unit ⊕ String}, dm_X9_readInstance_L14 P a0 n v1 v2 σ = some (rr, σ') → Ev l G mX9_readInstance 14 [(0, va_rf (some a0)), (1, va_rf v1), (2, .int v2)] [] σ (xrV rr) σ' := by
  intro n
  induction n with
  | zero => intro v1 v2 σ σ' rr h; cases h
  | succ n ih =>
    intro v1 v2 σ σ' rr h
    rw [dm_X9_readInstance_L14] at h
    refine ev_iload_n (j := 2) (x := v2) dX9_readInstance_14 rfl rfl ?_
    refine ev_bipush (v := 16) dX9_readInstance_15 (by decide) ?_
    by_cases c_1 : 16 < v2
    · rw [if_pos c_1] at h
      refine ev_icmp_gt (x := v2) (y := 16) (tgt := 43) dX9_readInstance_17 (by decide) (fun _ => ?_) (fun q9 => absurd c_1 q9)
      exact ev_sub [0] rfl (ev_X9_readInstance_p43 hO hP h)
    · rw [if_neg c_1] at h
      refine ev_icmp_gt (x := v2) (y := 16) (tgt := 43) dX9_readInstance_17 (by decide) (fun q9 => absurd q9 c_1) (fun _ => ?_)
      refine ev_aload_n (j := 0) (x := (some a0)) dX9_readInstance_20 rfl rfl ?_
      obtain ⟨c_2, h⟩ := x_chk_e h
      refine ev_get (C := RX9) (T := TX9) (k := 0) inX9 (xE_9 c_2) rfl (by decide) wd_403 (Or.inr wd_402) rfl dX9_readInstance_21 ?_
      refine ev_bipush (v := 59) dX9_readInstance_24 (by decide) ?_
      obtain ⟨a_3, ea_3, h⟩ := x_some_e h
      refine ev_at (st' := [.int 59, va_rf (some a_3)]) rfl (by rw [ea_3]) ?_
      obtain ⟨c_7, h⟩ := x_chk_e h
      rcases x_bind_e h with ⟨v_4, σ_5, h_6, h⟩ | ⟨E_15, σ_5, h_6, h⟩
      · have z9 := x_call (M := mX9_readInstance) (M' := mX10_isSign) (pc := 26) (st := [.int 59, va_rf (some a_3)]) (rest := []) (av := [va_rf (some a_3), .int 59]) (x_linkV (M := mX9_readInstance) (M' := mX10_isSign) (As := [.int 59]) (index := 98) (C := RX10) (T := TX10) (xE_10 c_7) rfl wd_531 wd_325 wd_323 xw_X10_isSign rfl (by decide) rfl rfl dX9_readInstance_26) (ev_X10_isSign hO hP h_6) xw_X10_isSign rfl wd_118 dX9_readInstance_26 (by decide) (by decide) (by simp [x_cat, x_catI, x_catJ])
        refine x_callR z9 ?_
        refine ev_at (st' := [.int v_4]) rfl rfl ?_
        by_cases c_8 : v_4 = 0
        · rw [if_pos c_8] at h
          refine ev_if_ne (x := v_4) (tgt := 43) dX9_readInstance_29 (by decide) (fun q9 => absurd c_8 q9) (fun _ => ?_)
          refine ev_aload_n (j := 0) (x := (some a0)) dX9_readInstance_32 rfl rfl ?_
          refine ev_aload_n (j := 1) (x := v1) dX9_readInstance_33 rfl rfl ?_
          obtain ⟨c_12, h⟩ := x_chk_e h
          rcases x_bind_e h with ⟨v_9, σ_10, h_11, h⟩ | ⟨E_14, σ_10, h_11, h⟩
          · have z9 := x_call (M := mX9_readInstance) (M' := mX8_readOrderedLink) (pc := 34) (st := [va_rf v1, va_rf (some a0)]) (rest := []) (av := [va_rf (some a0), va_rf v1]) (x_linkU (M := mX9_readInstance) (M' := mX8_readOrderedLink) (As := [va_rf v1]) (index := 102) (C := RX9) (T := TX9) (owner := "NetlistForms$Reader") (x := ⟨"NetlistForms$ShortReader", "readOrderedLink", "(LNetlistForms$Instance;)V"⟩) (xE_9 c_12) rfl wd_532 wd_533 (Or.inr rfl) wd_488 wd_534 xw_X8_readOrderedLink rfl (by decide) rfl rfl dX9_readInstance_34) (ev_X8_readOrderedLink hO hP h_11) xw_X8_readOrderedLink rfl wd_104 dX9_readInstance_34 (by decide) (by decide) (by simp [x_cat, x_catI, x_catJ])
            refine x_callR z9 ?_
            refine ev_at (st' := []) rfl rfl ?_
            obtain ⟨v_13, ev_13, h⟩ := x_let_e h
            refine ev_iinc (j := 2) (x := v2) (v := v_13) (lv' := [(2, .int v_13), (0, va_rf (some a0)), (1, va_rf v1)]) dX9_readInstance_37 rfl (by rw [ev_13]; rfl) (by decide) (by simp [x_cat, x_catI, x_catJ]) ?_
            refine ev_goto (tgt := 14) dX9_readInstance_40 (by decide) ?_
            exact ev_sub [1, 2, 0] rfl (ih h)
          · have z9 := x_call (M := mX9_readInstance) (M' := mX8_readOrderedLink) (pc := 34) (st := [va_rf v1, va_rf (some a0)]) (rest := []) (av := [va_rf (some a0), va_rf v1]) (x_linkU (M := mX9_readInstance) (M' := mX8_readOrderedLink) (As := [va_rf v1]) (index := 102) (C := RX9) (T := TX9) (owner := "NetlistForms$Reader") (x := ⟨"NetlistForms$ShortReader", "readOrderedLink", "(LNetlistForms$Instance;)V"⟩) (xE_9 c_12) rfl wd_532 wd_533 (Or.inr rfl) wd_488 wd_534 xw_X8_readOrderedLink rfl (by decide) rfl rfl dX9_readInstance_34) (ev_X8_readOrderedLink hO hP h_11) xw_X8_readOrderedLink rfl wd_104 dX9_readInstance_34 (by decide) (by decide) (by simp [x_cat, x_catI, x_catJ])
            cases h
            exact x_callX z9 (evX_out rfl)
        · rw [if_neg c_8] at h
          refine ev_if_ne (x := v_4) (tgt := 43) dX9_readInstance_29 (by decide) (fun _ => ?_) (fun q9 => absurd q9 c_8)
          exact ev_sub [0] rfl (ev_X9_readInstance_p43 hO hP h)
      · have z9 := x_call (M := mX9_readInstance) (M' := mX10_isSign) (pc := 26) (st := [.int 59, va_rf (some a_3)]) (rest := []) (av := [va_rf (some a_3), .int 59]) (x_linkV (M := mX9_readInstance) (M' := mX10_isSign) (As := [.int 59]) (index := 98) (C := RX10) (T := TX10) (xE_10 c_7) rfl wd_531 wd_325 wd_323 xw_X10_isSign rfl (by decide) rfl rfl dX9_readInstance_26) (ev_X10_isSign hO hP h_6) xw_X10_isSign rfl wd_118 dX9_readInstance_26 (by decide) (by decide) (by simp [x_cat, x_catI, x_catJ])
        cases h
        exact x_callX z9 (evX_out rfl)
set_option maxHeartbeats 4000000 in
set_option maxRecDepth 100000 in
theorem ev_X9_readInstance {l : Launch} {G : xG} (hO : x_OK l G) {P : xP} (hP : x_PG P G) {a0 : Nat} {σ σ' : xS} {rr : Unit ⊕ String} (h : dm_X9_readInstance P a0 σ = some (rr, σ')) : EvM l G mX9_readInstance [va_rf (some a0)] σ (xrV rr) σ' := by
  unfold dm_X9_readInstance at h
  refine evM_of hO (by decide +kernel) (x_lenI (by simp [x_cat, x_catI, x_catJ, mX9_readInstance, xM.maxL])) ?_
  refine Eq.mp (congrArg (fun z => Ev l G mX9_readInstance 0 z [] σ (xrV rr) σ') (show [(0, va_rf (some a0))] = lv_args 0 [va_rf (some a0)] by simp [lv_args, x_cat, x_catI, x_catJ])) ?_
  refine ev_aload_n (j := 0) (x := (some a0)) dX9_readInstance_0 rfl rfl ?_
  obtain ⟨c_1, h⟩ := x_chk_e h
  refine ev_get (C := RX9) (T := TX9) (k := 0) inX9 (xE_9 c_1) rfl (by decide) wd_403 (Or.inr wd_402) rfl dX9_readInstance_1 ?_
  obtain ⟨a_2, ea_2, h⟩ := x_some_e h
  refine ev_at (st' := [va_rf (some a_2)]) rfl (by rw [ea_2]) ?_
  obtain ⟨c_6, h⟩ := x_chk_e h
  rcases x_bind_e h with ⟨v_3, σ_4, h_5, h⟩ | ⟨E_12, σ_4, h_5, h⟩
  · have z9 := x_call (M := mX9_readInstance) (M' := mX10_step) (pc := 4) (st := [va_rf (some a_2)]) (rest := []) (av := [va_rf (some a_2)]) (x_linkV (M := mX9_readInstance) (M' := mX10_step) (As := []) (index := 67) (C := RX10) (T := TX10) (xE_10 c_6) rfl wd_517 wd_247 wd_245 xw_X10_step rfl (by decide) rfl rfl dX9_readInstance_4) (ev_X10_step hO hP h_5) xw_X10_step rfl wd_118 dX9_readInstance_4 (by decide) (by decide) (by simp [x_cat, x_catI, x_catJ])
    refine x_callR z9 ?_
    refine ev_at (st' := []) rfl rfl ?_
    refine ev_aload_n (j := 0) (x := (some a0)) dX9_readInstance_7 rfl rfl ?_
    obtain ⟨c_10, h⟩ := x_chk_e h
    rcases x_bind_e h with ⟨v_7, σ_8, h_9, h⟩ | ⟨E_11, σ_8, h_9, h⟩
    · have z9 := x_call (M := mX9_readInstance) (M' := mX8_startInstance) (pc := 8) (st := [va_rf (some a0)]) (rest := []) (av := [va_rf (some a0)]) (x_linkU (M := mX9_readInstance) (M' := mX8_startInstance) (As := []) (index := 94) (C := RX9) (T := TX9) (owner := "NetlistForms$Reader") (x := ⟨"NetlistForms$ShortReader", "startInstance", "()LNetlistForms$Instance;"⟩) (xE_9 c_10) rfl wd_528 wd_529 (Or.inr rfl) wd_482 wd_530 xw_X8_startInstance rfl (by decide) rfl rfl dX9_readInstance_8) (ev_X8_startInstance hO hP h_9) xw_X8_startInstance rfl wd_104 dX9_readInstance_8 (by decide) (by decide) (by simp [x_cat, x_catI, x_catJ])
      refine x_callR z9 ?_
      refine ev_at (st' := [va_rf v_7]) rfl rfl ?_
      refine ev_astore_n (i := 1) (lv' := [(1, va_rf v_7), (0, va_rf (some a0))]) dX9_readInstance_11 rfl (by decide) (by simp [x_cat, x_catI, x_catJ]) ?_
      refine ev_iconst (v := 0) dX9_readInstance_12 (by decide) ?_
      refine ev_istore_n (i := 2) (lv' := [(2, .int 0), (1, va_rf v_7), (0, va_rf (some a0))]) dX9_readInstance_13 rfl (by decide) (by simp [x_cat, x_catI, x_catJ]) ?_
      exact ev_sub [2, 1, 0] rfl (ev_X9_readInstance_L14 hO hP P.N h)
    · have z9 := x_call (M := mX9_readInstance) (M' := mX8_startInstance) (pc := 8) (st := [va_rf (some a0)]) (rest := []) (av := [va_rf (some a0)]) (x_linkU (M := mX9_readInstance) (M' := mX8_startInstance) (As := []) (index := 94) (C := RX9) (T := TX9) (owner := "NetlistForms$Reader") (x := ⟨"NetlistForms$ShortReader", "startInstance", "()LNetlistForms$Instance;"⟩) (xE_9 c_10) rfl wd_528 wd_529 (Or.inr rfl) wd_482 wd_530 xw_X8_startInstance rfl (by decide) rfl rfl dX9_readInstance_8) (ev_X8_startInstance hO hP h_9) xw_X8_startInstance rfl wd_104 dX9_readInstance_8 (by decide) (by decide) (by simp [x_cat, x_catI, x_catJ])
      cases h
      exact x_callX z9 (evX_out rfl)
  · have z9 := x_call (M := mX9_readInstance) (M' := mX10_step) (pc := 4) (st := [va_rf (some a_2)]) (rest := []) (av := [va_rf (some a_2)]) (x_linkV (M := mX9_readInstance) (M' := mX10_step) (As := []) (index := 67) (C := RX10) (T := TX10) (xE_10 c_6) rfl wd_517 wd_247 wd_245 xw_X10_step rfl (by decide) rfl rfl dX9_readInstance_4) (ev_X10_step hO hP h_5) xw_X10_step rfl wd_118 dX9_readInstance_4 (by decide) (by decide) (by simp [x_cat, x_catI, x_catJ])
    cases h
    exact x_callX z9 (evX_out rfl)
set_option maxHeartbeats 4000000 in
set_option maxRecDepth 100000 in
theorem ev_X9_readPiece_p153 {l : Launch} {G : xG} (hO : x_OK l G) {P : xP} (hP : x_PG P G) {a0 : Nat} {σ σ' : xS} {rr : Unit ⊕ String} (h : dm_X9_readPiece_p153 P a0 σ = some (rr, σ')) : Ev l G mX9_readPiece 153 [] [] σ (xrV rr) σ' := by
  unfold dm_X9_readPiece_p153 at h
  cases h
  exact ev_vret rfl dX9_readPiece_153
set_option maxHeartbeats 4000000 in
set_option maxRecDepth 100000 in
theorem ev_X9_readPiece {l : Launch} {G : xG} (hO : x_OK l G) {P : xP} (hP : x_PG P G) {a0 : Nat} {σ σ' : xS} {rr : Unit ⊕ String} (h : dm_X9_readPiece P a0 σ = some (rr, σ')) : EvM l G mX9_readPiece [va_rf (some a0)] σ (xrV rr) σ' := by
  unfold dm_X9_readPiece at h
  refine evM_of hO (by decide +kernel) (x_lenI (by simp [x_cat, x_catI, x_catJ, mX9_readPiece, xM.maxL])) ?_
  refine Eq.mp (congrArg (fun z => Ev l G mX9_readPiece 0 z [] σ (xrV rr) σ') (show [(0, va_rf (some a0))] = lv_args 0 [va_rf (some a0)] by simp [lv_args, x_cat, x_catI, x_catJ])) ?_
  refine ev_aload_n (j := 0) (x := (some a0)) dX9_readPiece_0 rfl rfl ?_
  obtain ⟨c_1, h⟩ := x_chk_e h
  refine ev_get (C := RX9) (T := TX9) (k := 2) inX9 (xE_9 c_1) rfl (by decide) wd_520 (Or.inr wd_519) rfl dX9_readPiece_1 ?_
  by_cases c_2 : (σ.R 302 a0) = none
  · rw [if_pos c_2] at h
    refine ev_ifnonnull (x := (σ.R 302 a0)) (tgt := 32) dX9_readPiece_4 (by decide) (fun q9 => absurd c_2 q9) (fun _ => ?_)
    refine ev_aload_n (j := 0) (x := (some a0)) dX9_readPiece_7 rfl rfl ?_
    refine ev_get (C := RX9) (T := TX9) (k := 0) inX9 (xE_9 c_1) rfl (by decide) wd_403 (Or.inr wd_402) rfl dX9_readPiece_8 ?_
    refine ev_ldcS (q := ("NetlistForms$ShortReader", 19, "m", 17)) hP (List.mem_of_getElem? (i := 24) rfl) rfl dX9_readPiece_11 ?_
    obtain ⟨a_86, ea_86, h⟩ := x_some_e h
    refine ev_at (st' := [va_rf (some (P.ad 17)), va_rf (some a_86)]) rfl (by rw [ea_86]) ?_
    obtain ⟨c_90, h⟩ := x_chk_e h
    rcases x_bind_e h with ⟨v_87, σ_88, h_89, h⟩ | ⟨E_103, σ_88, h_89, h⟩
    · have z9 := x_call (M := mX9_readPiece) (M' := mX10_takeText) (pc := 13) (st := [va_rf (some (P.ad 17)), va_rf (some a_86)]) (rest := []) (av := [va_rf (some a_86), va_rf (some (P.ad 17))]) (x_linkV (M := mX9_readPiece) (M' := mX10_takeText) (As := [va_rf (some (P.ad 17))]) (index := 21) (C := RX10) (T := TX10) (xE_10 c_90) rfl wd_536 wd_312 wd_310 xw_X10_takeText rfl (by decide) rfl rfl dX9_readPiece_13) (ev_X10_takeText hO hP h_89) xw_X10_takeText rfl wd_118 dX9_readPiece_13 (by decide) (by decide) (by simp [x_cat, x_catI, x_catJ])
      refine x_callR z9 ?_
      refine ev_at (st' := []) rfl rfl ?_
      refine ev_aload_n (j := 0) (x := (some a0)) dX9_readPiece_16 rfl rfl ?_
      obtain ⟨c_94, h⟩ := x_chk_e h
      rcases x_bind_e h with ⟨v_91, σ_92, h_93, h⟩ | ⟨E_102, σ_92, h_93, h⟩
      · have z9 := x_call (M := mX9_readPiece) (M' := mX8_startModule) (pc := 17) (st := [va_rf (some a0)]) (rest := []) (av := [va_rf (some a0)]) (x_linkU (M := mX9_readPiece) (M' := mX8_startModule) (As := []) (index := 27) (C := RX9) (T := TX9) (owner := "NetlistForms$Reader") (x := ⟨"NetlistForms$ShortReader", "startModule", "()V"⟩) (xE_9 c_94) rfl wd_549 wd_550 (Or.inr rfl) wd_316 wd_551 xw_X8_startModule rfl (by decide) rfl rfl dX9_readPiece_17) (ev_X8_startModule hO hP h_93) xw_X8_startModule rfl wd_104 dX9_readPiece_17 (by decide) (by decide) (by simp [x_cat, x_catI, x_catJ])
        refine x_callR z9 ?_
        refine ev_at (st' := []) rfl rfl ?_
        refine ev_aload_n (j := 0) (x := (some a0)) dX9_readPiece_20 rfl rfl ?_
        obtain ⟨c_95, h⟩ := x_chk_e h
        refine ev_get (C := RX9) (T := TX9) (k := 0) inX9 (xE_9 c_95) rfl (by decide) wd_403 (Or.inr wd_402) rfl dX9_readPiece_21 ?_
        refine ev_bipush (v := 59) dX9_readPiece_24 (by decide) ?_
        obtain ⟨a_96, ea_96, h⟩ := x_some_e h
        refine ev_at (st' := [.int 59, va_rf (some a_96)]) rfl (by rw [ea_96]) ?_
        obtain ⟨c_100, h⟩ := x_chk_e h
        rcases x_bind_e h with ⟨v_97, σ_98, h_99, h⟩ | ⟨E_101, σ_98, h_99, h⟩
        · have z9 := x_call (M := mX9_readPiece) (M' := mX10_takeSign) (pc := 26) (st := [.int 59, va_rf (some a_96)]) (rest := []) (av := [va_rf (some a_96), .int 59]) (x_linkV (M := mX9_readPiece) (M' := mX10_takeSign) (As := [.int 59]) (index := 31) (C := RX10) (T := TX10) (xE_10 c_100) rfl wd_527 wd_321 wd_319 xw_X10_takeSign rfl (by decide) rfl rfl dX9_readPiece_26) (ev_X10_takeSign hO hP h_99) xw_X10_takeSign rfl wd_118 dX9_readPiece_26 (by decide) (by decide) (by simp [x_cat, x_catI, x_catJ])
          refine x_callR z9 ?_
          refine ev_at (st' := []) rfl rfl ?_
          refine ev_goto (tgt := 153) dX9_readPiece_29 (by decide) ?_
          exact ev_sub [] rfl (ev_X9_readPiece_p153 hO hP h)
        · have z9 := x_call (M := mX9_readPiece) (M' := mX10_takeSign) (pc := 26) (st := [.int 59, va_rf (some a_96)]) (rest := []) (av := [va_rf (some a_96), .int 59]) (x_linkV (M := mX9_readPiece) (M' := mX10_takeSign) (As := [.int 59]) (index := 31) (C := RX10) (T := TX10) (xE_10 c_100) rfl wd_527 wd_321 wd_319 xw_X10_takeSign rfl (by decide) rfl rfl dX9_readPiece_26) (ev_X10_takeSign hO hP h_99) xw_X10_takeSign rfl wd_118 dX9_readPiece_26 (by decide) (by decide) (by simp [x_cat, x_catI, x_catJ])
          cases h
          exact x_callX z9 (evX_out rfl)
      · have z9 := x_call (M := mX9_readPiece) (M' := mX8_startModule) (pc := 17) (st := [va_rf (some a0)]) (rest := []) (av := [va_rf (some a0)]) (x_linkU (M := mX9_readPiece) (M' := mX8_startModule) (As := []) (index := 27) (C := RX9) (T := TX9) (owner := "NetlistForms$Reader") (x := ⟨"NetlistForms$ShortReader", "startModule", "()V"⟩) (xE_9 c_94) rfl wd_549 wd_550 (Or.inr rfl) wd_316 wd_551 xw_X8_startModule rfl (by decide) rfl rfl dX9_readPiece_17) (ev_X8_startModule hO hP h_93) xw_X8_startModule rfl wd_104 dX9_readPiece_17 (by decide) (by decide) (by simp [x_cat, x_catI, x_catJ])
        cases h
        exact x_callX z9 (evX_out rfl)
    · have z9 := x_call (M := mX9_readPiece) (M' := mX10_takeText) (pc := 13) (st := [va_rf (some (P.ad 17)), va_rf (some a_86)]) (rest := []) (av := [va_rf (some a_86), va_rf (some (P.ad 17))]) (x_linkV (M := mX9_readPiece) (M' := mX10_takeText) (As := [va_rf (some (P.ad 17))]) (index := 21) (C := RX10) (T := TX10) (xE_10 c_90) rfl wd_536 wd_312 wd_310 xw_X10_takeText rfl (by decide) rfl rfl dX9_readPiece_13) (ev_X10_takeText hO hP h_89) xw_X10_takeText rfl wd_118 dX9_readPiece_13 (by decide) (by decide) (by simp [x_cat, x_catI, x_catJ])
      cases h
      exact x_callX z9 (evX_out rfl)
  · rw [if_neg c_2] at h
    refine ev_ifnonnull (x := (σ.R 302 a0)) (tgt := 32) dX9_readPiece_4 (by decide) (fun _ => ?_) (fun q9 => absurd q9 c_2)
    refine ev_aload_n (j := 0) (x := (some a0)) dX9_readPiece_32 rfl rfl ?_
    refine ev_get (C := RX9) (T := TX9) (k := 0) inX9 (xE_9 c_1) rfl (by decide) wd_403 (Or.inr wd_402) rfl dX9_readPiece_33 ?_
    refine ev_ldcS (q := ("NetlistForms$ShortReader", 35, "i", 13)) hP (List.mem_of_getElem? (i := 25) rfl) rfl dX9_readPiece_36 ?_
    obtain ⟨a_3, ea_3, h⟩ := x_some_e h
    refine ev_at (st' := [va_rf (some (P.ad 13)), va_rf (some a_3)]) rfl (by rw [ea_3]) ?_
    obtain ⟨c_7, h⟩ := x_chk_e h
    rcases x_bind_e h with ⟨v_4, σ_5, h_6, h⟩ | ⟨E_85, σ_5, h_6, h⟩
    · have z9 := x_call (M := mX9_readPiece) (M' := mX10_isText) (pc := 38) (st := [va_rf (some (P.ad 13)), va_rf (some a_3)]) (rest := []) (av := [va_rf (some a_3), va_rf (some (P.ad 13))]) (x_linkV (M := mX9_readPiece) (M' := mX10_isText) (As := [va_rf (some (P.ad 13))]) (index := 37) (C := RX10) (T := TX10) (xE_10 c_7) rfl wd_535 wd_239 wd_237 xw_X10_isText rfl (by decide) rfl rfl dX9_readPiece_38) (ev_X10_isText hO hP h_6) xw_X10_isText rfl wd_118 dX9_readPiece_38 (by decide) (by decide) (by simp [x_cat, x_catI, x_catJ])
      refine x_callR z9 ?_
      refine ev_at (st' := [.int v_4]) rfl rfl ?_
      by_cases c_8 : v_4 = 0
      · rw [if_pos c_8] at h
        refine ev_if_eq (x := v_4) (tgt := 52) dX9_readPiece_41 (by decide) (fun _ => ?_) (fun q9 => absurd c_8 q9)
        refine ev_aload_n (j := 0) (x := (some a0)) dX9_readPiece_52 rfl rfl ?_
        obtain ⟨c_9, h⟩ := x_chk_e h
        refine ev_get (C := RX9) (T := TX9) (k := 0) inX9 (xE_9 c_9) rfl (by decide) wd_403 (Or.inr wd_402) rfl dX9_readPiece_53 ?_
        refine ev_ldcS (q := ("NetlistForms$ShortReader", 47, "o", 21)) hP (List.mem_of_getElem? (i := 26) rfl) rfl dX9_readPiece_56 ?_
        obtain ⟨a_10, ea_10, h⟩ := x_some_e h
        refine ev_at (st' := [va_rf (some (P.ad 21)), va_rf (some a_10)]) rfl (by rw [ea_10]) ?_
        obtain ⟨c_14, h⟩ := x_chk_e h
        rcases x_bind_e h with ⟨v_11, σ_12, h_13, h⟩ | ⟨E_79, σ_12, h_13, h⟩
        · have z9 := x_call (M := mX9_readPiece) (M' := mX10_isText) (pc := 58) (st := [va_rf (some (P.ad 21)), va_rf (some a_10)]) (rest := []) (av := [va_rf (some a_10), va_rf (some (P.ad 21))]) (x_linkV (M := mX9_readPiece) (M' := mX10_isText) (As := [va_rf (some (P.ad 21))]) (index := 37) (C := RX10) (T := TX10) (xE_10 c_14) rfl wd_535 wd_239 wd_237 xw_X10_isText rfl (by decide) rfl rfl dX9_readPiece_58) (ev_X10_isText hO hP h_13) xw_X10_isText rfl wd_118 dX9_readPiece_58 (by decide) (by decide) (by simp [x_cat, x_catI, x_catJ])
          refine x_callR z9 ?_
          refine ev_at (st' := [.int v_11]) rfl rfl ?_
          by_cases c_15 : v_11 = 0
          · rw [if_pos c_15] at h
            refine ev_if_eq (x := v_11) (tgt := 72) dX9_readPiece_61 (by decide) (fun _ => ?_) (fun q9 => absurd c_15 q9)
            refine ev_aload_n (j := 0) (x := (some a0)) dX9_readPiece_72 rfl rfl ?_
            obtain ⟨c_16, h⟩ := x_chk_e h
            refine ev_get (C := RX9) (T := TX9) (k := 0) inX9 (xE_9 c_16) rfl (by decide) wd_403 (Or.inr wd_402) rfl dX9_readPiece_73 ?_
            refine ev_ldcS (q := ("NetlistForms$ShortReader", 49, "w", 27)) hP (List.mem_of_getElem? (i := 27) rfl) rfl dX9_readPiece_76 ?_
            obtain ⟨a_17, ea_17, h⟩ := x_some_e h
            refine ev_at (st' := [va_rf (some (P.ad 27)), va_rf (some a_17)]) rfl (by rw [ea_17]) ?_
            obtain ⟨c_21, h⟩ := x_chk_e h
            rcases x_bind_e h with ⟨v_18, σ_19, h_20, h⟩ | ⟨E_73, σ_19, h_20, h⟩
            · have z9 := x_call (M := mX9_readPiece) (M' := mX10_isText) (pc := 78) (st := [va_rf (some (P.ad 27)), va_rf (some a_17)]) (rest := []) (av := [va_rf (some a_17), va_rf (some (P.ad 27))]) (x_linkV (M := mX9_readPiece) (M' := mX10_isText) (As := [va_rf (some (P.ad 27))]) (index := 37) (C := RX10) (T := TX10) (xE_10 c_21) rfl wd_535 wd_239 wd_237 xw_X10_isText rfl (by decide) rfl rfl dX9_readPiece_78) (ev_X10_isText hO hP h_20) xw_X10_isText rfl wd_118 dX9_readPiece_78 (by decide) (by decide) (by simp [x_cat, x_catI, x_catJ])
              refine x_callR z9 ?_
              refine ev_at (st' := [.int v_18]) rfl rfl ?_
              by_cases c_22 : v_18 = 0
              · rw [if_pos c_22] at h
                refine ev_if_eq (x := v_18) (tgt := 92) dX9_readPiece_81 (by decide) (fun _ => ?_) (fun q9 => absurd c_22 q9)
                refine ev_aload_n (j := 0) (x := (some a0)) dX9_readPiece_92 rfl rfl ?_
                obtain ⟨c_23, h⟩ := x_chk_e h
                refine ev_get (C := RX9) (T := TX9) (k := 0) inX9 (xE_9 c_23) rfl (by decide) wd_403 (Or.inr wd_402) rfl dX9_readPiece_93 ?_
                refine ev_ldcS (q := ("NetlistForms$ShortReader", 51, "a", 5)) hP (List.mem_of_getElem? (i := 28) rfl) rfl dX9_readPiece_96 ?_
                obtain ⟨a_24, ea_24, h⟩ := x_some_e h
                refine ev_at (st' := [va_rf (some (P.ad 5)), va_rf (some a_24)]) rfl (by rw [ea_24]) ?_
                obtain ⟨c_28, h⟩ := x_chk_e h
                rcases x_bind_e h with ⟨v_25, σ_26, h_27, h⟩ | ⟨E_67, σ_26, h_27, h⟩
                · have z9 := x_call (M := mX9_readPiece) (M' := mX10_isText) (pc := 98) (st := [va_rf (some (P.ad 5)), va_rf (some a_24)]) (rest := []) (av := [va_rf (some a_24), va_rf (some (P.ad 5))]) (x_linkV (M := mX9_readPiece) (M' := mX10_isText) (As := [va_rf (some (P.ad 5))]) (index := 37) (C := RX10) (T := TX10) (xE_10 c_28) rfl wd_535 wd_239 wd_237 xw_X10_isText rfl (by decide) rfl rfl dX9_readPiece_98) (ev_X10_isText hO hP h_27) xw_X10_isText rfl wd_118 dX9_readPiece_98 (by decide) (by decide) (by simp [x_cat, x_catI, x_catJ])
                  refine x_callR z9 ?_
                  refine ev_at (st' := [.int v_25]) rfl rfl ?_
                  by_cases c_29 : v_25 = 0
                  · rw [if_pos c_29] at h
                    refine ev_if_eq (x := v_25) (tgt := 112) dX9_readPiece_101 (by decide) (fun _ => ?_) (fun q9 => absurd c_29 q9)
                    refine ev_aload_n (j := 0) (x := (some a0)) dX9_readPiece_112 rfl rfl ?_
                    obtain ⟨c_30, h⟩ := x_chk_e h
                    refine ev_get (C := RX9) (T := TX9) (k := 0) inX9 (xE_9 c_30) rfl (by decide) wd_403 (Or.inr wd_402) rfl dX9_readPiece_113 ?_
                    refine ev_ldcS (q := ("NetlistForms$ShortReader", 57, "u", 25)) hP (List.mem_of_getElem? (i := 29) rfl) rfl dX9_readPiece_116 ?_
                    obtain ⟨a_31, ea_31, h⟩ := x_some_e h
                    refine ev_at (st' := [va_rf (some (P.ad 25)), va_rf (some a_31)]) rfl (by rw [ea_31]) ?_
                    obtain ⟨c_35, h⟩ := x_chk_e h
                    rcases x_bind_e h with ⟨v_32, σ_33, h_34, h⟩ | ⟨E_61, σ_33, h_34, h⟩
                    · have z9 := x_call (M := mX9_readPiece) (M' := mX10_isText) (pc := 118) (st := [va_rf (some (P.ad 25)), va_rf (some a_31)]) (rest := []) (av := [va_rf (some a_31), va_rf (some (P.ad 25))]) (x_linkV (M := mX9_readPiece) (M' := mX10_isText) (As := [va_rf (some (P.ad 25))]) (index := 37) (C := RX10) (T := TX10) (xE_10 c_35) rfl wd_535 wd_239 wd_237 xw_X10_isText rfl (by decide) rfl rfl dX9_readPiece_118) (ev_X10_isText hO hP h_34) xw_X10_isText rfl wd_118 dX9_readPiece_118 (by decide) (by decide) (by simp [x_cat, x_catI, x_catJ])
                      refine x_callR z9 ?_
                      refine ev_at (st' := [.int v_32]) rfl rfl ?_
                      by_cases c_36 : v_32 = 0
                      · rw [if_pos c_36] at h
                        refine ev_if_eq (x := v_32) (tgt := 131) dX9_readPiece_121 (by decide) (fun _ => ?_) (fun q9 => absurd c_36 q9)
                        refine ev_aload_n (j := 0) (x := (some a0)) dX9_readPiece_131 rfl rfl ?_
                        obtain ⟨c_37, h⟩ := x_chk_e h
                        refine ev_get (C := RX9) (T := TX9) (k := 0) inX9 (xE_9 c_37) rfl (by decide) wd_403 (Or.inr wd_402) rfl dX9_readPiece_132 ?_
                        refine ev_ldcS (q := ("NetlistForms$ShortReader", 62, "e", 9)) hP (List.mem_of_getElem? (i := 30) rfl) rfl dX9_readPiece_135 ?_
                        obtain ⟨a_38, ea_38, h⟩ := x_some_e h
                        refine ev_at (st' := [va_rf (some (P.ad 9)), va_rf (some a_38)]) rfl (by rw [ea_38]) ?_
                        obtain ⟨c_42, h⟩ := x_chk_e h
                        rcases x_bind_e h with ⟨v_39, σ_40, h_41, h⟩ | ⟨E_55, σ_40, h_41, h⟩
                        · have z9 := x_call (M := mX9_readPiece) (M' := mX10_takeText) (pc := 137) (st := [va_rf (some (P.ad 9)), va_rf (some a_38)]) (rest := []) (av := [va_rf (some a_38), va_rf (some (P.ad 9))]) (x_linkV (M := mX9_readPiece) (M' := mX10_takeText) (As := [va_rf (some (P.ad 9))]) (index := 21) (C := RX10) (T := TX10) (xE_10 c_42) rfl wd_536 wd_312 wd_310 xw_X10_takeText rfl (by decide) rfl rfl dX9_readPiece_137) (ev_X10_takeText hO hP h_41) xw_X10_takeText rfl wd_118 dX9_readPiece_137 (by decide) (by decide) (by simp [x_cat, x_catI, x_catJ])
                          refine x_callR z9 ?_
                          refine ev_at (st' := []) rfl rfl ?_
                          refine ev_aload_n (j := 0) (x := (some a0)) dX9_readPiece_140 rfl rfl ?_
                          obtain ⟨c_43, h⟩ := x_chk_e h
                          refine ev_get (C := RX9) (T := TX9) (k := 0) inX9 (xE_9 c_43) rfl (by decide) wd_403 (Or.inr wd_402) rfl dX9_readPiece_141 ?_
                          refine ev_bipush (v := 59) dX9_readPiece_144 (by decide) ?_
                          obtain ⟨a_44, ea_44, h⟩ := x_some_e h
                          refine ev_at (st' := [.int 59, va_rf (some a_44)]) rfl (by rw [ea_44]) ?_
                          obtain ⟨c_48, h⟩ := x_chk_e h
                          rcases x_bind_e h with ⟨v_45, σ_46, h_47, h⟩ | ⟨E_54, σ_46, h_47, h⟩
                          · have z9 := x_call (M := mX9_readPiece) (M' := mX10_takeSign) (pc := 146) (st := [.int 59, va_rf (some a_44)]) (rest := []) (av := [va_rf (some a_44), .int 59]) (x_linkV (M := mX9_readPiece) (M' := mX10_takeSign) (As := [.int 59]) (index := 31) (C := RX10) (T := TX10) (xE_10 c_48) rfl wd_527 wd_321 wd_319 xw_X10_takeSign rfl (by decide) rfl rfl dX9_readPiece_146) (ev_X10_takeSign hO hP h_47) xw_X10_takeSign rfl wd_118 dX9_readPiece_146 (by decide) (by decide) (by simp [x_cat, x_catI, x_catJ])
                            refine x_callR z9 ?_
                            refine ev_at (st' := []) rfl rfl ?_
                            refine ev_aload_n (j := 0) (x := (some a0)) dX9_readPiece_149 rfl rfl ?_
                            obtain ⟨c_52, h⟩ := x_chk_e h
                            rcases x_bind_e h with ⟨v_49, σ_50, h_51, h⟩ | ⟨E_53, σ_50, h_51, h⟩
                            · have z9 := x_call (M := mX9_readPiece) (M' := mX8_endModule) (pc := 150) (st := [va_rf (some a0)]) (rest := []) (av := [va_rf (some a0)]) (x_linkU (M := mX9_readPiece) (M' := mX8_endModule) (As := []) (index := 64) (C := RX9) (T := TX9) (owner := "NetlistForms$Reader") (x := ⟨"NetlistForms$ShortReader", "endModule", "()V"⟩) (xE_9 c_52) rfl wd_537 wd_538 (Or.inr rfl) wd_504 wd_539 xw_X8_endModule rfl (by decide) rfl rfl dX9_readPiece_150) (ev_X8_endModule hO hP h_51) xw_X8_endModule rfl wd_104 dX9_readPiece_150 (by decide) (by decide) (by simp [x_cat, x_catI, x_catJ])
                              refine x_callR z9 ?_
                              refine ev_at (st' := []) rfl rfl ?_
                              exact ev_sub [] rfl (ev_X9_readPiece_p153 hO hP h)
                            · have z9 := x_call (M := mX9_readPiece) (M' := mX8_endModule) (pc := 150) (st := [va_rf (some a0)]) (rest := []) (av := [va_rf (some a0)]) (x_linkU (M := mX9_readPiece) (M' := mX8_endModule) (As := []) (index := 64) (C := RX9) (T := TX9) (owner := "NetlistForms$Reader") (x := ⟨"NetlistForms$ShortReader", "endModule", "()V"⟩) (xE_9 c_52) rfl wd_537 wd_538 (Or.inr rfl) wd_504 wd_539 xw_X8_endModule rfl (by decide) rfl rfl dX9_readPiece_150) (ev_X8_endModule hO hP h_51) xw_X8_endModule rfl wd_104 dX9_readPiece_150 (by decide) (by decide) (by simp [x_cat, x_catI, x_catJ])
                              cases h
                              exact x_callX z9 (evX_out rfl)
                          · have z9 := x_call (M := mX9_readPiece) (M' := mX10_takeSign) (pc := 146) (st := [.int 59, va_rf (some a_44)]) (rest := []) (av := [va_rf (some a_44), .int 59]) (x_linkV (M := mX9_readPiece) (M' := mX10_takeSign) (As := [.int 59]) (index := 31) (C := RX10) (T := TX10) (xE_10 c_48) rfl wd_527 wd_321 wd_319 xw_X10_takeSign rfl (by decide) rfl rfl dX9_readPiece_146) (ev_X10_takeSign hO hP h_47) xw_X10_takeSign rfl wd_118 dX9_readPiece_146 (by decide) (by decide) (by simp [x_cat, x_catI, x_catJ])
                            cases h
                            exact x_callX z9 (evX_out rfl)
                        · have z9 := x_call (M := mX9_readPiece) (M' := mX10_takeText) (pc := 137) (st := [va_rf (some (P.ad 9)), va_rf (some a_38)]) (rest := []) (av := [va_rf (some a_38), va_rf (some (P.ad 9))]) (x_linkV (M := mX9_readPiece) (M' := mX10_takeText) (As := [va_rf (some (P.ad 9))]) (index := 21) (C := RX10) (T := TX10) (xE_10 c_42) rfl wd_536 wd_312 wd_310 xw_X10_takeText rfl (by decide) rfl rfl dX9_readPiece_137) (ev_X10_takeText hO hP h_41) xw_X10_takeText rfl wd_118 dX9_readPiece_137 (by decide) (by decide) (by simp [x_cat, x_catI, x_catJ])
                          cases h
                          exact x_callX z9 (evX_out rfl)
                      · rw [if_neg c_36] at h
                        refine ev_if_eq (x := v_32) (tgt := 131) dX9_readPiece_121 (by decide) (fun q9 => absurd q9 c_36) (fun _ => ?_)
                        refine ev_aload_n (j := 0) (x := (some a0)) dX9_readPiece_124 rfl rfl ?_
                        obtain ⟨c_59, h⟩ := x_chk_e h
                        rcases x_bind_e h with ⟨v_56, σ_57, h_58, h⟩ | ⟨E_60, σ_57, h_58, h⟩
                        · have z9 := x_call (M := mX9_readPiece) (M' := mX9_readInstance) (pc := 125) (st := [va_rf (some a0)]) (rest := []) (av := [va_rf (some a0)]) (x_linkV (M := mX9_readPiece) (M' := mX9_readInstance) (As := []) (index := 59) (C := RX9) (T := TX9) (xE_9 c_59) rfl wd_541 wd_542 (wG_in (List.mem_append_left _ (List.mem_of_getElem? (i := 14) rfl)) rfl) xw_X9_readInstance rfl (by decide) rfl rfl dX9_readPiece_125) (ev_X9_readInstance hO hP h_58) xw_X9_readInstance rfl wd_131 dX9_readPiece_125 (by decide) (by decide) (by simp [x_cat, x_catI, x_catJ])
                          refine x_callR z9 ?_
                          refine ev_at (st' := []) rfl rfl ?_
                          refine ev_goto (tgt := 153) dX9_readPiece_128 (by decide) ?_
                          exact ev_sub [] rfl (ev_X9_readPiece_p153 hO hP h)
                        · have z9 := x_call (M := mX9_readPiece) (M' := mX9_readInstance) (pc := 125) (st := [va_rf (some a0)]) (rest := []) (av := [va_rf (some a0)]) (x_linkV (M := mX9_readPiece) (M' := mX9_readInstance) (As := []) (index := 59) (C := RX9) (T := TX9) (xE_9 c_59) rfl wd_541 wd_542 (wG_in (List.mem_append_left _ (List.mem_of_getElem? (i := 14) rfl)) rfl) xw_X9_readInstance rfl (by decide) rfl rfl dX9_readPiece_125) (ev_X9_readInstance hO hP h_58) xw_X9_readInstance rfl wd_131 dX9_readPiece_125 (by decide) (by decide) (by simp [x_cat, x_catI, x_catJ])
                          cases h
                          exact x_callX z9 (evX_out rfl)
                    · have z9 := x_call (M := mX9_readPiece) (M' := mX10_isText) (pc := 118) (st := [va_rf (some (P.ad 25)), va_rf (some a_31)]) (rest := []) (av := [va_rf (some a_31), va_rf (some (P.ad 25))]) (x_linkV (M := mX9_readPiece) (M' := mX10_isText) (As := [va_rf (some (P.ad 25))]) (index := 37) (C := RX10) (T := TX10) (xE_10 c_35) rfl wd_535 wd_239 wd_237 xw_X10_isText rfl (by decide) rfl rfl dX9_readPiece_118) (ev_X10_isText hO hP h_34) xw_X10_isText rfl wd_118 dX9_readPiece_118 (by decide) (by decide) (by simp [x_cat, x_catI, x_catJ])
                      cases h
                      exact x_callX z9 (evX_out rfl)
                  · rw [if_neg c_29] at h
                    refine ev_if_eq (x := v_25) (tgt := 112) dX9_readPiece_101 (by decide) (fun q9 => absurd q9 c_29) (fun _ => ?_)
                    refine ev_aload_n (j := 0) (x := (some a0)) dX9_readPiece_104 rfl rfl ?_
                    refine ev_iconst (v := 0) dX9_readPiece_105 (by decide) ?_
                    obtain ⟨c_65, h⟩ := x_chk_e h
                    rcases x_bind_e h with ⟨v_62, σ_63, h_64, h⟩ | ⟨E_66, σ_63, h_64, h⟩
                    · have z9 := x_call (M := mX9_readPiece) (M' := mX8_readAssign) (pc := 106) (st := [.int 0, va_rf (some a0)]) (rest := []) (av := [va_rf (some a0), .int 0]) (x_linkU (M := mX9_readPiece) (M' := mX8_readAssign) (As := [.int 0]) (index := 53) (C := RX9) (T := TX9) (owner := "NetlistForms$Reader") (x := ⟨"NetlistForms$ShortReader", "readAssign", "(Z)V"⟩) (xE_9 c_65) rfl wd_543 wd_544 (Or.inr rfl) wd_509 wd_545 xw_X8_readAssign rfl (by decide) rfl rfl dX9_readPiece_106) (ev_X8_readAssign hO hP h_64) xw_X8_readAssign rfl wd_104 dX9_readPiece_106 (by decide) (by decide) (by simp [x_cat, x_catI, x_catJ])
                      refine x_callR z9 ?_
                      refine ev_at (st' := []) rfl rfl ?_
                      refine ev_goto (tgt := 153) dX9_readPiece_109 (by decide) ?_
                      exact ev_sub [] rfl (ev_X9_readPiece_p153 hO hP h)
                    · have z9 := x_call (M := mX9_readPiece) (M' := mX8_readAssign) (pc := 106) (st := [.int 0, va_rf (some a0)]) (rest := []) (av := [va_rf (some a0), .int 0]) (x_linkU (M := mX9_readPiece) (M' := mX8_readAssign) (As := [.int 0]) (index := 53) (C := RX9) (T := TX9) (owner := "NetlistForms$Reader") (x := ⟨"NetlistForms$ShortReader", "readAssign", "(Z)V"⟩) (xE_9 c_65) rfl wd_543 wd_544 (Or.inr rfl) wd_509 wd_545 xw_X8_readAssign rfl (by decide) rfl rfl dX9_readPiece_106) (ev_X8_readAssign hO hP h_64) xw_X8_readAssign rfl wd_104 dX9_readPiece_106 (by decide) (by decide) (by simp [x_cat, x_catI, x_catJ])
                      cases h
                      exact x_callX z9 (evX_out rfl)
                · have z9 := x_call (M := mX9_readPiece) (M' := mX10_isText) (pc := 98) (st := [va_rf (some (P.ad 5)), va_rf (some a_24)]) (rest := []) (av := [va_rf (some a_24), va_rf (some (P.ad 5))]) (x_linkV (M := mX9_readPiece) (M' := mX10_isText) (As := [va_rf (some (P.ad 5))]) (index := 37) (C := RX10) (T := TX10) (xE_10 c_28) rfl wd_535 wd_239 wd_237 xw_X10_isText rfl (by decide) rfl rfl dX9_readPiece_98) (ev_X10_isText hO hP h_27) xw_X10_isText rfl wd_118 dX9_readPiece_98 (by decide) (by decide) (by simp [x_cat, x_catI, x_catJ])
                  cases h
                  exact x_callX z9 (evX_out rfl)
              · rw [if_neg c_22] at h
                refine ev_if_eq (x := v_18) (tgt := 92) dX9_readPiece_81 (by decide) (fun q9 => absurd q9 c_22) (fun _ => ?_)
                refine ev_aload_n (j := 0) (x := (some a0)) dX9_readPiece_84 rfl rfl ?_
                refine ev_iconst (v := 2) dX9_readPiece_85 (by decide) ?_
                obtain ⟨c_71, h⟩ := x_chk_e h
                rcases x_bind_e h with ⟨v_68, σ_69, h_70, h⟩ | ⟨E_72, σ_69, h_70, h⟩
                · have z9 := x_call (M := mX9_readPiece) (M' := mX9_readNet) (pc := 86) (st := [.int 2, va_rf (some a0)]) (rest := []) (av := [va_rf (some a0), .int 2]) (x_linkV (M := mX9_readPiece) (M' := mX9_readNet) (As := [.int 2]) (index := 43) (C := RX9) (T := TX9) (xE_9 c_71) rfl wd_547 wd_548 (wG_in (List.mem_append_left _ (List.mem_of_getElem? (i := 13) rfl)) rfl) xw_X9_readNet rfl (by decide) rfl rfl dX9_readPiece_86) (ev_X9_readNet hO hP h_70) xw_X9_readNet rfl wd_131 dX9_readPiece_86 (by decide) (by decide) (by simp [x_cat, x_catI, x_catJ])
                  refine x_callR z9 ?_
                  refine ev_at (st' := []) rfl rfl ?_
                  refine ev_goto (tgt := 153) dX9_readPiece_89 (by decide) ?_
                  exact ev_sub [] rfl (ev_X9_readPiece_p153 hO hP h)
                · have z9 := x_call (M := mX9_readPiece) (M' := mX9_readNet) (pc := 86) (st := [.int 2, va_rf (some a0)]) (rest := []) (av := [va_rf (some a0), .int 2]) (x_linkV (M := mX9_readPiece) (M' := mX9_readNet) (As := [.int 2]) (index := 43) (C := RX9) (T := TX9) (xE_9 c_71) rfl wd_547 wd_548 (wG_in (List.mem_append_left _ (List.mem_of_getElem? (i := 13) rfl)) rfl) xw_X9_readNet rfl (by decide) rfl rfl dX9_readPiece_86) (ev_X9_readNet hO hP h_70) xw_X9_readNet rfl wd_131 dX9_readPiece_86 (by decide) (by decide) (by simp [x_cat, x_catI, x_catJ])
                  cases h
                  exact x_callX z9 (evX_out rfl)
            · have z9 := x_call (M := mX9_readPiece) (M' := mX10_isText) (pc := 78) (st := [va_rf (some (P.ad 27)), va_rf (some a_17)]) (rest := []) (av := [va_rf (some a_17), va_rf (some (P.ad 27))]) (x_linkV (M := mX9_readPiece) (M' := mX10_isText) (As := [va_rf (some (P.ad 27))]) (index := 37) (C := RX10) (T := TX10) (xE_10 c_21) rfl wd_535 wd_239 wd_237 xw_X10_isText rfl (by decide) rfl rfl dX9_readPiece_78) (ev_X10_isText hO hP h_20) xw_X10_isText rfl wd_118 dX9_readPiece_78 (by decide) (by decide) (by simp [x_cat, x_catI, x_catJ])
              cases h
              exact x_callX z9 (evX_out rfl)
          · rw [if_neg c_15] at h
            refine ev_if_eq (x := v_11) (tgt := 72) dX9_readPiece_61 (by decide) (fun q9 => absurd q9 c_15) (fun _ => ?_)
            refine ev_aload_n (j := 0) (x := (some a0)) dX9_readPiece_64 rfl rfl ?_
            refine ev_iconst (v := 1) dX9_readPiece_65 (by decide) ?_
            obtain ⟨c_77, h⟩ := x_chk_e h
            rcases x_bind_e h with ⟨v_74, σ_75, h_76, h⟩ | ⟨E_78, σ_75, h_76, h⟩
            · have z9 := x_call (M := mX9_readPiece) (M' := mX9_readNet) (pc := 66) (st := [.int 1, va_rf (some a0)]) (rest := []) (av := [va_rf (some a0), .int 1]) (x_linkV (M := mX9_readPiece) (M' := mX9_readNet) (As := [.int 1]) (index := 43) (C := RX9) (T := TX9) (xE_9 c_77) rfl wd_547 wd_548 (wG_in (List.mem_append_left _ (List.mem_of_getElem? (i := 13) rfl)) rfl) xw_X9_readNet rfl (by decide) rfl rfl dX9_readPiece_66) (ev_X9_readNet hO hP h_76) xw_X9_readNet rfl wd_131 dX9_readPiece_66 (by decide) (by decide) (by simp [x_cat, x_catI, x_catJ])
              refine x_callR z9 ?_
              refine ev_at (st' := []) rfl rfl ?_
              refine ev_goto (tgt := 153) dX9_readPiece_69 (by decide) ?_
              exact ev_sub [] rfl (ev_X9_readPiece_p153 hO hP h)
            · have z9 := x_call (M := mX9_readPiece) (M' := mX9_readNet) (pc := 66) (st := [.int 1, va_rf (some a0)]) (rest := []) (av := [va_rf (some a0), .int 1]) (x_linkV (M := mX9_readPiece) (M' := mX9_readNet) (As := [.int 1]) (index := 43) (C := RX9) (T := TX9) (xE_9 c_77) rfl wd_547 wd_548 (wG_in (List.mem_append_left _ (List.mem_of_getElem? (i := 13) rfl)) rfl) xw_X9_readNet rfl (by decide) rfl rfl dX9_readPiece_66) (ev_X9_readNet hO hP h_76) xw_X9_readNet rfl wd_131 dX9_readPiece_66 (by decide) (by decide) (by simp [x_cat, x_catI, x_catJ])
              cases h
              exact x_callX z9 (evX_out rfl)
        · have z9 := x_call (M := mX9_readPiece) (M' := mX10_isText) (pc := 58) (st := [va_rf (some (P.ad 21)), va_rf (some a_10)]) (rest := []) (av := [va_rf (some a_10), va_rf (some (P.ad 21))]) (x_linkV (M := mX9_readPiece) (M' := mX10_isText) (As := [va_rf (some (P.ad 21))]) (index := 37) (C := RX10) (T := TX10) (xE_10 c_14) rfl wd_535 wd_239 wd_237 xw_X10_isText rfl (by decide) rfl rfl dX9_readPiece_58) (ev_X10_isText hO hP h_13) xw_X10_isText rfl wd_118 dX9_readPiece_58 (by decide) (by decide) (by simp [x_cat, x_catI, x_catJ])
          cases h
          exact x_callX z9 (evX_out rfl)
      · rw [if_neg c_8] at h
        refine ev_if_eq (x := v_4) (tgt := 52) dX9_readPiece_41 (by decide) (fun q9 => absurd q9 c_8) (fun _ => ?_)
        refine ev_aload_n (j := 0) (x := (some a0)) dX9_readPiece_44 rfl rfl ?_
        refine ev_iconst (v := 0) dX9_readPiece_45 (by decide) ?_
        obtain ⟨c_83, h⟩ := x_chk_e h
        rcases x_bind_e h with ⟨v_80, σ_81, h_82, h⟩ | ⟨E_84, σ_81, h_82, h⟩
        · have z9 := x_call (M := mX9_readPiece) (M' := mX9_readNet) (pc := 46) (st := [.int 0, va_rf (some a0)]) (rest := []) (av := [va_rf (some a0), .int 0]) (x_linkV (M := mX9_readPiece) (M' := mX9_readNet) (As := [.int 0]) (index := 43) (C := RX9) (T := TX9) (xE_9 c_83) rfl wd_547 wd_548 (wG_in (List.mem_append_left _ (List.mem_of_getElem? (i := 13) rfl)) rfl) xw_X9_readNet rfl (by decide) rfl rfl dX9_readPiece_46) (ev_X9_readNet hO hP h_82) xw_X9_readNet rfl wd_131 dX9_readPiece_46 (by decide) (by decide) (by simp [x_cat, x_catI, x_catJ])
          refine x_callR z9 ?_
          refine ev_at (st' := []) rfl rfl ?_
          refine ev_goto (tgt := 153) dX9_readPiece_49 (by decide) ?_
          exact ev_sub [] rfl (ev_X9_readPiece_p153 hO hP h)
        · have z9 := x_call (M := mX9_readPiece) (M' := mX9_readNet) (pc := 46) (st := [.int 0, va_rf (some a0)]) (rest := []) (av := [va_rf (some a0), .int 0]) (x_linkV (M := mX9_readPiece) (M' := mX9_readNet) (As := [.int 0]) (index := 43) (C := RX9) (T := TX9) (xE_9 c_83) rfl wd_547 wd_548 (wG_in (List.mem_append_left _ (List.mem_of_getElem? (i := 13) rfl)) rfl) xw_X9_readNet rfl (by decide) rfl rfl dX9_readPiece_46) (ev_X9_readNet hO hP h_82) xw_X9_readNet rfl wd_131 dX9_readPiece_46 (by decide) (by decide) (by simp [x_cat, x_catI, x_catJ])
          cases h
          exact x_callX z9 (evX_out rfl)
    · have z9 := x_call (M := mX9_readPiece) (M' := mX10_isText) (pc := 38) (st := [va_rf (some (P.ad 13)), va_rf (some a_3)]) (rest := []) (av := [va_rf (some a_3), va_rf (some (P.ad 13))]) (x_linkV (M := mX9_readPiece) (M' := mX10_isText) (As := [va_rf (some (P.ad 13))]) (index := 37) (C := RX10) (T := TX10) (xE_10 c_7) rfl wd_535 wd_239 wd_237 xw_X10_isText rfl (by decide) rfl rfl dX9_readPiece_38) (ev_X10_isText hO hP h_6) xw_X10_isText rfl wd_118 dX9_readPiece_38 (by decide) (by decide) (by simp [x_cat, x_catI, x_catJ])
      cases h
      exact x_callX z9 (evX_out rfl)
set_option maxHeartbeats 4000000 in
set_option maxRecDepth 100000 in
theorem ev_X0_nameKinds_L2 {l : Launch} {G : xG} (hO : x_OK l G) {P : xP} (hP : x_PG P G) {a0 : Nat} : ∀ (n : Nat) {v1 : Option Nat} {v2 : Int32} {σ σ' : xS} {rr : Unit ⊕ String}, dm_X0_nameKinds_L2 P a0 n v1 v2 σ = some (rr, σ') → Ev l G mX0_nameKinds 2 [(0, va_rf (some a0)), (1, va_rf v1), (2, .int v2)] [] σ (xrV rr) σ' := by
  intro n
  induction n with
  | zero => intro v1 v2 σ σ' rr h; cases h
  | succ n ih =>
    intro v1 v2 σ σ' rr h
    rw [dm_X0_nameKinds_L2] at h
    refine ev_iload_n (j := 2) (x := v2) dX0_nameKinds_2 rfl rfl ?_
    refine ev_aload_n (j := 1) (x := v1) dX0_nameKinds_3 rfl rfl ?_
    obtain ⟨a_1, ea_1, h⟩ := x_some_e h
    refine ev_at (st' := [va_rf (some a_1), .int v2]) rfl (by rw [ea_1]) ?_
    obtain ⟨c_2, h⟩ := x_chk_e h
    refine ev_get (C := RX5) (T := TX5) (k := 11) inX5 (xE_6 c_2) rfl (by decide) wd_552 (Or.inl rfl) rfl dX0_nameKinds_4 ?_
    by_cases c_3 : (σ.I 511 a_1) ≤ v2
    · rw [if_pos c_3] at h
      refine ev_icmp_ge (x := v2) (y := (σ.I 511 a_1)) (tgt := 38) dX0_nameKinds_7 (by decide) (fun _ => ?_) (fun q9 => absurd c_3 q9)
      cases h
      exact ev_vret rfl dX0_nameKinds_38
    · rw [if_neg c_3] at h
      refine ev_icmp_ge (x := v2) (y := (σ.I 511 a_1)) (tgt := 38) dX0_nameKinds_7 (by decide) (fun q9 => absurd q9 c_3) (fun _ => ?_)
      refine ev_aload_n (j := 1) (x := v1) dX0_nameKinds_10 rfl rfl ?_
      refine ev_at (st' := [va_rf (some a_1)]) rfl (by rw [ea_1]) ?_
      refine ev_get (C := RX5) (T := TX5) (k := 10) inX5 (xE_6 c_2) rfl (by decide) wd_553 (Or.inl rfl) rfl dX0_nameKinds_11 ?_
      refine ev_iload_n (j := 2) (x := v2) dX0_nameKinds_14 rfl rfl ?_
      obtain ⟨a_4, ea_4, h⟩ := x_some_e h
      refine ev_at (st' := [.int v2, va_rf (some a_4)]) rfl (by rw [ea_4]) ?_
      obtain ⟨c_5, h⟩ := x_chk_e h
      refine ev_aald_24 c_5.1 c_5.2 dX0_nameKinds_15 ?_
      refine ev_aload_n (j := 0) (x := (some a0)) dX0_nameKinds_16 rfl rfl ?_
      refine ev_aload_n (j := 1) (x := v1) dX0_nameKinds_17 rfl rfl ?_
      refine ev_at (st' := [va_rf (some a_1), va_rf (some a0), va_rf (σ.AR a_4 (Int32.toNatClampNeg v2))]) rfl (by rw [ea_1]) ?_
      refine ev_get (C := RX5) (T := TX5) (k := 10) inX5 (xE_6 c_2) rfl (by decide) wd_553 (Or.inl rfl) rfl dX0_nameKinds_18 ?_
      refine ev_iload_n (j := 2) (x := v2) dX0_nameKinds_21 rfl rfl ?_
      refine ev_at (st' := [.int v2, va_rf (some a_4), va_rf (some a0), va_rf (σ.AR a_4 (Int32.toNatClampNeg v2))]) rfl (by rw [ea_4]) ?_
      refine ev_aald_24 c_5.1 c_5.2 dX0_nameKinds_22 ?_
      obtain ⟨a_6, ea_6, h⟩ := x_some_e h
      refine ev_at (st' := [va_rf (some a_6), va_rf (some a0), va_rf (σ.AR a_4 (Int32.toNatClampNeg v2))]) rfl (by rw [ea_6]) ?_
      obtain ⟨c_7, h⟩ := x_chk_e h
      refine ev_get (C := RX1) (T := TX1) (k := 0) inX1 (xE_2 c_7) rfl (by decide) wd_554 (Or.inl rfl) rfl dX0_nameKinds_23 ?_
      obtain ⟨c_11, h⟩ := x_chk_e h
      rcases x_bind_e h with ⟨v_8, σ_9, h_10, h⟩ | ⟨E_15, σ_9, h_10, h⟩
      · have z9 := x_call (M := mX0_nameKinds) (M' := mX0_moduleNamed) (pc := 26) (st := [.long (σ.J 100 a_6), va_rf (some a0), va_rf (σ.AR a_4 (Int32.toNatClampNeg v2))]) (rest := [va_rf (σ.AR a_4 (Int32.toNatClampNeg v2))]) (av := [va_rf (some a0), .long (σ.J 100 a_6)]) (x_linkV (M := mX0_nameKinds) (M' := mX0_moduleNamed) (As := [.long (σ.J 100 a_6)]) (index := 25) (C := RX0) (T := TX0) (xE_1 c_11) rfl wd_251 wd_252 wd_250 xw_X0_moduleNamed rfl (by decide) rfl rfl dX0_nameKinds_26) (ev_X0_moduleNamed hO hP h_10) xw_X0_moduleNamed rfl wd_145 dX0_nameKinds_26 (by decide) (by decide) (by simp [x_cat, x_catI, x_catJ])
        refine x_callR z9 ?_
        refine ev_at (st' := [va_rf v_8, va_rf (σ.AR a_4 (Int32.toNatClampNeg v2))]) rfl rfl ?_
        refine ev_at (st' := [va_rf v_8, va_rf (some a_6)]) rfl (by rw [ea_6]) ?_
        obtain ⟨c_12, h⟩ := x_chk_e h
        obtain ⟨σ_13, eσ_13, h⟩ := x_let_e h
        refine ev_put (σ2 := σ_13) (C := RX1) (T := TX1) (k := 6) inX1 tyX1 tyX1_ok nmX1 (xE_2 c_12.1) rfl (by decide) wd_555 (Or.inl rfl) rfl rfl (x_refN _) (x_refF _) (Nat.le_of_ble_eq_true rfl) (hP.2.2.2.1 ▸ c_12.2) (by rw [eσ_13]; exact xP_2_6 _ c_12.1) (by rw [eσ_13]; exact xPut_R) dX0_nameKinds_29 ?_
        obtain ⟨v_14, ev_14, h⟩ := x_let_e h
        refine ev_iinc (j := 2) (x := v2) (v := v_14) (lv' := [(2, .int v_14), (0, va_rf (some a0)), (1, va_rf v1)]) dX0_nameKinds_32 rfl (by rw [ev_14]; rfl) (by decide) (by simp [x_cat, x_catI, x_catJ]) ?_
        refine ev_goto (tgt := 2) dX0_nameKinds_35 (by decide) ?_
        exact ev_sub [1, 2, 0] rfl (ih h)
      · have z9 := x_call (M := mX0_nameKinds) (M' := mX0_moduleNamed) (pc := 26) (st := [.long (σ.J 100 a_6), va_rf (some a0), va_rf (σ.AR a_4 (Int32.toNatClampNeg v2))]) (rest := [va_rf (σ.AR a_4 (Int32.toNatClampNeg v2))]) (av := [va_rf (some a0), .long (σ.J 100 a_6)]) (x_linkV (M := mX0_nameKinds) (M' := mX0_moduleNamed) (As := [.long (σ.J 100 a_6)]) (index := 25) (C := RX0) (T := TX0) (xE_1 c_11) rfl wd_251 wd_252 wd_250 xw_X0_moduleNamed rfl (by decide) rfl rfl dX0_nameKinds_26) (ev_X0_moduleNamed hO hP h_10) xw_X0_moduleNamed rfl wd_145 dX0_nameKinds_26 (by decide) (by decide) (by simp [x_cat, x_catI, x_catJ])
        cases h
        exact x_callX z9 (evX_out rfl)
set_option maxHeartbeats 4000000 in
set_option maxRecDepth 100000 in
theorem ev_X0_nameKinds {l : Launch} {G : xG} (hO : x_OK l G) {P : xP} (hP : x_PG P G) {a0 : Nat} {v1 : Option Nat} {σ σ' : xS} {rr : Unit ⊕ String} (h : dm_X0_nameKinds P a0 v1 σ = some (rr, σ')) : EvM l G mX0_nameKinds [va_rf (some a0), va_rf v1] σ (xrV rr) σ' := by
  unfold dm_X0_nameKinds at h
  refine evM_of hO (by decide +kernel) (x_lenI (by simp [x_cat, x_catI, x_catJ, mX0_nameKinds, xM.maxL])) ?_
  refine Eq.mp (congrArg (fun z => Ev l G mX0_nameKinds 0 z [] σ (xrV rr) σ') (show [(0, va_rf (some a0)), (1, va_rf v1)] = lv_args 0 [va_rf (some a0), va_rf v1] by simp [lv_args, x_cat, x_catI, x_catJ])) ?_
  refine ev_iconst (v := 0) dX0_nameKinds_0 (by decide) ?_
  refine ev_istore_n (i := 2) (lv' := [(2, .int 0), (0, va_rf (some a0)), (1, va_rf v1)]) dX0_nameKinds_1 rfl (by decide) (by simp [x_cat, x_catI, x_catJ]) ?_
  exact ev_sub [1, 2, 0] rfl (ev_X0_nameKinds_L2 hO hP P.N h)
set_option maxHeartbeats 4000000 in
set_option maxRecDepth 100000 in
theorem ev_X5_portAt_p18 {l : Launch} {G : xG} (hO : x_OK l G) {P : xP} (hP : x_PG P G) {a0 : Nat} {s0 : Option Nat} {σ σ' : xS} {rr : Option Nat ⊕ String} (h : dm_X5_portAt_p18 P a0 s0 σ = some (rr, σ')) : Ev l G mX5_portAt 18 [] [va_rf s0] σ (xrR rr) σ' := by
  unfold dm_X5_portAt_p18 at h
  cases h
  exact ev_aret rfl dX5_portAt_18
set_option maxHeartbeats 4000000 in
set_option maxRecDepth 100000 in
theorem ev_X5_portAt {l : Launch} {G : xG} (hO : x_OK l G) {P : xP} (hP : x_PG P G) {a0 : Nat} {v1 : Int32} {σ σ' : xS} {rr : Option Nat ⊕ String} (h : dm_X5_portAt P a0 v1 σ = some (rr, σ')) : EvM l G mX5_portAt [va_rf (some a0), .int v1] σ (xrR rr) σ' := by
  unfold dm_X5_portAt at h
  refine evM_of hO (by decide +kernel) (x_lenI (by simp [x_cat, x_catI, x_catJ, mX5_portAt, xM.maxL])) ?_
  refine Eq.mp (congrArg (fun z => Ev l G mX5_portAt 0 z [] σ (xrR rr) σ') (show [(0, va_rf (some a0)), (1, .int v1)] = lv_args 0 [va_rf (some a0), .int v1] by simp [lv_args, x_cat, x_catI, x_catJ])) ?_
  refine ev_iload_n (j := 1) (x := v1) dX5_portAt_0 rfl rfl ?_
  refine ev_aload_n (j := 0) (x := (some a0)) dX5_portAt_1 rfl rfl ?_
  obtain ⟨c_1, h⟩ := x_chk_e h
  refine ev_get (C := RX5) (T := TX5) (k := 5) inX5 (xE_6 c_1) rfl (by decide) wd_258 (Or.inl rfl) rfl dX5_portAt_2 ?_
  by_cases c_2 : (σ.I 505 a0) ≤ v1
  · rw [if_pos c_2] at h
    refine ev_icmp_ge (x := v1) (y := (σ.I 505 a0)) (tgt := 17) dX5_portAt_5 (by decide) (fun _ => ?_) (fun q9 => absurd c_2 q9)
    refine ev_null dX5_portAt_17 ?_
    exact ev_sub [] rfl (ev_X5_portAt_p18 hO hP h)
  · rw [if_neg c_2] at h
    refine ev_icmp_ge (x := v1) (y := (σ.I 505 a0)) (tgt := 17) dX5_portAt_5 (by decide) (fun q9 => absurd q9 c_2) (fun _ => ?_)
    refine ev_aload_n (j := 0) (x := (some a0)) dX5_portAt_8 rfl rfl ?_
    refine ev_get (C := RX5) (T := TX5) (k := 3) inX5 (xE_6 c_1) rfl (by decide) wd_256 (Or.inl rfl) rfl dX5_portAt_9 ?_
    refine ev_iload_n (j := 1) (x := v1) dX5_portAt_12 rfl rfl ?_
    obtain ⟨a_3, ea_3, h⟩ := x_some_e h
    refine ev_at (st' := [.int v1, va_rf (some a_3)]) rfl (by rw [ea_3]) ?_
    obtain ⟨c_4, h⟩ := x_chk_e h
    refine ev_aald_26 c_4.1 c_4.2 dX5_portAt_13 ?_
    refine ev_goto (tgt := 18) dX5_portAt_14 (by decide) ?_
    exact ev_sub [] rfl (ev_X5_portAt_p18 hO hP h)
set_option maxHeartbeats 4000000 in
set_option maxRecDepth 100000 in
theorem ev_X1_misfit_p129 {l : Launch} {G : xG} (hO : x_OK l G) {P : xP} (hP : x_PG P G) {a0 : Nat} {k39 : Int32 → xS → xO Int32} (hk39 : ∀ {v1 : Int32} {σ σ' : xS} {rr : Int32 ⊕ String}, k39 v1 σ = some (rr, σ') → Ev l G mX1_misfit 39 [(0, va_rf (some a0)), (1, .int v1)] [] σ (xrI rr) σ') {v1 : Int32} {σ σ' : xS} {rr : Int32 ⊕ String} (h : dm_X1_misfit_p129 P k39 a0 v1 σ = some (rr, σ')) : Ev l G mX1_misfit 129 [(0, va_rf (some a0)), (1, .int v1)] [] σ (xrI rr) σ' := by
  unfold dm_X1_misfit_p129 at h
  obtain ⟨v_1, ev_1, h⟩ := x_let_e h
  refine ev_iinc (j := 1) (x := v1) (v := v_1) (lv' := [(1, .int v_1), (0, va_rf (some a0))]) dX1_misfit_129 rfl (by rw [ev_1]; rfl) (by decide) (by simp [x_cat, x_catI, x_catJ]) ?_
  refine ev_goto (tgt := 39) dX1_misfit_132 (by decide) ?_
  exact ev_sub [1, 0] rfl (hk39 h)
set_option maxHeartbeats 4000000 in
set_option maxRecDepth 100000 in
theorem ev_X1_misfit_p90 {l : Launch} {G : xG} (hO : x_OK l G) {P : xP} (hP : x_PG P G) {a0 : Nat} {k39 : Int32 → xS → xO Int32} (hk39 : ∀ {v1 : Int32} {σ σ' : xS} {rr : Int32 ⊕ String}, k39 v1 σ = some (rr, σ') → Ev l G mX1_misfit 39 [(0, va_rf (some a0)), (1, .int v1)] [] σ (xrI rr) σ') {v1 : Int32} {v2 : Option Nat} {s0 : Option Nat} {σ σ' : xS} {rr : Int32 ⊕ String} (h : dm_X1_misfit_p90 P k39 a0 v1 v2 s0 σ = some (rr, σ')) : Ev l G mX1_misfit 90 [(0, va_rf (some a0)), (1, .int v1), (2, va_rf v2)] [va_rf s0] σ (xrI rr) σ' := by
  unfold dm_X1_misfit_p90 at h
  refine ev_astore_n (i := 3) (lv' := [(3, va_rf s0), (0, va_rf (some a0)), (1, .int v1), (2, va_rf v2)]) dX1_misfit_90 rfl (by decide) (by simp [x_cat, x_catI, x_catJ]) ?_
  refine ev_aload_n (j := 0) (x := s0) dX1_misfit_91 rfl rfl ?_
  by_cases c_1 : s0 = none
  · rw [if_pos c_1] at h
    refine ev_ifnonnull (x := s0) (tgt := 100) dX1_misfit_92 (by decide) (fun q9 => absurd c_1 q9) (fun _ => ?_)
    refine ev_aload_n (j := 3) (x := v2) dX1_misfit_95 rfl rfl ?_
    obtain ⟨a_17, ea_17, h⟩ := x_some_e h
    refine ev_at (st' := [va_rf (some a_17)]) rfl (by rw [ea_17]) ?_
    obtain ⟨c_18, h⟩ := x_chk_e h
    refine ev_get (C := RX2) (T := TX2) (k := 1) inX2 (xE_3 c_18) rfl (by decide) wd_562 (Or.inl rfl) rfl dX1_misfit_96 ?_
    cases h
    exact ev_iret rfl rfl dX1_misfit_99
  · rw [if_neg c_1] at h
    refine ev_ifnonnull (x := s0) (tgt := 100) dX1_misfit_92 (by decide) (fun _ => ?_) (fun q9 => absurd q9 c_1)
    refine ev_aload_n (j := 3) (x := v2) dX1_misfit_100 rfl rfl ?_
    obtain ⟨a_2, ea_2, h⟩ := x_some_e h
    refine ev_at (st' := [va_rf (some a_2)]) rfl (by rw [ea_2]) ?_
    obtain ⟨c_3, h⟩ := x_chk_e h
    refine ev_get (C := RX2) (T := TX2) (k := 2) inX2 (xE_3 c_3) rfl (by decide) wd_61 (Or.inl rfl) rfl dX1_misfit_101 ?_
    by_cases c_4 : (σ.R 202 a_2) = none
    · rw [if_pos c_4] at h
      refine ev_ifnull (x := (σ.R 202 a_2)) (tgt := 129) dX1_misfit_104 (by decide) (fun _ => ?_) (fun q9 => absurd c_4 q9)
      exact ev_sub [1, 2] rfl (ev_X1_misfit_p129 hO hP hk39 h)
    · rw [if_neg c_4] at h
      refine ev_ifnull (x := (σ.R 202 a_2)) (tgt := 129) dX1_misfit_104 (by decide) (fun q9 => absurd q9 c_4) (fun _ => ?_)
      refine ev_aload_n (j := 3) (x := v2) dX1_misfit_107 rfl rfl ?_
      refine ev_at (st' := [va_rf (some a_2)]) rfl (by rw [ea_2]) ?_
      refine ev_get (C := RX2) (T := TX2) (k := 2) inX2 (xE_3 c_3) rfl (by decide) wd_61 (Or.inl rfl) rfl dX1_misfit_108 ?_
      obtain ⟨a_5, ea_5, h⟩ := x_some_e h
      refine ev_at (st' := [va_rf (some a_5)]) rfl (by rw [ea_5]) ?_
      obtain ⟨c_9, h⟩ := x_chk_e h
      rcases x_bind_e h with ⟨v_6, σ_7, h_8, h⟩ | ⟨E_16, σ_7, h_8, h⟩
      · have z9 := x_call (M := mX1_misfit) (M' := mX6_width) (pc := 111) (st := [va_rf (some a_5)]) (rest := []) (av := [va_rf (some a_5)]) (x_linkV (M := mX1_misfit) (M' := mX6_width) (As := []) (index := 61) (C := RX6) (T := TX6) (xE_7 c_9) rfl wd_62 wd_21 wd_19 xw_X6_width rfl (by decide) rfl rfl dX1_misfit_111) (ev_X6_width hO hP h_8) xw_X6_width rfl wd_22 dX1_misfit_111 (by decide) (by decide) (by simp [x_cat, x_catI, x_catJ])
        refine x_callR z9 ?_
        refine ev_at (st' := [.int v_6]) rfl rfl ?_
        refine ev_aload_n (j := 0) (x := s0) dX1_misfit_114 rfl rfl ?_
        obtain ⟨a_10, ea_10, h⟩ := x_some_e h
        refine ev_at (st' := [va_rf (some a_10), .int v_6]) rfl (by rw [ea_10]) ?_
        obtain ⟨c_11, h⟩ := x_chk_e h
        refine ev_get (C := RX4) (T := TX4) (k := 2) inX4 (xE_5 c_11) rfl (by decide) wd_64 (Or.inl rfl) rfl dX1_misfit_115 ?_
        by_cases c_12 : v_6 = (σ_7.I 402 a_10)
        · rw [if_pos c_12] at h
          refine ev_icmp_eq (x := v_6) (y := (σ_7.I 402 a_10)) (tgt := 129) dX1_misfit_118 (by decide) (fun _ => ?_) (fun q9 => absurd c_12 q9)
          exact ev_sub [1, 2] rfl (ev_X1_misfit_p129 hO hP hk39 h)
        · rw [if_neg c_12] at h
          refine ev_icmp_eq (x := v_6) (y := (σ_7.I 402 a_10)) (tgt := 129) dX1_misfit_118 (by decide) (fun q9 => absurd q9 c_12) (fun _ => ?_)
          refine ev_aload_n (j := 3) (x := v2) dX1_misfit_121 rfl rfl ?_
          refine ev_at (st' := [va_rf (some a_2)]) rfl (by rw [ea_2]) ?_
          obtain ⟨c_13, h⟩ := x_chk_e h
          refine ev_get (C := RX2) (T := TX2) (k := 2) inX2 (xE_3 c_13) rfl (by decide) wd_61 (Or.inl rfl) rfl dX1_misfit_122 ?_
          obtain ⟨a_14, ea_14, h⟩ := x_some_e h
          refine ev_at (st' := [va_rf (some a_14)]) rfl (by rw [ea_14]) ?_
          obtain ⟨c_15, h⟩ := x_chk_e h
          refine ev_get (C := RX6) (T := TX6) (k := 1) inX6 (xE_7 c_15) rfl (by decide) wd_561 (Or.inl rfl) rfl dX1_misfit_125 ?_
          cases h
          exact ev_iret rfl rfl dX1_misfit_128
      · have z9 := x_call (M := mX1_misfit) (M' := mX6_width) (pc := 111) (st := [va_rf (some a_5)]) (rest := []) (av := [va_rf (some a_5)]) (x_linkV (M := mX1_misfit) (M' := mX6_width) (As := []) (index := 61) (C := RX6) (T := TX6) (xE_7 c_9) rfl wd_62 wd_21 wd_19 xw_X6_width rfl (by decide) rfl rfl dX1_misfit_111) (ev_X6_width hO hP h_8) xw_X6_width rfl wd_22 dX1_misfit_111 (by decide) (by decide) (by simp [x_cat, x_catI, x_catJ])
        cases h
        exact x_callX z9 (evX_out rfl)
set_option maxHeartbeats 4000000 in
set_option maxRecDepth 100000 in
theorem ev_X1_misfit_L39 {l : Launch} {G : xG} (hO : x_OK l G) {P : xP} (hP : x_PG P G) {a0 : Nat} : ∀ (n : Nat) {v1 : Int32} {σ σ' : xS} {rr : Int32 ⊕ String}, dm_X1_misfit_L39 P a0 n v1 σ = some (rr, σ') → Ev l G mX1_misfit 39 [(0, va_rf (some a0)), (1, .int v1)] [] σ (xrI rr) σ' := by
  intro n
  induction n with
  | zero => intro v1 σ σ' rr h; cases h
  | succ n ih =>
    intro v1 σ σ' rr h
    rw [dm_X1_misfit_L39] at h
    refine ev_iload_n (j := 1) (x := v1) dX1_misfit_39 rfl rfl ?_
    refine ev_aload_n (j := 0) (x := (some a0)) dX1_misfit_40 rfl rfl ?_
    obtain ⟨c_1, h⟩ := x_chk_e h
    refine ev_get (C := RX1) (T := TX1) (k := 5) inX1 (xE_2 c_1) rfl (by decide) wd_43 (Or.inl rfl) rfl dX1_misfit_41 ?_
    by_cases c_2 : (σ.I 105 a0) ≤ v1
    · rw [if_pos c_2] at h
      refine ev_icmp_ge (x := v1) (y := (σ.I 105 a0)) (tgt := 135) dX1_misfit_44 (by decide) (fun _ => ?_) (fun q9 => absurd c_2 q9)
      refine ev_sipush (v := 1001) dX1_misfit_135 (by decide) ?_
      cases h
      exact ev_iret rfl rfl dX1_misfit_138
    · rw [if_neg c_2] at h
      refine ev_icmp_ge (x := v1) (y := (σ.I 105 a0)) (tgt := 135) dX1_misfit_44 (by decide) (fun q9 => absurd q9 c_2) (fun _ => ?_)
      refine ev_aload_n (j := 0) (x := (some a0)) dX1_misfit_47 rfl rfl ?_
      refine ev_get (C := RX1) (T := TX1) (k := 4) inX1 (xE_2 c_1) rfl (by decide) wd_60 (Or.inl rfl) rfl dX1_misfit_48 ?_
      refine ev_iload_n (j := 1) (x := v1) dX1_misfit_51 rfl rfl ?_
      obtain ⟨a_3, ea_3, h⟩ := x_some_e h
      refine ev_at (st' := [.int v1, va_rf (some a_3)]) rfl (by rw [ea_3]) ?_
      obtain ⟨c_4, h⟩ := x_chk_e h
      refine ev_aald_25 c_4.1 c_4.2 dX1_misfit_52 ?_
      obtain ⟨v_5, ev_5, h⟩ := x_let_e h
      rw [← ev_5]
      refine ev_astore_n (i := 2) (lv' := [(2, va_rf v_5), (0, va_rf (some a0)), (1, .int v1)]) dX1_misfit_53 rfl (by decide) rfl ?_
      refine ev_aload_n (j := 1) (x := (some a0)) dX1_misfit_54 rfl rfl ?_
      refine ev_get (C := RX1) (T := TX1) (k := 3) inX1 (xE_2 c_1) rfl (by decide) wd_66 (Or.inl rfl) rfl dX1_misfit_55 ?_
      by_cases c_6 : (σ.I 103 a0) = 0
      · rw [if_pos c_6] at h
        refine ev_if_eq (x := (σ.I 103 a0)) (tgt := 82) dX1_misfit_58 (by decide) (fun _ => ?_) (fun q9 => absurd c_6 q9)
        refine ev_aload_n (j := 1) (x := (some a0)) dX1_misfit_82 rfl rfl ?_
        refine ev_get (C := RX1) (T := TX1) (k := 6) inX1 (xE_2 c_1) rfl (by decide) wd_41 (Or.inl rfl) rfl dX1_misfit_83 ?_
        refine ev_iload_n (j := 2) (x := v1) dX1_misfit_86 rfl rfl ?_
        obtain ⟨a_7, ea_7, h⟩ := x_some_e h
        refine ev_at (st' := [.int v1, va_rf (some a_7)]) rfl (by rw [ea_7]) ?_
        obtain ⟨c_11, h⟩ := x_chk_e h
        rcases x_bind_e h with ⟨v_8, σ_9, h_10, h⟩ | ⟨E_12, σ_9, h_10, h⟩
        · have z9 := x_call (M := mX1_misfit) (M' := mX5_portAt) (pc := 87) (st := [.int v1, va_rf (some a_7)]) (rest := []) (av := [va_rf (some a_7), .int v1]) (x_linkV (M := mX1_misfit) (M' := mX5_portAt) (As := [.int v1]) (index := 74) (C := RX5) (T := TX5) (xE_6 c_11) rfl wd_558 wd_559 wd_557 xw_X5_portAt rfl (by decide) rfl rfl dX1_misfit_87) (ev_X5_portAt hO hP h_10) xw_X5_portAt rfl wd_274 dX1_misfit_87 (by decide) (by decide) (by simp [x_cat, x_catI, x_catJ])
          refine x_callR z9 ?_
          refine ev_at (st' := [va_rf v_8]) rfl rfl ?_
          exact ev_sub [1, 2, 0] rfl (ev_X1_misfit_p90 hO hP ih h)
        · have z9 := x_call (M := mX1_misfit) (M' := mX5_portAt) (pc := 87) (st := [.int v1, va_rf (some a_7)]) (rest := []) (av := [va_rf (some a_7), .int v1]) (x_linkV (M := mX1_misfit) (M' := mX5_portAt) (As := [.int v1]) (index := 74) (C := RX5) (T := TX5) (xE_6 c_11) rfl wd_558 wd_559 wd_557 xw_X5_portAt rfl (by decide) rfl rfl dX1_misfit_87) (ev_X5_portAt hO hP h_10) xw_X5_portAt rfl wd_274 dX1_misfit_87 (by decide) (by decide) (by simp [x_cat, x_catI, x_catJ])
          cases h
          exact x_callX z9 (evX_out rfl)
      · rw [if_neg c_6] at h
        refine ev_if_eq (x := (σ.I 103 a0)) (tgt := 82) dX1_misfit_58 (by decide) (fun q9 => absurd q9 c_6) (fun _ => ?_)
        refine ev_aload_n (j := 1) (x := (some a0)) dX1_misfit_61 rfl rfl ?_
        refine ev_get (C := RX1) (T := TX1) (k := 6) inX1 (xE_2 c_1) rfl (by decide) wd_41 (Or.inl rfl) rfl dX1_misfit_62 ?_
        refine ev_aload_n (j := 1) (x := (some a0)) dX1_misfit_65 rfl rfl ?_
        refine ev_get (C := RX1) (T := TX1) (k := 6) inX1 (xE_2 c_1) rfl (by decide) wd_41 (Or.inl rfl) rfl dX1_misfit_66 ?_
        obtain ⟨a_13, ea_13, h⟩ := x_some_e h
        refine ev_at (st' := [va_rf (some a_13), va_rf (σ.R 106 a0)]) rfl (by rw [ea_13]) ?_
        obtain ⟨c_14, h⟩ := x_chk_e h
        refine ev_get (C := RX5) (T := TX5) (k := 5) inX5 (xE_6 c_14) rfl (by decide) wd_42 (Or.inl rfl) rfl dX1_misfit_69 ?_
        refine ev_aload_n (j := 0) (x := v_5) dX1_misfit_72 rfl rfl ?_
        obtain ⟨a_15, ea_15, h⟩ := x_some_e h
        refine ev_at (st' := [va_rf (some a_15), .int (σ.I 505 a_13), va_rf (σ.R 106 a0)]) rfl (by rw [ea_15]) ?_
        obtain ⟨c_16, h⟩ := x_chk_e h
        refine ev_get (C := RX2) (T := TX2) (k := 0) inX2 (xE_3 c_16) rfl (by decide) wd_65 (Or.inl rfl) rfl dX1_misfit_73 ?_
        refine ev_at (st' := [.long (σ.J 200 a_15), .int (σ.I 505 a_13), va_rf (some a_13)]) rfl (by rw [ea_13]) ?_
        rcases x_bind_e h with ⟨v_17, σ_18, h_19, h⟩ | ⟨E_20, σ_18, h_19, h⟩
        · have z9 := x_call (M := mX1_misfit) (M' := mX5_netAmong) (pc := 76) (st := [.long (σ.J 200 a_15), .int (σ.I 505 a_13), va_rf (some a_13)]) (rest := []) (av := [va_rf (some a_13), .int (σ.I 505 a_13), .long (σ.J 200 a_15)]) (x_linkV (M := mX1_misfit) (M' := mX5_netAmong) (As := [.int (σ.I 505 a_13), .long (σ.J 200 a_15)]) (index := 70) (C := RX5) (T := TX5) (xE_6 c_14) rfl wd_560 wd_300 wd_298 xw_X5_netAmong rfl (by decide) rfl rfl dX1_misfit_76) (ev_X5_netAmong hO hP h_19) xw_X5_netAmong rfl wd_274 dX1_misfit_76 (by decide) (by decide) (by simp [x_cat, x_catI, x_catJ])
          refine x_callR z9 ?_
          refine ev_at (st' := [va_rf v_17]) rfl rfl ?_
          refine ev_goto (tgt := 90) dX1_misfit_79 (by decide) ?_
          exact ev_sub [1, 2, 0] rfl (ev_X1_misfit_p90 hO hP ih h)
        · have z9 := x_call (M := mX1_misfit) (M' := mX5_netAmong) (pc := 76) (st := [.long (σ.J 200 a_15), .int (σ.I 505 a_13), va_rf (some a_13)]) (rest := []) (av := [va_rf (some a_13), .int (σ.I 505 a_13), .long (σ.J 200 a_15)]) (x_linkV (M := mX1_misfit) (M' := mX5_netAmong) (As := [.int (σ.I 505 a_13), .long (σ.J 200 a_15)]) (index := 70) (C := RX5) (T := TX5) (xE_6 c_14) rfl wd_560 wd_300 wd_298 xw_X5_netAmong rfl (by decide) rfl rfl dX1_misfit_76) (ev_X5_netAmong hO hP h_19) xw_X5_netAmong rfl wd_274 dX1_misfit_76 (by decide) (by decide) (by simp [x_cat, x_catI, x_catJ])
          cases h
          exact x_callX z9 (evX_out rfl)
set_option maxHeartbeats 4000000 in
set_option maxRecDepth 100000 in
theorem ev_X1_misfit_p37 {l : Launch} {G : xG} (hO : x_OK l G) {P : xP} (hP : x_PG P G) {a0 : Nat} {σ σ' : xS} {rr : Int32 ⊕ String} (h : dm_X1_misfit_p37 P a0 σ = some (rr, σ')) : Ev l G mX1_misfit 37 [(0, va_rf (some a0))] [] σ (xrI rr) σ' := by
  unfold dm_X1_misfit_p37 at h
  refine ev_iconst (v := 0) dX1_misfit_37 (by decide) ?_
  refine ev_istore_n (i := 1) (lv' := [(1, .int 0), (0, va_rf (some a0))]) dX1_misfit_38 rfl (by decide) (by simp [x_cat, x_catI, x_catJ]) ?_
  exact ev_sub [1, 0] rfl (ev_X1_misfit_L39 hO hP P.N h)
set_option maxHeartbeats 4000000 in
set_option maxRecDepth 100000 in
theorem ev_X1_misfit {l : Launch} {G : xG} (hO : x_OK l G) {P : xP} (hP : x_PG P G) {a0 : Nat} {σ σ' : xS} {rr : Int32 ⊕ String} (h : dm_X1_misfit P a0 σ = some (rr, σ')) : EvM l G mX1_misfit [va_rf (some a0)] σ (xrI rr) σ' := by
  unfold dm_X1_misfit at h
  refine evM_of hO (by decide +kernel) (x_lenI (by simp [x_cat, x_catI, x_catJ, mX1_misfit, xM.maxL])) ?_
  refine Eq.mp (congrArg (fun z => Ev l G mX1_misfit 0 z [] σ (xrI rr) σ') (show [(0, va_rf (some a0))] = lv_args 0 [va_rf (some a0)] by simp [lv_args, x_cat, x_catI, x_catJ])) ?_
  refine ev_aload_n (j := 0) (x := (some a0)) dX1_misfit_0 rfl rfl ?_
  obtain ⟨c_1, h⟩ := x_chk_e h
  refine ev_get (C := RX1) (T := TX1) (k := 6) inX1 (xE_2 c_1) rfl (by decide) wd_41 (Or.inl rfl) rfl dX1_misfit_1 ?_
  by_cases c_2 : (σ.R 106 a0) = none
  · rw [if_pos c_2] at h
    refine ev_ifnonnull (x := (σ.R 106 a0)) (tgt := 11) dX1_misfit_4 (by decide) (fun q9 => absurd c_2 q9) (fun _ => ?_)
    refine ev_sipush (v := 1001) dX1_misfit_7 (by decide) ?_
    cases h
    exact ev_iret rfl rfl dX1_misfit_10
  · rw [if_neg c_2] at h
    refine ev_ifnonnull (x := (σ.R 106 a0)) (tgt := 11) dX1_misfit_4 (by decide) (fun _ => ?_) (fun q9 => absurd q9 c_2)
    refine ev_aload_n (j := 0) (x := (some a0)) dX1_misfit_11 rfl rfl ?_
    refine ev_get (C := RX1) (T := TX1) (k := 3) inX1 (xE_2 c_1) rfl (by decide) wd_66 (Or.inl rfl) rfl dX1_misfit_12 ?_
    by_cases c_3 : (σ.I 103 a0) = 0
    · rw [if_pos c_3] at h
      refine ev_if_ne (x := (σ.I 103 a0)) (tgt := 37) dX1_misfit_15 (by decide) (fun q9 => absurd c_3 q9) (fun _ => ?_)
      refine ev_aload_n (j := 0) (x := (some a0)) dX1_misfit_18 rfl rfl ?_
      refine ev_get (C := RX1) (T := TX1) (k := 5) inX1 (xE_2 c_1) rfl (by decide) wd_43 (Or.inl rfl) rfl dX1_misfit_19 ?_
      refine ev_aload_n (j := 0) (x := (some a0)) dX1_misfit_22 rfl rfl ?_
      refine ev_get (C := RX1) (T := TX1) (k := 6) inX1 (xE_2 c_1) rfl (by decide) wd_41 (Or.inl rfl) rfl dX1_misfit_23 ?_
      obtain ⟨a_4, ea_4, h⟩ := x_some_e h
      refine ev_at (st' := [va_rf (some a_4), .int (σ.I 105 a0)]) rfl (by rw [ea_4]) ?_
      obtain ⟨c_5, h⟩ := x_chk_e h
      refine ev_get (C := RX5) (T := TX5) (k := 5) inX5 (xE_6 c_5) rfl (by decide) wd_42 (Or.inl rfl) rfl dX1_misfit_26 ?_
      by_cases c_6 : (σ.I 505 a_4) ≤ (σ.I 105 a0)
      · rw [if_pos c_6] at h
        refine ev_icmp_ge (x := (σ.I 105 a0)) (y := (σ.I 505 a_4)) (tgt := 37) dX1_misfit_29 (by decide) (fun _ => ?_) (fun q9 => absurd c_6 q9)
        exact ev_sub [0] rfl (ev_X1_misfit_p37 hO hP h)
      · rw [if_neg c_6] at h
        refine ev_icmp_ge (x := (σ.I 105 a0)) (y := (σ.I 505 a_4)) (tgt := 37) dX1_misfit_29 (by decide) (fun q9 => absurd q9 c_6) (fun _ => ?_)
        refine ev_aload_n (j := 0) (x := (some a0)) dX1_misfit_32 rfl rfl ?_
        refine ev_get (C := RX1) (T := TX1) (k := 2) inX1 (xE_2 c_1) rfl (by decide) wd_439 (Or.inl rfl) rfl dX1_misfit_33 ?_
        cases h
        exact ev_iret rfl rfl dX1_misfit_36
    · rw [if_neg c_3] at h
      refine ev_if_ne (x := (σ.I 103 a0)) (tgt := 37) dX1_misfit_15 (by decide) (fun _ => ?_) (fun q9 => absurd q9 c_3)
      exact ev_sub [0] rfl (ev_X1_misfit_p37 hO hP h)
set_option maxHeartbeats 4000000 in
set_option maxRecDepth 100000 in
theorem ev_X5_firstMisfit_p49 {l : Launch} {G : xG} (hO : x_OK l G) {P : xP} (hP : x_PG P G) {a0 : Nat} {k6 : Int32 → Int32 → xS → xO Int32} (hk6 : ∀ {v1 : Int32} {v2 : Int32} {σ σ' : xS} {rr : Int32 ⊕ String}, k6 v1 v2 σ = some (rr, σ') → Ev l G mX5_firstMisfit 6 [(0, va_rf (some a0)), (1, .int v1), (2, .int v2)] [] σ (xrI rr) σ') {v1 : Int32} {v2 : Int32} {σ σ' : xS} {rr : Int32 ⊕ String} (h : dm_X5_firstMisfit_p49 P k6 a0 v1 v2 σ = some (rr, σ')) : Ev l G mX5_firstMisfit 49 [(0, va_rf (some a0)), (1, .int v1), (2, .int v2)] [] σ (xrI rr) σ' := by
  unfold dm_X5_firstMisfit_p49 at h
  obtain ⟨v_1, ev_1, h⟩ := x_let_e h
  refine ev_iinc (j := 2) (x := v2) (v := v_1) (lv' := [(2, .int v_1), (0, va_rf (some a0)), (1, .int v1)]) dX5_firstMisfit_49 rfl (by rw [ev_1]; rfl) (by decide) rfl ?_
  refine ev_goto (tgt := 6) dX5_firstMisfit_52 (by decide) ?_
  exact ev_sub [1, 2, 0] rfl (hk6 h)
set_option maxHeartbeats 4000000 in
set_option maxRecDepth 100000 in
theorem ev_X5_firstMisfit_L57 {l : Launch} {G : xG} (hO : x_OK l G) {P : xP} (hP : x_PG P G) {a0 : Nat} : ∀ (n : Nat) {v1 : Int32} {v2 : Int32} {σ σ' : xS} {rr : Int32 ⊕ String}, dm_X5_firstMisfit_L57 P a0 n v1 v2 σ = some (rr, σ') → Ev l G mX5_firstMisfit 57 [(0, va_rf (some a0)), (1, .int v1), (2, .int v2)] [] σ (xrI rr) σ' := by
  intro n
  induction n with
  | zero => intro v1 v2 σ σ' rr h; cases h
  | succ n ih =>
    intro v1 v2 σ σ' rr h
    rw [dm_X5_firstMisfit_L57] at h
    refine ev_iload_n (j := 2) (x := v2) dX5_firstMisfit_57 rfl rfl ?_
    refine ev_aload_n (j := 0) (x := (some a0)) dX5_firstMisfit_58 rfl rfl ?_
    obtain ⟨c_1, h⟩ := x_chk_e h
    refine ev_get (C := RX5) (T := TX5) (k := 11) inX5 (xE_6 c_1) rfl (by decide) wd_268 (Or.inl rfl) rfl dX5_firstMisfit_59 ?_
    by_cases c_2 : (σ.I 511 a0) ≤ v2
    · rw [if_pos c_2] at h
      refine ev_icmp_ge (x := v2) (y := (σ.I 511 a0)) (tgt := 85) dX5_firstMisfit_62 (by decide) (fun _ => ?_) (fun q9 => absurd c_2 q9)
      refine ev_iload_n (j := 1) (x := v1) dX5_firstMisfit_85 rfl rfl ?_
      cases h
      exact ev_iret rfl rfl dX5_firstMisfit_86
    · rw [if_neg c_2] at h
      refine ev_icmp_ge (x := v2) (y := (σ.I 511 a0)) (tgt := 85) dX5_firstMisfit_62 (by decide) (fun q9 => absurd q9 c_2) (fun _ => ?_)
      refine ev_iload_n (j := 1) (x := v1) dX5_firstMisfit_65 rfl rfl ?_
      refine ev_aload_n (j := 0) (x := (some a0)) dX5_firstMisfit_66 rfl rfl ?_
      refine ev_get (C := RX5) (T := TX5) (k := 10) inX5 (xE_6 c_1) rfl (by decide) wd_267 (Or.inl rfl) rfl dX5_firstMisfit_67 ?_
      refine ev_iload_n (j := 2) (x := v2) dX5_firstMisfit_70 rfl rfl ?_
      obtain ⟨a_3, ea_3, h⟩ := x_some_e h
      refine ev_at (st' := [.int v2, va_rf (some a_3), .int v1]) rfl (by rw [ea_3]) ?_
      obtain ⟨c_4, h⟩ := x_chk_e h
      refine ev_aald_24 c_4.1 c_4.2 dX5_firstMisfit_71 ?_
      obtain ⟨a_5, ea_5, h⟩ := x_some_e h
      refine ev_at (st' := [va_rf (some a_5), .int v1]) rfl (by rw [ea_5]) ?_
      obtain ⟨c_9, h⟩ := x_chk_e h
      rcases x_bind_e h with ⟨v_6, σ_7, h_8, h⟩ | ⟨E_12, σ_7, h_8, h⟩
      · have z9 := x_call (M := mX5_firstMisfit) (M' := mX1_misfit) (pc := 72) (st := [va_rf (some a_5), .int v1]) (rest := [.int v1]) (av := [va_rf (some a_5)]) (x_linkV (M := mX5_firstMisfit) (M' := mX1_misfit) (As := []) (index := 86) (C := RX1) (T := TX1) (xE_2 c_9) rfl wd_571 wd_572 wd_570 xw_X1_misfit rfl (by decide) rfl rfl dX5_firstMisfit_72) (ev_X1_misfit hO hP h_8) xw_X1_misfit rfl wd_53 dX5_firstMisfit_72 (by decide) (by decide) (by simp [x_cat, x_catI, x_catJ])
        refine x_callR z9 ?_
        refine ev_at (st' := [.int v_6, .int v1]) rfl rfl ?_
        refine ev_mmin (x := v1) (y := v_6) (index := 80) wd_565 wd_566 wd_567 wd_568 dX5_firstMisfit_75 (by decide) (by decide) ?_
        obtain ⟨v_10, ev_10, h⟩ := x_let_e h
        rw [← ev_10]
        refine ev_istore_n (i := 1) (lv' := [(1, .int v_10), (0, va_rf (some a0)), (2, .int v2)]) dX5_firstMisfit_78 rfl (by decide) (by simp [x_cat, x_catI, x_catJ]) ?_
        obtain ⟨v_11, ev_11, h⟩ := x_let_e h
        refine ev_iinc (j := 2) (x := v2) (v := v_11) (lv' := [(2, .int v_11), (1, .int v_10), (0, va_rf (some a0))]) dX5_firstMisfit_79 rfl (by rw [ev_11]; rfl) (by decide) rfl ?_
        refine ev_goto (tgt := 57) dX5_firstMisfit_82 (by decide) ?_
        exact ev_sub [2, 1, 0] rfl (ih h)
      · have z9 := x_call (M := mX5_firstMisfit) (M' := mX1_misfit) (pc := 72) (st := [va_rf (some a_5), .int v1]) (rest := [.int v1]) (av := [va_rf (some a_5)]) (x_linkV (M := mX5_firstMisfit) (M' := mX1_misfit) (As := []) (index := 86) (C := RX1) (T := TX1) (xE_2 c_9) rfl wd_571 wd_572 wd_570 xw_X1_misfit rfl (by decide) rfl rfl dX5_firstMisfit_72) (ev_X1_misfit hO hP h_8) xw_X1_misfit rfl wd_53 dX5_firstMisfit_72 (by decide) (by decide) (by simp [x_cat, x_catI, x_catJ])
        cases h
        exact x_callX z9 (evX_out rfl)
set_option maxHeartbeats 4000000 in
set_option maxRecDepth 100000 in
theorem ev_X5_firstMisfit_L6 {l : Launch} {G : xG} (hO : x_OK l G) {P : xP} (hP : x_PG P G) {a0 : Nat} : ∀ (n : Nat) {v1 : Int32} {v2 : Int32} {σ σ' : xS} {rr : Int32 ⊕ String}, dm_X5_firstMisfit_L6 P a0 n v1 v2 σ = some (rr, σ') → Ev l G mX5_firstMisfit 6 [(0, va_rf (some a0)), (1, .int v1), (2, .int v2)] [] σ (xrI rr) σ' := by
  intro n
  induction n with
  | zero => intro v1 v2 σ σ' rr h; cases h
  | succ n ih =>
    intro v1 v2 σ σ' rr h
    rw [dm_X5_firstMisfit_L6] at h
    refine ev_iload_n (j := 2) (x := v2) dX5_firstMisfit_6 rfl rfl ?_
    refine ev_aload_n (j := 0) (x := (some a0)) dX5_firstMisfit_7 rfl rfl ?_
    obtain ⟨c_1, h⟩ := x_chk_e h
    refine ev_get (C := RX5) (T := TX5) (k := 9) inX5 (xE_6 c_1) rfl (by decide) wd_264 (Or.inl rfl) rfl dX5_firstMisfit_8 ?_
    by_cases c_2 : (σ.I 509 a0) ≤ v2
    · rw [if_pos c_2] at h
      refine ev_icmp_ge (x := v2) (y := (σ.I 509 a0)) (tgt := 55) dX5_firstMisfit_11 (by decide) (fun _ => ?_) (fun q9 => absurd c_2 q9)
      refine ev_iconst (v := 0) dX5_firstMisfit_55 (by decide) ?_
      refine ev_istore_n (i := 2) (lv' := [(2, .int 0), (0, va_rf (some a0)), (1, .int v1)]) dX5_firstMisfit_56 rfl (by decide) rfl ?_
      exact ev_sub [1, 2, 0] rfl (ev_X5_firstMisfit_L57 hO hP P.N h)
    · rw [if_neg c_2] at h
      refine ev_icmp_ge (x := v2) (y := (σ.I 509 a0)) (tgt := 55) dX5_firstMisfit_11 (by decide) (fun q9 => absurd q9 c_2) (fun _ => ?_)
      refine ev_aload_n (j := 0) (x := (some a0)) dX5_firstMisfit_14 rfl rfl ?_
      refine ev_get (C := RX5) (T := TX5) (k := 7) inX5 (xE_6 c_1) rfl (by decide) wd_262 (Or.inl rfl) rfl dX5_firstMisfit_15 ?_
      refine ev_iload_n (j := 2) (x := v2) dX5_firstMisfit_18 rfl rfl ?_
      obtain ⟨a_3, ea_3, h⟩ := x_some_e h
      refine ev_at (st' := [.int v2, va_rf (some a_3)]) rfl (by rw [ea_3]) ?_
      obtain ⟨c_4, h⟩ := x_chk_e h
      refine ev_aald_28 c_4.1 c_4.2 dX5_firstMisfit_19 ?_
      obtain ⟨a_5, ea_5, h⟩ := x_some_e h
      refine ev_at (st' := [va_rf (some a_5)]) rfl (by rw [ea_5]) ?_
      obtain ⟨c_9, h⟩ := x_chk_e h
      rcases x_bind_e h with ⟨v_6, σ_7, h_8, h⟩ | ⟨E_26, σ_7, h_8, h⟩
      · have z9 := x_call (M := mX5_firstMisfit) (M' := mX6_width) (pc := 20) (st := [va_rf (some a_5)]) (rest := []) (av := [va_rf (some a_5)]) (x_linkV (M := mX5_firstMisfit) (M' := mX6_width) (As := []) (index := 76) (C := RX6) (T := TX6) (xE_7 c_9) rfl wd_563 wd_21 wd_19 xw_X6_width rfl (by decide) rfl rfl dX5_firstMisfit_20) (ev_X6_width hO hP h_8) xw_X6_width rfl wd_22 dX5_firstMisfit_20 (by decide) (by decide) (by simp [x_cat, x_catI, x_catJ])
        refine x_callR z9 ?_
        refine ev_at (st' := [.int v_6]) rfl rfl ?_
        refine ev_aload_n (j := 0) (x := (some a0)) dX5_firstMisfit_23 rfl rfl ?_
        obtain ⟨c_10, h⟩ := x_chk_e h
        refine ev_get (C := RX5) (T := TX5) (k := 8) inX5 (xE_6 c_10) rfl (by decide) wd_263 (Or.inl rfl) rfl dX5_firstMisfit_24 ?_
        refine ev_iload_n (j := 2) (x := v2) dX5_firstMisfit_27 rfl rfl ?_
        obtain ⟨a_11, ea_11, h⟩ := x_some_e h
        refine ev_at (st' := [.int v2, va_rf (some a_11), .int v_6]) rfl (by rw [ea_11]) ?_
        obtain ⟨c_12, h⟩ := x_chk_e h
        refine ev_aald_28 c_12.1 c_12.2 dX5_firstMisfit_28 ?_
        obtain ⟨a_13, ea_13, h⟩ := x_some_e h
        refine ev_at (st' := [va_rf (some a_13), .int v_6]) rfl (by rw [ea_13]) ?_
        obtain ⟨c_17, h⟩ := x_chk_e h
        rcases x_bind_e h with ⟨v_14, σ_15, h_16, h⟩ | ⟨E_25, σ_15, h_16, h⟩
        · have z9 := x_call (M := mX5_firstMisfit) (M' := mX6_width) (pc := 29) (st := [va_rf (some a_13), .int v_6]) (rest := [.int v_6]) (av := [va_rf (some a_13)]) (x_linkV (M := mX5_firstMisfit) (M' := mX6_width) (As := []) (index := 76) (C := RX6) (T := TX6) (xE_7 c_17) rfl wd_563 wd_21 wd_19 xw_X6_width rfl (by decide) rfl rfl dX5_firstMisfit_29) (ev_X6_width hO hP h_16) xw_X6_width rfl wd_22 dX5_firstMisfit_29 (by decide) (by decide) (by simp [x_cat, x_catI, x_catJ])
          refine x_callR z9 ?_
          refine ev_at (st' := [.int v_14, .int v_6]) rfl rfl ?_
          by_cases c_18 : v_6 = v_14
          · rw [if_pos c_18] at h
            refine ev_icmp_eq (x := v_6) (y := v_14) (tgt := 49) dX5_firstMisfit_32 (by decide) (fun _ => ?_) (fun q9 => absurd c_18 q9)
            exact ev_sub [0, 1, 2] rfl (ev_X5_firstMisfit_p49 hO hP ih h)
          · rw [if_neg c_18] at h
            refine ev_icmp_eq (x := v_6) (y := v_14) (tgt := 49) dX5_firstMisfit_32 (by decide) (fun q9 => absurd q9 c_18) (fun _ => ?_)
            refine ev_iload_n (j := 1) (x := v1) dX5_firstMisfit_35 rfl rfl ?_
            refine ev_aload_n (j := 0) (x := (some a0)) dX5_firstMisfit_36 rfl rfl ?_
            obtain ⟨c_19, h⟩ := x_chk_e h
            refine ev_get (C := RX5) (T := TX5) (k := 8) inX5 (xE_6 c_19) rfl (by decide) wd_263 (Or.inl rfl) rfl dX5_firstMisfit_37 ?_
            refine ev_iload_n (j := 2) (x := v2) dX5_firstMisfit_40 rfl rfl ?_
            obtain ⟨a_20, ea_20, h⟩ := x_some_e h
            refine ev_at (st' := [.int v2, va_rf (some a_20), .int v1]) rfl (by rw [ea_20]) ?_
            obtain ⟨c_21, h⟩ := x_chk_e h
            refine ev_aald_28 c_21.1 c_21.2 dX5_firstMisfit_41 ?_
            obtain ⟨a_22, ea_22, h⟩ := x_some_e h
            refine ev_at (st' := [va_rf (some a_22), .int v1]) rfl (by rw [ea_22]) ?_
            obtain ⟨c_23, h⟩ := x_chk_e h
            refine ev_get (C := RX6) (T := TX6) (k := 1) inX6 (xE_7 c_23) rfl (by decide) wd_564 (Or.inl rfl) rfl dX5_firstMisfit_42 ?_
            refine ev_mmin (x := v1) (y := (σ_15.I 601 a_22)) (index := 80) wd_565 wd_566 wd_567 wd_568 dX5_firstMisfit_45 (by decide) (by decide) ?_
            obtain ⟨v_24, ev_24, h⟩ := x_let_e h
            rw [← ev_24]
            refine ev_istore_n (i := 1) (lv' := [(1, .int v_24), (0, va_rf (some a0)), (2, .int v2)]) dX5_firstMisfit_48 rfl (by decide) (by simp [x_cat, x_catI, x_catJ]) ?_
            exact ev_sub [1, 0, 2] rfl (ev_X5_firstMisfit_p49 hO hP ih h)
        · have z9 := x_call (M := mX5_firstMisfit) (M' := mX6_width) (pc := 29) (st := [va_rf (some a_13), .int v_6]) (rest := [.int v_6]) (av := [va_rf (some a_13)]) (x_linkV (M := mX5_firstMisfit) (M' := mX6_width) (As := []) (index := 76) (C := RX6) (T := TX6) (xE_7 c_17) rfl wd_563 wd_21 wd_19 xw_X6_width rfl (by decide) rfl rfl dX5_firstMisfit_29) (ev_X6_width hO hP h_16) xw_X6_width rfl wd_22 dX5_firstMisfit_29 (by decide) (by decide) (by simp [x_cat, x_catI, x_catJ])
          cases h
          exact x_callX z9 (evX_out rfl)
      · have z9 := x_call (M := mX5_firstMisfit) (M' := mX6_width) (pc := 20) (st := [va_rf (some a_5)]) (rest := []) (av := [va_rf (some a_5)]) (x_linkV (M := mX5_firstMisfit) (M' := mX6_width) (As := []) (index := 76) (C := RX6) (T := TX6) (xE_7 c_9) rfl wd_563 wd_21 wd_19 xw_X6_width rfl (by decide) rfl rfl dX5_firstMisfit_20) (ev_X6_width hO hP h_8) xw_X6_width rfl wd_22 dX5_firstMisfit_20 (by decide) (by decide) (by simp [x_cat, x_catI, x_catJ])
        cases h
        exact x_callX z9 (evX_out rfl)
set_option maxHeartbeats 4000000 in
set_option maxRecDepth 100000 in
theorem ev_X5_firstMisfit {l : Launch} {G : xG} (hO : x_OK l G) {P : xP} (hP : x_PG P G) {a0 : Nat} {σ σ' : xS} {rr : Int32 ⊕ String} (h : dm_X5_firstMisfit P a0 σ = some (rr, σ')) : EvM l G mX5_firstMisfit [va_rf (some a0)] σ (xrI rr) σ' := by
  unfold dm_X5_firstMisfit at h
  refine evM_of hO (by decide +kernel) (x_lenI (by simp [x_cat, x_catI, x_catJ, mX5_firstMisfit, xM.maxL])) ?_
  refine Eq.mp (congrArg (fun z => Ev l G mX5_firstMisfit 0 z [] σ (xrI rr) σ') (show [(0, va_rf (some a0))] = lv_args 0 [va_rf (some a0)] by simp [lv_args, x_cat, x_catI, x_catJ])) ?_
  refine ev_sipush (v := 1001) dX5_firstMisfit_0 (by decide) ?_
  refine ev_istore_n (i := 1) (lv' := [(1, .int 1001), (0, va_rf (some a0))]) dX5_firstMisfit_3 rfl (by decide) (by simp [x_cat, x_catI, x_catJ]) ?_
  refine ev_iconst (v := 0) dX5_firstMisfit_4 (by decide) ?_
  refine ev_istore_n (i := 2) (lv' := [(2, .int 0), (1, .int 1001), (0, va_rf (some a0))]) dX5_firstMisfit_5 rfl (by decide) rfl ?_
  exact ev_sub [2, 1, 0] rfl (ev_X5_firstMisfit_L6 hO hP P.N h)
set_option maxHeartbeats 4000000 in
set_option maxRecDepth 100000 in
theorem ev_X5_kindsWithin_p43 {l : Launch} {G : xG} (hO : x_OK l G) {P : xP} (hP : x_PG P G) {a0 : Nat} {k4 : Int32 → Int32 → xS → xO Int32} (hk4 : ∀ {v1 : Int32} {v2 : Int32} {σ σ' : xS} {rr : Int32 ⊕ String}, k4 v1 v2 σ = some (rr, σ') → Ev l G mX5_kindsWithin 4 [(0, va_rf (some a0)), (1, .int v1), (2, .int v2)] [] σ (xrI rr) σ') {v2 : Int32} {s0 : Int32} {s1 : Int32} {σ σ' : xS} {rr : Int32 ⊕ String} (h : dm_X5_kindsWithin_p43 P k4 a0 v2 s0 s1 σ = some (rr, σ')) : Ev l G mX5_kindsWithin 43 [(0, va_rf (some a0)), (2, .int v2)] [.int s1, .int s0] σ (xrI rr) σ' := by
  unfold dm_X5_kindsWithin_p43 at h
  refine ev_ior (x := s0) (y := s1) dX5_kindsWithin_43 ?_
  obtain ⟨v_1, ev_1, h⟩ := x_let_e h
  rw [← ev_1]
  refine ev_istore_n (i := 1) (lv' := [(1, .int v_1), (0, va_rf (some a0)), (2, .int v2)]) dX5_kindsWithin_44 rfl (by decide) (by simp [x_cat, x_catI, x_catJ]) ?_
  obtain ⟨v_2, ev_2, h⟩ := x_let_e h
  refine ev_iinc (j := 2) (x := v2) (v := v_2) (lv' := [(2, .int v_2), (1, .int v_1), (0, va_rf (some a0))]) dX5_kindsWithin_45 rfl (by rw [ev_2]; rfl) (by decide) rfl ?_
  refine ev_goto (tgt := 4) dX5_kindsWithin_48 (by decide) ?_
  exact ev_sub [2, 1, 0] rfl (hk4 h)
set_option maxHeartbeats 4000000 in
set_option maxRecDepth 100000 in
theorem ev_X5_kindsWithin_L4 {l : Launch} {G : xG} (hO : x_OK l G) {P : xP} (hP : x_PG P G) {a0 : Nat} : ∀ (n : Nat) {v1 : Int32} {v2 : Int32} {σ σ' : xS} {rr : Int32 ⊕ String}, dm_X5_kindsWithin_L4 P a0 n v1 v2 σ = some (rr, σ') → Ev l G mX5_kindsWithin 4 [(0, va_rf (some a0)), (1, .int v1), (2, .int v2)] [] σ (xrI rr) σ' := by
  intro n
  induction n with
  | zero => intro v1 v2 σ σ' rr h; cases h
  | succ n ih =>
    intro v1 v2 σ σ' rr h
    rw [dm_X5_kindsWithin_L4] at h
    refine ev_iload_n (j := 2) (x := v2) dX5_kindsWithin_4 rfl rfl ?_
    refine ev_aload_n (j := 0) (x := (some a0)) dX5_kindsWithin_5 rfl rfl ?_
    obtain ⟨c_1, h⟩ := x_chk_e h
    refine ev_get (C := RX5) (T := TX5) (k := 11) inX5 (xE_6 c_1) rfl (by decide) wd_268 (Or.inl rfl) rfl dX5_kindsWithin_6 ?_
    by_cases c_2 : (σ.I 511 a0) ≤ v2
    · rw [if_pos c_2] at h
      refine ev_icmp_ge (x := v2) (y := (σ.I 511 a0)) (tgt := 51) dX5_kindsWithin_9 (by decide) (fun _ => ?_) (fun q9 => absurd c_2 q9)
      refine ev_iload_n (j := 1) (x := v1) dX5_kindsWithin_51 rfl rfl ?_
      cases h
      exact ev_iret rfl rfl dX5_kindsWithin_52
    · rw [if_neg c_2] at h
      refine ev_icmp_ge (x := v2) (y := (σ.I 511 a0)) (tgt := 51) dX5_kindsWithin_9 (by decide) (fun q9 => absurd q9 c_2) (fun _ => ?_)
      refine ev_iload_n (j := 1) (x := v1) dX5_kindsWithin_12 rfl rfl ?_
      refine ev_aload_n (j := 0) (x := (some a0)) dX5_kindsWithin_13 rfl rfl ?_
      refine ev_get (C := RX5) (T := TX5) (k := 10) inX5 (xE_6 c_1) rfl (by decide) wd_267 (Or.inl rfl) rfl dX5_kindsWithin_14 ?_
      refine ev_iload_n (j := 2) (x := v2) dX5_kindsWithin_17 rfl rfl ?_
      obtain ⟨a_3, ea_3, h⟩ := x_some_e h
      refine ev_at (st' := [.int v2, va_rf (some a_3), .int v1]) rfl (by rw [ea_3]) ?_
      obtain ⟨c_4, h⟩ := x_chk_e h
      refine ev_aald_24 c_4.1 c_4.2 dX5_kindsWithin_18 ?_
      obtain ⟨a_5, ea_5, h⟩ := x_some_e h
      refine ev_at (st' := [va_rf (some a_5), .int v1]) rfl (by rw [ea_5]) ?_
      obtain ⟨c_6, h⟩ := x_chk_e h
      refine ev_get (C := RX1) (T := TX1) (k := 6) inX1 (xE_2 c_6) rfl (by decide) wd_573 (Or.inl rfl) rfl dX5_kindsWithin_19 ?_
      by_cases c_7 : (σ.R 106 a_5) = none
      · rw [if_pos c_7] at h
        refine ev_ifnonnull (x := (σ.R 106 a_5)) (tgt := 29) dX5_kindsWithin_22 (by decide) (fun q9 => absurd c_7 q9) (fun _ => ?_)
        refine ev_iconst (v := 0) dX5_kindsWithin_25 (by decide) ?_
        refine ev_goto (tgt := 43) dX5_kindsWithin_26 (by decide) ?_
        exact ev_sub [0, 2] rfl (ev_X5_kindsWithin_p43 hO hP ih h)
      · rw [if_neg c_7] at h
        refine ev_ifnonnull (x := (σ.R 106 a_5)) (tgt := 29) dX5_kindsWithin_22 (by decide) (fun _ => ?_) (fun q9 => absurd q9 c_7)
        refine ev_iconst (v := 1) dX5_kindsWithin_29 (by decide) ?_
        refine ev_aload_n (j := 0) (x := (some a0)) dX5_kindsWithin_30 rfl rfl ?_
        refine ev_get (C := RX5) (T := TX5) (k := 10) inX5 (xE_6 c_1) rfl (by decide) wd_267 (Or.inl rfl) rfl dX5_kindsWithin_31 ?_
        refine ev_iload_n (j := 2) (x := v2) dX5_kindsWithin_34 rfl rfl ?_
        refine ev_at (st' := [.int v2, va_rf (some a_3), .int 1, .int v1]) rfl (by rw [ea_3]) ?_
        refine ev_aald_24 c_4.1 c_4.2 dX5_kindsWithin_35 ?_
        refine ev_at (st' := [va_rf (some a_5), .int 1, .int v1]) rfl (by rw [ea_5]) ?_
        refine ev_get (C := RX1) (T := TX1) (k := 6) inX1 (xE_2 c_6) rfl (by decide) wd_573 (Or.inl rfl) rfl dX5_kindsWithin_36 ?_
        obtain ⟨a_8, ea_8, h⟩ := x_some_e h
        refine ev_at (st' := [va_rf (some a_8), .int 1, .int v1]) rfl (by rw [ea_8]) ?_
        obtain ⟨c_9, h⟩ := x_chk_e h
        refine ev_get (C := RX5) (T := TX5) (k := 0) inX5 (xE_6 c_9) rfl (by decide) wd_270 (Or.inl rfl) rfl dX5_kindsWithin_39 ?_
        refine ev_ishl (x := 1) (y := (σ.I 500 a_8)) dX5_kindsWithin_42 ?_
        exact ev_sub [0, 2] rfl (ev_X5_kindsWithin_p43 hO hP ih h)
set_option maxHeartbeats 4000000 in
set_option maxRecDepth 100000 in
theorem ev_X5_kindsWithin {l : Launch} {G : xG} (hO : x_OK l G) {P : xP} (hP : x_PG P G) {a0 : Nat} {σ σ' : xS} {rr : Int32 ⊕ String} (h : dm_X5_kindsWithin P a0 σ = some (rr, σ')) : EvM l G mX5_kindsWithin [va_rf (some a0)] σ (xrI rr) σ' := by
  unfold dm_X5_kindsWithin at h
  refine evM_of hO (by decide +kernel) (x_lenI (by simp [x_cat, x_catI, x_catJ, mX5_kindsWithin, xM.maxL])) ?_
  refine Eq.mp (congrArg (fun z => Ev l G mX5_kindsWithin 0 z [] σ (xrI rr) σ') (show [(0, va_rf (some a0))] = lv_args 0 [va_rf (some a0)] by simp [lv_args, x_cat, x_catI, x_catJ])) ?_
  refine ev_iconst (v := 0) dX5_kindsWithin_0 (by decide) ?_
  refine ev_istore_n (i := 1) (lv' := [(1, .int 0), (0, va_rf (some a0))]) dX5_kindsWithin_1 rfl (by decide) (by simp [x_cat, x_catI, x_catJ]) ?_
  refine ev_iconst (v := 0) dX5_kindsWithin_2 (by decide) ?_
  refine ev_istore_n (i := 2) (lv' := [(2, .int 0), (1, .int 0), (0, va_rf (some a0))]) dX5_kindsWithin_3 rfl (by decide) rfl ?_
  exact ev_sub [2, 1, 0] rfl (ev_X5_kindsWithin_L4 hO hP P.N h)
set_option maxHeartbeats 4000000 in
set_option maxRecDepth 100000 in
theorem ev_X0_firstInRing_p73 {l : Launch} {G : xG} (hO : x_OK l G) {P : xP} (hP : x_PG P G) {a0 : Nat} {k45 : Option Nat → Int32 → Int32 → xS → xO Int32} {k35 : Option Nat → Int32 → xS → xO Int32} (hk45 : ∀ {v1 : Option Nat} {v2 : Int32} {v3 : Int32} {σ σ' : xS} {rr : Int32 ⊕ String}, k45 v1 v2 v3 σ = some (rr, σ') → Ev l G mX0_firstInRing 45 [(0, va_rf (some a0)), (1, va_rf v1), (2, .int v2), (3, .int v3)] [] σ (xrI rr) σ') (hk35 : ∀ {v1 : Option Nat} {v2 : Int32} {σ σ' : xS} {rr : Int32 ⊕ String}, k35 v1 v2 σ = some (rr, σ') → Ev l G mX0_firstInRing 35 [(0, va_rf (some a0)), (1, va_rf v1), (2, .int v2)] [] σ (xrI rr) σ') {v1 : Option Nat} {v2 : Int32} {v3 : Int32} {σ σ' : xS} {rr : Int32 ⊕ String} (h : dm_X0_firstInRing_p73 P k45 k35 a0 v1 v2 v3 σ = some (rr, σ')) : Ev l G mX0_firstInRing 73 [(0, va_rf (some a0)), (1, va_rf v1), (2, .int v2), (3, .int v3)] [] σ (xrI rr) σ' := by
  unfold dm_X0_firstInRing_p73 at h
  obtain ⟨v_1, ev_1, h⟩ := x_let_e h
  refine ev_iinc (j := 3) (x := v3) (v := v_1) (lv' := [(3, .int v_1), (0, va_rf (some a0)), (1, va_rf v1), (2, .int v2)]) dX0_firstInRing_73 rfl (by rw [ev_1]; rfl) (by decide) rfl ?_
  refine ev_goto (tgt := 45) dX0_firstInRing_76 (by decide) ?_
  exact ev_sub [1, 2, 3, 0] rfl (hk45 h)
set_option maxHeartbeats 4000000 in
set_option maxRecDepth 100000 in
theorem ev_X0_firstInRing_L45 {l : Launch} {G : xG} (hO : x_OK l G) {P : xP} (hP : x_PG P G) {a0 : Nat} {k35 : Option Nat → Int32 → xS → xO Int32} (hk35 : ∀ {v1 : Option Nat} {v2 : Int32} {σ σ' : xS} {rr : Int32 ⊕ String}, k35 v1 v2 σ = some (rr, σ') → Ev l G mX0_firstInRing 35 [(0, va_rf (some a0)), (1, va_rf v1), (2, .int v2)] [] σ (xrI rr) σ') : ∀ (n : Nat) {v1 : Option Nat} {v2 : Int32} {v3 : Int32} {σ σ' : xS} {rr : Int32 ⊕ String}, dm_X0_firstInRing_L45 P k35 a0 n v1 v2 v3 σ = some (rr, σ') → Ev l G mX0_firstInRing 45 [(0, va_rf (some a0)), (1, va_rf v1), (2, .int v2), (3, .int v3)] [] σ (xrI rr) σ' := by
  intro n
  induction n with
  | zero => intro v1 v2 v3 σ σ' rr h; cases h
  | succ n ih =>
    intro v1 v2 v3 σ σ' rr h
    rw [dm_X0_firstInRing_L45] at h
    refine ev_iload_n (j := 3) (x := v3) dX0_firstInRing_45 rfl rfl ?_
    refine ev_aload_n (j := 0) (x := (some a0)) dX0_firstInRing_46 rfl rfl ?_
    obtain ⟨c_1, h⟩ := x_chk_e h
    refine ev_get (C := RX0) (T := TX0) (k := 1) inX0 (xE_1 c_1) rfl (by decide) wd_114 (Or.inl rfl) rfl dX0_firstInRing_47 ?_
    by_cases c_2 : (σ.I 1 a0) ≤ v3
    · rw [if_pos c_2] at h
      refine ev_icmp_ge (x := v3) (y := (σ.I 1 a0)) (tgt := 79) dX0_firstInRing_50 (by decide) (fun _ => ?_) (fun q9 => absurd c_2 q9)
      obtain ⟨v_3, ev_3, h⟩ := x_let_e h
      refine ev_iinc (j := 2) (x := v2) (v := v_3) (lv' := [(2, .int v_3), (0, va_rf (some a0)), (1, va_rf v1), (3, .int v3)]) dX0_firstInRing_79 rfl (by rw [ev_3]; rfl) (by decide) (by simp [x_cat, x_catI, x_catJ]) ?_
      refine ev_goto (tgt := 35) dX0_firstInRing_82 (by decide) ?_
      exact ev_sub [1, 2, 0] rfl (hk35 h)
    · rw [if_neg c_2] at h
      refine ev_icmp_ge (x := v3) (y := (σ.I 1 a0)) (tgt := 79) dX0_firstInRing_50 (by decide) (fun q9 => absurd q9 c_2) (fun _ => ?_)
      refine ev_aload_n (j := 1) (x := v1) dX0_firstInRing_53 rfl rfl ?_
      refine ev_iload_n (j := 3) (x := v3) dX0_firstInRing_54 rfl rfl ?_
      obtain ⟨a_4, ea_4, h⟩ := x_some_e h
      refine ev_at (st' := [.int v3, va_rf (some a_4)]) rfl (by rw [ea_4]) ?_
      obtain ⟨c_5, h⟩ := x_chk_e h
      refine ev_iald c_5.1 c_5.2 dX0_firstInRing_55 ?_
      refine ev_iload_n (j := 2) (x := v2) dX0_firstInRing_56 rfl rfl ?_
      refine ev_ishr (x := (σ.AI a_4 (Int32.toNatClampNeg v3))) (y := v2) dX0_firstInRing_57 ?_
      refine ev_iconst (v := 1) dX0_firstInRing_58 (by decide) ?_
      refine ev_iand (x := ((σ.AI a_4 (Int32.toNatClampNeg v3)) >>> (v2 &&& 31))) (y := 1) dX0_firstInRing_59 ?_
      refine ev_iconst (v := 1) dX0_firstInRing_60 (by decide) ?_
      by_cases c_6 : (((σ.AI a_4 (Int32.toNatClampNeg v3)) >>> (v2 &&& 31)) &&& 1) = 1
      · rw [if_pos c_6] at h
        refine ev_icmp_ne (x := (((σ.AI a_4 (Int32.toNatClampNeg v3)) >>> (v2 &&& 31)) &&& 1)) (y := 1) (tgt := 73) dX0_firstInRing_61 (by decide) (fun q9 => absurd c_6 q9) (fun _ => ?_)
        refine ev_aload_n (j := 1) (x := v1) dX0_firstInRing_64 rfl rfl ?_
        refine ev_iload_n (j := 3) (x := v3) dX0_firstInRing_65 rfl rfl ?_
        refine ev_dup2_11 dX0_firstInRing_66 rfl (x_cat _) ?_
        refine ev_at (st' := [.int v3, va_rf (some a_4), .int v3, va_rf v1]) rfl (by rw [ea_4]) ?_
        refine ev_iald c_5.1 c_5.2 dX0_firstInRing_67 ?_
        refine ev_aload_n (j := 1) (x := v1) dX0_firstInRing_68 rfl rfl ?_
        refine ev_iload_n (j := 2) (x := v2) dX0_firstInRing_69 rfl rfl ?_
        refine ev_at (st' := [.int v2, va_rf (some a_4), .int (σ.AI a_4 (Int32.toNatClampNeg v3)), .int v3, va_rf v1]) rfl (by rw [ea_4]) ?_
        obtain ⟨c_7, h⟩ := x_chk_e h
        refine ev_iald c_7.1 c_7.2 dX0_firstInRing_70 ?_
        refine ev_ior (x := (σ.AI a_4 (Int32.toNatClampNeg v3))) (y := (σ.AI a_4 (Int32.toNatClampNeg v2))) dX0_firstInRing_71 ?_
        refine ev_at (st' := [.int ((σ.AI a_4 (Int32.toNatClampNeg v3)) ||| (σ.AI a_4 (Int32.toNatClampNeg v2))), .int v3, va_rf (some a_4)]) rfl (by rw [ea_4]) ?_
        obtain ⟨c_8, h⟩ := x_chk_e h
        obtain ⟨σ_9, eσ_9, h⟩ := x_let_e h
        refine ev_iast c_8.1 c_8.2.1 (hP.2.2.2.1 ▸ c_8.2.2) dX0_firstInRing_72 (eσ_9 ▸ ?_)
        exact ev_sub [0, 1, 2, 3] rfl (ev_X0_firstInRing_p73 hO hP ih hk35 h)
      · rw [if_neg c_6] at h
        refine ev_icmp_ne (x := (((σ.AI a_4 (Int32.toNatClampNeg v3)) >>> (v2 &&& 31)) &&& 1)) (y := 1) (tgt := 73) dX0_firstInRing_61 (by decide) (fun _ => ?_) (fun q9 => absurd q9 c_6)
        exact ev_sub [0, 1, 2, 3] rfl (ev_X0_firstInRing_p73 hO hP ih hk35 h)
set_option maxHeartbeats 4000000 in
set_option maxRecDepth 100000 in
theorem ev_X0_firstInRing_L87 {l : Launch} {G : xG} (hO : x_OK l G) {P : xP} (hP : x_PG P G) {a0 : Nat} : ∀ (n : Nat) {v1 : Option Nat} {v2 : Int32} {σ σ' : xS} {rr : Int32 ⊕ String}, dm_X0_firstInRing_L87 P a0 n v1 v2 σ = some (rr, σ') → Ev l G mX0_firstInRing 87 [(0, va_rf (some a0)), (1, va_rf v1), (2, .int v2)] [] σ (xrI rr) σ' := by
  intro n
  induction n with
  | zero => intro v1 v2 σ σ' rr h; cases h
  | succ n ih =>
    intro v1 v2 σ σ' rr h
    rw [dm_X0_firstInRing_L87] at h
    refine ev_iload_n (j := 2) (x := v2) dX0_firstInRing_87 rfl rfl ?_
    refine ev_aload_n (j := 0) (x := (some a0)) dX0_firstInRing_88 rfl rfl ?_
    obtain ⟨c_1, h⟩ := x_chk_e h
    refine ev_get (C := RX0) (T := TX0) (k := 1) inX0 (xE_1 c_1) rfl (by decide) wd_114 (Or.inl rfl) rfl dX0_firstInRing_89 ?_
    by_cases c_2 : (σ.I 1 a0) ≤ v2
    · rw [if_pos c_2] at h
      refine ev_icmp_ge (x := v2) (y := (σ.I 1 a0)) (tgt := 122) dX0_firstInRing_92 (by decide) (fun _ => ?_) (fun q9 => absurd c_2 q9)
      refine ev_sipush (v := 1001) dX0_firstInRing_122 (by decide) ?_
      cases h
      exact ev_iret rfl rfl dX0_firstInRing_125
    · rw [if_neg c_2] at h
      refine ev_icmp_ge (x := v2) (y := (σ.I 1 a0)) (tgt := 122) dX0_firstInRing_92 (by decide) (fun q9 => absurd q9 c_2) (fun _ => ?_)
      refine ev_aload_n (j := 1) (x := v1) dX0_firstInRing_95 rfl rfl ?_
      refine ev_iload_n (j := 2) (x := v2) dX0_firstInRing_96 rfl rfl ?_
      obtain ⟨a_3, ea_3, h⟩ := x_some_e h
      refine ev_at (st' := [.int v2, va_rf (some a_3)]) rfl (by rw [ea_3]) ?_
      obtain ⟨c_4, h⟩ := x_chk_e h
      refine ev_iald c_4.1 c_4.2 dX0_firstInRing_97 ?_
      refine ev_iload_n (j := 2) (x := v2) dX0_firstInRing_98 rfl rfl ?_
      refine ev_ishr (x := (σ.AI a_3 (Int32.toNatClampNeg v2))) (y := v2) dX0_firstInRing_99 ?_
      refine ev_iconst (v := 1) dX0_firstInRing_100 (by decide) ?_
      refine ev_iand (x := ((σ.AI a_3 (Int32.toNatClampNeg v2)) >>> (v2 &&& 31))) (y := 1) dX0_firstInRing_101 ?_
      refine ev_iconst (v := 1) dX0_firstInRing_102 (by decide) ?_
      by_cases c_5 : (((σ.AI a_3 (Int32.toNatClampNeg v2)) >>> (v2 &&& 31)) &&& 1) = 1
      · rw [if_pos c_5] at h
        refine ev_icmp_ne (x := (((σ.AI a_3 (Int32.toNatClampNeg v2)) >>> (v2 &&& 31)) &&& 1)) (y := 1) (tgt := 116) dX0_firstInRing_103 (by decide) (fun q9 => absurd c_5 q9) (fun _ => ?_)
        refine ev_aload_n (j := 0) (x := (some a0)) dX0_firstInRing_106 rfl rfl ?_
        refine ev_get (C := RX0) (T := TX0) (k := 0) inX0 (xE_1 c_1) rfl (by decide) wd_113 (Or.inl rfl) rfl dX0_firstInRing_107 ?_
        refine ev_iload_n (j := 2) (x := v2) dX0_firstInRing_110 rfl rfl ?_
        obtain ⟨a_7, ea_7, h⟩ := x_some_e h
        refine ev_at (st' := [.int v2, va_rf (some a_7)]) rfl (by rw [ea_7]) ?_
        obtain ⟨c_8, h⟩ := x_chk_e h
        refine ev_aald_27 c_8.1 c_8.2 dX0_firstInRing_111 ?_
        obtain ⟨a_9, ea_9, h⟩ := x_some_e h
        refine ev_at (st' := [va_rf (some a_9)]) rfl (by rw [ea_9]) ?_
        obtain ⟨c_10, h⟩ := x_chk_e h
        refine ev_get (C := RX5) (T := TX5) (k := 2) inX5 (xE_6 c_10) rfl (by decide) wd_578 (Or.inl rfl) rfl dX0_firstInRing_112 ?_
        cases h
        exact ev_iret rfl rfl dX0_firstInRing_115
      · rw [if_neg c_5] at h
        refine ev_icmp_ne (x := (((σ.AI a_3 (Int32.toNatClampNeg v2)) >>> (v2 &&& 31)) &&& 1)) (y := 1) (tgt := 116) dX0_firstInRing_103 (by decide) (fun _ => ?_) (fun q9 => absurd q9 c_5)
        obtain ⟨v_6, ev_6, h⟩ := x_let_e h
        refine ev_iinc (j := 2) (x := v2) (v := v_6) (lv' := [(2, .int v_6), (0, va_rf (some a0)), (1, va_rf v1)]) dX0_firstInRing_116 rfl (by rw [ev_6]; rfl) (by decide) (by simp [x_cat, x_catI, x_catJ]) ?_
        refine ev_goto (tgt := 87) dX0_firstInRing_119 (by decide) ?_
        exact ev_sub [1, 2, 0] rfl (ih h)
set_option maxHeartbeats 4000000 in
set_option maxRecDepth 100000 in
theorem ev_X0_firstInRing_L35 {l : Launch} {G : xG} (hO : x_OK l G) {P : xP} (hP : x_PG P G) {a0 : Nat} : ∀ (n : Nat) {v1 : Option Nat} {v2 : Int32} {σ σ' : xS} {rr : Int32 ⊕ String}, dm_X0_firstInRing_L35 P a0 n v1 v2 σ = some (rr, σ') → Ev l G mX0_firstInRing 35 [(0, va_rf (some a0)), (1, va_rf v1), (2, .int v2)] [] σ (xrI rr) σ' := by
  intro n
  induction n with
  | zero => intro v1 v2 σ σ' rr h; cases h
  | succ n ih =>
    intro v1 v2 σ σ' rr h
    rw [dm_X0_firstInRing_L35] at h
    refine ev_iload_n (j := 2) (x := v2) dX0_firstInRing_35 rfl rfl ?_
    refine ev_aload_n (j := 0) (x := (some a0)) dX0_firstInRing_36 rfl rfl ?_
    obtain ⟨c_1, h⟩ := x_chk_e h
    refine ev_get (C := RX0) (T := TX0) (k := 1) inX0 (xE_1 c_1) rfl (by decide) wd_114 (Or.inl rfl) rfl dX0_firstInRing_37 ?_
    by_cases c_2 : (σ.I 1 a0) ≤ v2
    · rw [if_pos c_2] at h
      refine ev_icmp_ge (x := v2) (y := (σ.I 1 a0)) (tgt := 85) dX0_firstInRing_40 (by decide) (fun _ => ?_) (fun q9 => absurd c_2 q9)
      refine ev_iconst (v := 0) dX0_firstInRing_85 (by decide) ?_
      refine ev_istore_n (i := 2) (lv' := [(2, .int 0), (0, va_rf (some a0)), (1, va_rf v1)]) dX0_firstInRing_86 rfl (by decide) (by simp [x_cat, x_catI, x_catJ]) ?_
      exact ev_sub [1, 2, 0] rfl (ev_X0_firstInRing_L87 hO hP P.N h)
    · rw [if_neg c_2] at h
      refine ev_icmp_ge (x := v2) (y := (σ.I 1 a0)) (tgt := 85) dX0_firstInRing_40 (by decide) (fun q9 => absurd q9 c_2) (fun _ => ?_)
      refine ev_iconst (v := 0) dX0_firstInRing_43 (by decide) ?_
      refine ev_istore_n (i := 3) (lv' := [(3, .int 0), (0, va_rf (some a0)), (1, va_rf v1), (2, .int v2)]) dX0_firstInRing_44 rfl (by decide) rfl ?_
      exact ev_sub [1, 2, 3, 0] rfl (ev_X0_firstInRing_L45 hO hP ih P.N h)
set_option maxHeartbeats 4000000 in
set_option maxRecDepth 100000 in
theorem ev_X0_firstInRing_L7 {l : Launch} {G : xG} (hO : x_OK l G) {P : xP} (hP : x_PG P G) {a0 : Nat} : ∀ (n : Nat) {v1 : Option Nat} {v2 : Int32} {σ σ' : xS} {rr : Int32 ⊕ String}, dm_X0_firstInRing_L7 P a0 n v1 v2 σ = some (rr, σ') → Ev l G mX0_firstInRing 7 [(0, va_rf (some a0)), (1, va_rf v1), (2, .int v2)] [] σ (xrI rr) σ' := by
  intro n
  induction n with
  | zero => intro v1 v2 σ σ' rr h; cases h
  | succ n ih =>
    intro v1 v2 σ σ' rr h
    rw [dm_X0_firstInRing_L7] at h
    refine ev_iload_n (j := 2) (x := v2) dX0_firstInRing_7 rfl rfl ?_
    refine ev_aload_n (j := 0) (x := (some a0)) dX0_firstInRing_8 rfl rfl ?_
    obtain ⟨c_1, h⟩ := x_chk_e h
    refine ev_get (C := RX0) (T := TX0) (k := 1) inX0 (xE_1 c_1) rfl (by decide) wd_114 (Or.inl rfl) rfl dX0_firstInRing_9 ?_
    by_cases c_2 : (σ.I 1 a0) ≤ v2
    · rw [if_pos c_2] at h
      refine ev_icmp_ge (x := v2) (y := (σ.I 1 a0)) (tgt := 33) dX0_firstInRing_12 (by decide) (fun _ => ?_) (fun q9 => absurd c_2 q9)
      refine ev_iconst (v := 0) dX0_firstInRing_33 (by decide) ?_
      refine ev_istore_n (i := 2) (lv' := [(2, .int 0), (0, va_rf (some a0)), (1, va_rf v1)]) dX0_firstInRing_34 rfl (by decide) (by simp [x_cat, x_catI, x_catJ]) ?_
      exact ev_sub [1, 2, 0] rfl (ev_X0_firstInRing_L35 hO hP P.N h)
    · rw [if_neg c_2] at h
      refine ev_icmp_ge (x := v2) (y := (σ.I 1 a0)) (tgt := 33) dX0_firstInRing_12 (by decide) (fun q9 => absurd q9 c_2) (fun _ => ?_)
      refine ev_aload_n (j := 1) (x := v1) dX0_firstInRing_15 rfl rfl ?_
      refine ev_iload_n (j := 2) (x := v2) dX0_firstInRing_16 rfl rfl ?_
      refine ev_aload_n (j := 0) (x := (some a0)) dX0_firstInRing_17 rfl rfl ?_
      refine ev_get (C := RX0) (T := TX0) (k := 0) inX0 (xE_1 c_1) rfl (by decide) wd_113 (Or.inl rfl) rfl dX0_firstInRing_18 ?_
      refine ev_iload_n (j := 2) (x := v2) dX0_firstInRing_21 rfl rfl ?_
      obtain ⟨a_3, ea_3, h⟩ := x_some_e h
      refine ev_at (st' := [.int v2, va_rf (some a_3), .int v2, va_rf v1]) rfl (by rw [ea_3]) ?_
      obtain ⟨c_4, h⟩ := x_chk_e h
      refine ev_aald_27 c_4.1 c_4.2 dX0_firstInRing_22 ?_
      obtain ⟨a_5, ea_5, h⟩ := x_some_e h
      refine ev_at (st' := [va_rf (some a_5), .int v2, va_rf v1]) rfl (by rw [ea_5]) ?_
      obtain ⟨c_9, h⟩ := x_chk_e h
      rcases x_bind_e h with ⟨v_6, σ_7, h_8, h⟩ | ⟨E_14, σ_7, h_8, h⟩
      · have z9 := x_call (M := mX0_firstInRing) (M' := mX5_kindsWithin) (pc := 23) (st := [va_rf (some a_5), .int v2, va_rf v1]) (rest := [.int v2, va_rf v1]) (av := [va_rf (some a_5)]) (x_linkV (M := mX0_firstInRing) (M' := mX5_kindsWithin) (As := []) (index := 68) (C := RX5) (T := TX5) (xE_6 c_9) rfl wd_576 wd_577 wd_575 xw_X5_kindsWithin rfl (by decide) rfl rfl dX0_firstInRing_23) (ev_X5_kindsWithin hO hP h_8) xw_X5_kindsWithin rfl wd_274 dX0_firstInRing_23 (by decide) (by decide) (by simp [x_cat, x_catI, x_catJ])
        refine x_callR z9 ?_
        refine ev_at (st' := [.int v_6, .int v2, va_rf v1]) rfl rfl ?_
        obtain ⟨a_10, ea_10, h⟩ := x_some_e h
        refine ev_at (st' := [.int v_6, .int v2, va_rf (some a_10)]) rfl (by rw [ea_10]) ?_
        obtain ⟨c_11, h⟩ := x_chk_e h
        obtain ⟨σ_12, eσ_12, h⟩ := x_let_e h
        refine ev_iast c_11.1 c_11.2.1 (hP.2.2.2.1 ▸ c_11.2.2) dX0_firstInRing_26 (eσ_12 ▸ ?_)
        obtain ⟨v_13, ev_13, h⟩ := x_let_e h
        refine ev_iinc (j := 2) (x := v2) (v := v_13) (lv' := [(2, .int v_13), (0, va_rf (some a0)), (1, va_rf v1)]) dX0_firstInRing_27 rfl (by rw [ev_13]; rfl) (by decide) (by simp [x_cat, x_catI, x_catJ]) ?_
        refine ev_goto (tgt := 7) dX0_firstInRing_30 (by decide) ?_
        exact ev_sub [1, 2, 0] rfl (ih h)
      · have z9 := x_call (M := mX0_firstInRing) (M' := mX5_kindsWithin) (pc := 23) (st := [va_rf (some a_5), .int v2, va_rf v1]) (rest := [.int v2, va_rf v1]) (av := [va_rf (some a_5)]) (x_linkV (M := mX0_firstInRing) (M' := mX5_kindsWithin) (As := []) (index := 68) (C := RX5) (T := TX5) (xE_6 c_9) rfl wd_576 wd_577 wd_575 xw_X5_kindsWithin rfl (by decide) rfl rfl dX0_firstInRing_23) (ev_X5_kindsWithin hO hP h_8) xw_X5_kindsWithin rfl wd_274 dX0_firstInRing_23 (by decide) (by decide) (by simp [x_cat, x_catI, x_catJ])
        cases h
        exact x_callX z9 (evX_out rfl)
set_option maxHeartbeats 4000000 in
set_option maxRecDepth 100000 in
theorem ev_X0_firstInRing {l : Launch} {G : xG} (hO : x_OK l G) {P : xP} (hP : x_PG P G) {a0 : Nat} {σ σ' : xS} {rr : Int32 ⊕ String} (h : dm_X0_firstInRing P a0 σ = some (rr, σ')) : EvM l G mX0_firstInRing [va_rf (some a0)] σ (xrI rr) σ' := by
  unfold dm_X0_firstInRing at h
  refine evM_of hO (by decide +kernel) (x_lenI (by simp [x_cat, x_catI, x_catJ, mX0_firstInRing, xM.maxL])) ?_
  refine Eq.mp (congrArg (fun z => Ev l G mX0_firstInRing 0 z [] σ (xrI rr) σ') (show [(0, va_rf (some a0))] = lv_args 0 [va_rf (some a0)] by simp [lv_args, x_cat, x_catI, x_catJ])) ?_
  refine ev_bipush (v := 8) dX0_firstInRing_0 (by decide) ?_
  obtain ⟨c_1, h⟩ := x_chk_e h
  obtain ⟨σ_2, eσ_2, h⟩ := x_let_e h
  refine ev_newaI (k := 21) (kc := 21) (t0 := 1) (ty := .int) (by decide) (fun _ => rfl) rfl rfl (fun _ h9 => by cases h9) wd_90 c_1.1 c_1.2.1 (by decide) (hP.2.1 ▸ c_1.2.2.1) (hP.2.2.1 ▸ c_1.2.2.2) dX0_firstInRing_2 (eσ_2 ▸ ?_)
  refine ev_astore_n (i := 1) (lv' := [(1, va_rf (some σ.sz)), (0, va_rf (some a0))]) dX0_firstInRing_4 rfl (by decide) (by simp [x_cat, x_catI, x_catJ]) ?_
  refine ev_iconst (v := 0) dX0_firstInRing_5 (by decide) ?_
  refine ev_istore_n (i := 2) (lv' := [(2, .int 0), (1, va_rf (some σ.sz)), (0, va_rf (some a0))]) dX0_firstInRing_6 rfl (by decide) (by simp [x_cat, x_catI, x_catJ]) ?_
  exact ev_sub [2, 1, 0] rfl (ev_X0_firstInRing_L7 hO hP P.N h)
set_option maxHeartbeats 4000000 in
set_option maxRecDepth 100000 in
theorem ev_X5_belowByKinds_p43 {l : Launch} {G : xG} (hO : x_OK l G) {P : xP} (hP : x_PG P G) {a0 : Nat} {k4 : Int32 → Int32 → xS → xO Int32} (hk4 : ∀ {v1 : Int32} {v2 : Int32} {σ σ' : xS} {rr : Int32 ⊕ String}, k4 v1 v2 σ = some (rr, σ') → Ev l G mX5_belowByKinds 4 [(0, va_rf (some a0)), (1, .int v1), (2, .int v2)] [] σ (xrI rr) σ') {v2 : Int32} {s0 : Int32} {s1 : Int32} {σ σ' : xS} {rr : Int32 ⊕ String} (h : dm_X5_belowByKinds_p43 P k4 a0 v2 s0 s1 σ = some (rr, σ')) : Ev l G mX5_belowByKinds 43 [(0, va_rf (some a0)), (2, .int v2)] [.int s1, .int s0] σ (xrI rr) σ' := by
  unfold dm_X5_belowByKinds_p43 at h
  refine ev_mmax (x := s0) (y := s1) (index := 93) wd_579 wd_580 wd_567 wd_581 dX5_belowByKinds_43 (by decide) (by decide) ?_
  obtain ⟨v_1, ev_1, h⟩ := x_let_e h
  rw [← ev_1]
  refine ev_istore_n (i := 1) (lv' := [(1, .int v_1), (0, va_rf (some a0)), (2, .int v2)]) dX5_belowByKinds_46 rfl (by decide) (by simp [x_cat, x_catI, x_catJ]) ?_
  obtain ⟨v_2, ev_2, h⟩ := x_let_e h
  refine ev_iinc (j := 2) (x := v2) (v := v_2) (lv' := [(2, .int v_2), (1, .int v_1), (0, va_rf (some a0))]) dX5_belowByKinds_47 rfl (by rw [ev_2]; rfl) (by decide) rfl ?_
  refine ev_goto (tgt := 4) dX5_belowByKinds_50 (by decide) ?_
  exact ev_sub [2, 1, 0] rfl (hk4 h)
set_option maxHeartbeats 4000000 in
set_option maxRecDepth 100000 in
theorem ev_X5_belowByKinds_L4 {l : Launch} {G : xG} (hO : x_OK l G) {P : xP} (hP : x_PG P G) {a0 : Nat} : ∀ (n : Nat) {v1 : Int32} {v2 : Int32} {σ σ' : xS} {rr : Int32 ⊕ String}, dm_X5_belowByKinds_L4 P a0 n v1 v2 σ = some (rr, σ') → Ev l G mX5_belowByKinds 4 [(0, va_rf (some a0)), (1, .int v1), (2, .int v2)] [] σ (xrI rr) σ' := by
  intro n
  induction n with
  | zero => intro v1 v2 σ σ' rr h; cases h
  | succ n ih =>
    intro v1 v2 σ σ' rr h
    rw [dm_X5_belowByKinds_L4] at h
    refine ev_iload_n (j := 2) (x := v2) dX5_belowByKinds_4 rfl rfl ?_
    refine ev_aload_n (j := 0) (x := (some a0)) dX5_belowByKinds_5 rfl rfl ?_
    obtain ⟨c_1, h⟩ := x_chk_e h
    refine ev_get (C := RX5) (T := TX5) (k := 11) inX5 (xE_6 c_1) rfl (by decide) wd_268 (Or.inl rfl) rfl dX5_belowByKinds_6 ?_
    by_cases c_2 : (σ.I 511 a0) ≤ v2
    · rw [if_pos c_2] at h
      refine ev_icmp_ge (x := v2) (y := (σ.I 511 a0)) (tgt := 53) dX5_belowByKinds_9 (by decide) (fun _ => ?_) (fun q9 => absurd c_2 q9)
      refine ev_iload_n (j := 1) (x := v1) dX5_belowByKinds_53 rfl rfl ?_
      cases h
      exact ev_iret rfl rfl dX5_belowByKinds_54
    · rw [if_neg c_2] at h
      refine ev_icmp_ge (x := v2) (y := (σ.I 511 a0)) (tgt := 53) dX5_belowByKinds_9 (by decide) (fun q9 => absurd q9 c_2) (fun _ => ?_)
      refine ev_iload_n (j := 1) (x := v1) dX5_belowByKinds_12 rfl rfl ?_
      refine ev_aload_n (j := 0) (x := (some a0)) dX5_belowByKinds_13 rfl rfl ?_
      refine ev_get (C := RX5) (T := TX5) (k := 10) inX5 (xE_6 c_1) rfl (by decide) wd_267 (Or.inl rfl) rfl dX5_belowByKinds_14 ?_
      refine ev_iload_n (j := 2) (x := v2) dX5_belowByKinds_17 rfl rfl ?_
      obtain ⟨a_3, ea_3, h⟩ := x_some_e h
      refine ev_at (st' := [.int v2, va_rf (some a_3), .int v1]) rfl (by rw [ea_3]) ?_
      obtain ⟨c_4, h⟩ := x_chk_e h
      refine ev_aald_24 c_4.1 c_4.2 dX5_belowByKinds_18 ?_
      obtain ⟨a_5, ea_5, h⟩ := x_some_e h
      refine ev_at (st' := [va_rf (some a_5), .int v1]) rfl (by rw [ea_5]) ?_
      obtain ⟨c_6, h⟩ := x_chk_e h
      refine ev_get (C := RX1) (T := TX1) (k := 6) inX1 (xE_2 c_6) rfl (by decide) wd_573 (Or.inl rfl) rfl dX5_belowByKinds_19 ?_
      by_cases c_7 : (σ.R 106 a_5) = none
      · rw [if_pos c_7] at h
        refine ev_ifnonnull (x := (σ.R 106 a_5)) (tgt := 29) dX5_belowByKinds_22 (by decide) (fun q9 => absurd c_7 q9) (fun _ => ?_)
        refine ev_iconst (v := 0) dX5_belowByKinds_25 (by decide) ?_
        refine ev_goto (tgt := 43) dX5_belowByKinds_26 (by decide) ?_
        exact ev_sub [0, 2] rfl (ev_X5_belowByKinds_p43 hO hP ih h)
      · rw [if_neg c_7] at h
        refine ev_ifnonnull (x := (σ.R 106 a_5)) (tgt := 29) dX5_belowByKinds_22 (by decide) (fun _ => ?_) (fun q9 => absurd q9 c_7)
        refine ev_aload_n (j := 0) (x := (some a0)) dX5_belowByKinds_29 rfl rfl ?_
        refine ev_get (C := RX5) (T := TX5) (k := 10) inX5 (xE_6 c_1) rfl (by decide) wd_267 (Or.inl rfl) rfl dX5_belowByKinds_30 ?_
        refine ev_iload_n (j := 2) (x := v2) dX5_belowByKinds_33 rfl rfl ?_
        refine ev_at (st' := [.int v2, va_rf (some a_3), .int v1]) rfl (by rw [ea_3]) ?_
        refine ev_aald_24 c_4.1 c_4.2 dX5_belowByKinds_34 ?_
        refine ev_at (st' := [va_rf (some a_5), .int v1]) rfl (by rw [ea_5]) ?_
        refine ev_get (C := RX1) (T := TX1) (k := 6) inX1 (xE_2 c_6) rfl (by decide) wd_573 (Or.inl rfl) rfl dX5_belowByKinds_35 ?_
        obtain ⟨a_8, ea_8, h⟩ := x_some_e h
        refine ev_at (st' := [va_rf (some a_8), .int v1]) rfl (by rw [ea_8]) ?_
        obtain ⟨c_9, h⟩ := x_chk_e h
        refine ev_get (C := RX5) (T := TX5) (k := 12) inX5 (xE_6 c_9) rfl (by decide) wd_269 (Or.inl rfl) rfl dX5_belowByKinds_38 ?_
        refine ev_iconst (v := 1) dX5_belowByKinds_41 (by decide) ?_
        refine ev_iadd (x := (σ.I 512 a_8)) (y := 1) dX5_belowByKinds_42 ?_
        exact ev_sub [0, 2] rfl (ev_X5_belowByKinds_p43 hO hP ih h)
set_option maxHeartbeats 4000000 in
set_option maxRecDepth 100000 in
theorem ev_X5_belowByKinds {l : Launch} {G : xG} (hO : x_OK l G) {P : xP} (hP : x_PG P G) {a0 : Nat} {σ σ' : xS} {rr : Int32 ⊕ String} (h : dm_X5_belowByKinds P a0 σ = some (rr, σ')) : EvM l G mX5_belowByKinds [va_rf (some a0)] σ (xrI rr) σ' := by
  unfold dm_X5_belowByKinds at h
  refine evM_of hO (by decide +kernel) (x_lenI (by simp [x_cat, x_catI, x_catJ, mX5_belowByKinds, xM.maxL])) ?_
  refine Eq.mp (congrArg (fun z => Ev l G mX5_belowByKinds 0 z [] σ (xrI rr) σ') (show [(0, va_rf (some a0))] = lv_args 0 [va_rf (some a0)] by simp [lv_args, x_cat, x_catI, x_catJ])) ?_
  refine ev_iconst (v := 0) dX5_belowByKinds_0 (by decide) ?_
  refine ev_istore_n (i := 1) (lv' := [(1, .int 0), (0, va_rf (some a0))]) dX5_belowByKinds_1 rfl (by decide) (by simp [x_cat, x_catI, x_catJ]) ?_
  refine ev_iconst (v := 0) dX5_belowByKinds_2 (by decide) ?_
  refine ev_istore_n (i := 2) (lv' := [(2, .int 0), (1, .int 0), (0, va_rf (some a0))]) dX5_belowByKinds_3 rfl (by decide) rfl ?_
  exact ev_sub [2, 1, 0] rfl (ev_X5_belowByKinds_L4 hO hP P.N h)
set_option maxHeartbeats 4000000 in
set_option maxRecDepth 100000 in
theorem ev_X0_measureBelow_L12 {l : Launch} {G : xG} (hO : x_OK l G) {P : xP} (hP : x_PG P G) {a0 : Nat} {k2 : Int32 → xS → xO Unit} (hk2 : ∀ {v1 : Int32} {σ σ' : xS} {rr : Unit ⊕ String}, k2 v1 σ = some (rr, σ') → Ev l G mX0_measureBelow 2 [(0, va_rf (some a0)), (1, .int v1)] [] σ (xrV rr) σ') : ∀ (n : Nat) {v1 : Int32} {v2 : Int32} {σ σ' : xS} {rr : Unit ⊕ String}, dm_X0_measureBelow_L12 P k2 a0 n v1 v2 σ = some (rr, σ') → Ev l G mX0_measureBelow 12 [(0, va_rf (some a0)), (1, .int v1), (2, .int v2)] [] σ (xrV rr) σ' := by
  intro n
  induction n with
  | zero => intro v1 v2 σ σ' rr h; cases h
  | succ n ih =>
    intro v1 v2 σ σ' rr h
    rw [dm_X0_measureBelow_L12] at h
    refine ev_iload_n (j := 2) (x := v2) dX0_measureBelow_12 rfl rfl ?_
    refine ev_aload_n (j := 0) (x := (some a0)) dX0_measureBelow_13 rfl rfl ?_
    obtain ⟨c_1, h⟩ := x_chk_e h
    refine ev_get (C := RX0) (T := TX0) (k := 1) inX0 (xE_1 c_1) rfl (by decide) wd_114 (Or.inl rfl) rfl dX0_measureBelow_14 ?_
    by_cases c_2 : (σ.I 1 a0) ≤ v2
    · rw [if_pos c_2] at h
      refine ev_icmp_ge (x := v2) (y := (σ.I 1 a0)) (tgt := 44) dX0_measureBelow_17 (by decide) (fun _ => ?_) (fun q9 => absurd c_2 q9)
      obtain ⟨v_3, ev_3, h⟩ := x_let_e h
      refine ev_iinc (j := 1) (x := v1) (v := v_3) (lv' := [(1, .int v_3), (0, va_rf (some a0)), (2, .int v2)]) dX0_measureBelow_44 rfl (by rw [ev_3]; rfl) (by decide) (by simp [x_cat, x_catI, x_catJ]) ?_
      refine ev_goto (tgt := 2) dX0_measureBelow_47 (by decide) ?_
      exact ev_sub [1, 0] rfl (hk2 h)
    · rw [if_neg c_2] at h
      refine ev_icmp_ge (x := v2) (y := (σ.I 1 a0)) (tgt := 44) dX0_measureBelow_17 (by decide) (fun q9 => absurd q9 c_2) (fun _ => ?_)
      refine ev_aload_n (j := 0) (x := (some a0)) dX0_measureBelow_20 rfl rfl ?_
      refine ev_get (C := RX0) (T := TX0) (k := 0) inX0 (xE_1 c_1) rfl (by decide) wd_113 (Or.inl rfl) rfl dX0_measureBelow_21 ?_
      refine ev_iload_n (j := 2) (x := v2) dX0_measureBelow_24 rfl rfl ?_
      obtain ⟨a_4, ea_4, h⟩ := x_some_e h
      refine ev_at (st' := [.int v2, va_rf (some a_4)]) rfl (by rw [ea_4]) ?_
      obtain ⟨c_5, h⟩ := x_chk_e h
      refine ev_aald_27 c_5.1 c_5.2 dX0_measureBelow_25 ?_
      refine ev_aload_n (j := 0) (x := (some a0)) dX0_measureBelow_26 rfl rfl ?_
      refine ev_get (C := RX0) (T := TX0) (k := 0) inX0 (xE_1 c_1) rfl (by decide) wd_113 (Or.inl rfl) rfl dX0_measureBelow_27 ?_
      refine ev_iload_n (j := 2) (x := v2) dX0_measureBelow_30 rfl rfl ?_
      refine ev_at (st' := [.int v2, va_rf (some a_4), va_rf (σ.AR a_4 (Int32.toNatClampNeg v2))]) rfl (by rw [ea_4]) ?_
      refine ev_aald_27 c_5.1 c_5.2 dX0_measureBelow_31 ?_
      obtain ⟨a_6, ea_6, h⟩ := x_some_e h
      refine ev_at (st' := [va_rf (some a_6), va_rf (σ.AR a_4 (Int32.toNatClampNeg v2))]) rfl (by rw [ea_6]) ?_
      obtain ⟨c_10, h⟩ := x_chk_e h
      rcases x_bind_e h with ⟨v_7, σ_8, h_9, h⟩ | ⟨E_14, σ_8, h_9, h⟩
      · have z9 := x_call (M := mX0_measureBelow) (M' := mX5_belowByKinds) (pc := 32) (st := [va_rf (some a_6), va_rf (σ.AR a_4 (Int32.toNatClampNeg v2))]) (rest := [va_rf (σ.AR a_4 (Int32.toNatClampNeg v2))]) (av := [va_rf (some a_6)]) (x_linkV (M := mX0_measureBelow) (M' := mX5_belowByKinds) (As := []) (index := 74) (C := RX5) (T := TX5) (xE_6 c_10) rfl wd_584 wd_585 wd_583 xw_X5_belowByKinds rfl (by decide) rfl rfl dX0_measureBelow_32) (ev_X5_belowByKinds hO hP h_9) xw_X5_belowByKinds rfl wd_274 dX0_measureBelow_32 (by decide) (by decide) (by simp [x_cat, x_catI, x_catJ])
        refine x_callR z9 ?_
        refine ev_at (st' := [.int v_7, va_rf (σ.AR a_4 (Int32.toNatClampNeg v2))]) rfl rfl ?_
        refine ev_at (st' := [.int v_7, va_rf (some a_6)]) rfl (by rw [ea_6]) ?_
        obtain ⟨c_11, h⟩ := x_chk_e h
        obtain ⟨σ_12, eσ_12, h⟩ := x_let_e h
        refine ev_put (σ2 := σ_12) (C := RX5) (T := TX5) (k := 12) inX5 tyX5 tyX5_ok nmX5 (xE_6 c_11.1) rfl (by decide) wd_586 (Or.inl rfl) rfl rfl rfl rfl (Nat.le_of_ble_eq_true rfl) (hP.2.2.2.1 ▸ c_11.2) (by rw [eσ_12]; exact xP_6_12 _ c_11.1) (by rw [eσ_12]; exact xPut_I) dX0_measureBelow_35 ?_
        obtain ⟨v_13, ev_13, h⟩ := x_let_e h
        refine ev_iinc (j := 2) (x := v2) (v := v_13) (lv' := [(2, .int v_13), (0, va_rf (some a0)), (1, .int v1)]) dX0_measureBelow_38 rfl (by rw [ev_13]; rfl) (by decide) rfl ?_
        refine ev_goto (tgt := 12) dX0_measureBelow_41 (by decide) ?_
        exact ev_sub [1, 2, 0] rfl (ih h)
      · have z9 := x_call (M := mX0_measureBelow) (M' := mX5_belowByKinds) (pc := 32) (st := [va_rf (some a_6), va_rf (σ.AR a_4 (Int32.toNatClampNeg v2))]) (rest := [va_rf (σ.AR a_4 (Int32.toNatClampNeg v2))]) (av := [va_rf (some a_6)]) (x_linkV (M := mX0_measureBelow) (M' := mX5_belowByKinds) (As := []) (index := 74) (C := RX5) (T := TX5) (xE_6 c_10) rfl wd_584 wd_585 wd_583 xw_X5_belowByKinds rfl (by decide) rfl rfl dX0_measureBelow_32) (ev_X5_belowByKinds hO hP h_9) xw_X5_belowByKinds rfl wd_274 dX0_measureBelow_32 (by decide) (by decide) (by simp [x_cat, x_catI, x_catJ])
        cases h
        exact x_callX z9 (evX_out rfl)
set_option maxHeartbeats 4000000 in
set_option maxRecDepth 100000 in
theorem ev_X0_measureBelow_L2 {l : Launch} {G : xG} (hO : x_OK l G) {P : xP} (hP : x_PG P G) {a0 : Nat} : ∀ (n : Nat) {v1 : Int32} {σ σ' : xS} {rr : Unit ⊕ String}, dm_X0_measureBelow_L2 P a0 n v1 σ = some (rr, σ') → Ev l G mX0_measureBelow 2 [(0, va_rf (some a0)), (1, .int v1)] [] σ (xrV rr) σ' := by
  intro n
  induction n with
  | zero => intro v1 σ σ' rr h; cases h
  | succ n ih =>
    intro v1 σ σ' rr h
    rw [dm_X0_measureBelow_L2] at h
    refine ev_iload_n (j := 1) (x := v1) dX0_measureBelow_2 rfl rfl ?_
    refine ev_aload_n (j := 0) (x := (some a0)) dX0_measureBelow_3 rfl rfl ?_
    obtain ⟨c_1, h⟩ := x_chk_e h
    refine ev_get (C := RX0) (T := TX0) (k := 1) inX0 (xE_1 c_1) rfl (by decide) wd_114 (Or.inl rfl) rfl dX0_measureBelow_4 ?_
    by_cases c_2 : (σ.I 1 a0) ≤ v1
    · rw [if_pos c_2] at h
      refine ev_icmp_ge (x := v1) (y := (σ.I 1 a0)) (tgt := 50) dX0_measureBelow_7 (by decide) (fun _ => ?_) (fun q9 => absurd c_2 q9)
      cases h
      exact ev_vret rfl dX0_measureBelow_50
    · rw [if_neg c_2] at h
      refine ev_icmp_ge (x := v1) (y := (σ.I 1 a0)) (tgt := 50) dX0_measureBelow_7 (by decide) (fun q9 => absurd q9 c_2) (fun _ => ?_)
      refine ev_iconst (v := 0) dX0_measureBelow_10 (by decide) ?_
      refine ev_istore_n (i := 2) (lv' := [(2, .int 0), (0, va_rf (some a0)), (1, .int v1)]) dX0_measureBelow_11 rfl (by decide) rfl ?_
      exact ev_sub [1, 2, 0] rfl (ev_X0_measureBelow_L12 hO hP ih P.N h)
set_option maxHeartbeats 4000000 in
set_option maxRecDepth 100000 in
theorem ev_X0_measureBelow {l : Launch} {G : xG} (hO : x_OK l G) {P : xP} (hP : x_PG P G) {a0 : Nat} {σ σ' : xS} {rr : Unit ⊕ String} (h : dm_X0_measureBelow P a0 σ = some (rr, σ')) : EvM l G mX0_measureBelow [va_rf (some a0)] σ (xrV rr) σ' := by
  unfold dm_X0_measureBelow at h
  refine evM_of hO (by decide +kernel) (x_lenI (by simp [x_cat, x_catI, x_catJ, mX0_measureBelow, xM.maxL])) ?_
  refine Eq.mp (congrArg (fun z => Ev l G mX0_measureBelow 0 z [] σ (xrV rr) σ') (show [(0, va_rf (some a0))] = lv_args 0 [va_rf (some a0)] by simp [lv_args, x_cat, x_catI, x_catJ])) ?_
  refine ev_iconst (v := 0) dX0_measureBelow_0 (by decide) ?_
  refine ev_istore_n (i := 1) (lv' := [(1, .int 0), (0, va_rf (some a0))]) dX0_measureBelow_1 rfl (by decide) (by simp [x_cat, x_catI, x_catJ]) ?_
  exact ev_sub [1, 0] rfl (ev_X0_measureBelow_L2 hO hP P.N h)
set_option maxHeartbeats 4000000 in
set_option maxRecDepth 100000 in
theorem ev_X0_faultAsWhole_p83 {l : Launch} {G : xG} (hO : x_OK l G) {P : xP} (hP : x_PG P G) {a0 : Nat} {v1 : Int32} {σ σ' : xS} {rr : Int32 ⊕ String} (h : dm_X0_faultAsWhole_p83 P a0 v1 σ = some (rr, σ')) : Ev l G mX0_faultAsWhole 83 [(1, .int v1)] [] σ (xrI rr) σ' := by
  unfold dm_X0_faultAsWhole_p83 at h
  refine ev_iload_n (j := 0) (x := v1) dX0_faultAsWhole_83 rfl rfl ?_
  cases h
  exact ev_iret rfl rfl dX0_faultAsWhole_84
set_option maxHeartbeats 4000000 in
set_option maxRecDepth 100000 in
theorem ev_X0_faultAsWhole_p72 {l : Launch} {G : xG} (hO : x_OK l G) {P : xP} (hP : x_PG P G) {a0 : Nat} {v1 : Int32} {σ σ' : xS} {rr : Int32 ⊕ String} (h : dm_X0_faultAsWhole_p72 P a0 v1 σ = some (rr, σ')) : Ev l G mX0_faultAsWhole 72 [(0, va_rf (some a0)), (1, .int v1)] [] σ (xrI rr) σ' := by
  unfold dm_X0_faultAsWhole_p72 at h
  refine ev_iload_n (j := 1) (x := v1) dX0_faultAsWhole_72 rfl rfl ?_
  refine ev_sipush (v := 1001) dX0_faultAsWhole_73 (by decide) ?_
  by_cases c_1 : v1 = 1001
  · rw [if_pos c_1] at h
    refine ev_icmp_ne (x := v1) (y := 1001) (tgt := 83) dX0_faultAsWhole_76 (by decide) (fun q9 => absurd c_1 q9) (fun _ => ?_)
    refine ev_aload_n (j := 0) (x := (some a0)) dX0_faultAsWhole_79 rfl rfl ?_
    obtain ⟨c_5, h⟩ := x_chk_e h
    rcases x_bind_e h with ⟨v_2, σ_3, h_4, h⟩ | ⟨E_6, σ_3, h_4, h⟩
    · have z9 := x_call (M := mX0_faultAsWhole) (M' := mX0_measureBelow) (pc := 80) (st := [va_rf (some a0)]) (rest := []) (av := [va_rf (some a0)]) (x_linkV (M := mX0_faultAsWhole) (M' := mX0_measureBelow) (As := []) (index := 49) (C := RX0) (T := TX0) (xE_1 c_5) rfl wd_599 wd_600 (wG_in (List.mem_append_left _ (List.mem_of_getElem? (i := 17) rfl)) rfl) xw_X0_measureBelow rfl (by decide) rfl rfl dX0_faultAsWhole_80) (ev_X0_measureBelow hO hP h_4) xw_X0_measureBelow rfl wd_145 dX0_faultAsWhole_80 (by decide) (by decide) (by simp [x_cat, x_catI, x_catJ])
      refine x_callR z9 ?_
      refine ev_at (st' := []) rfl rfl ?_
      exact ev_sub [1] rfl (ev_X0_faultAsWhole_p83 hO hP h)
    · have z9 := x_call (M := mX0_faultAsWhole) (M' := mX0_measureBelow) (pc := 80) (st := [va_rf (some a0)]) (rest := []) (av := [va_rf (some a0)]) (x_linkV (M := mX0_faultAsWhole) (M' := mX0_measureBelow) (As := []) (index := 49) (C := RX0) (T := TX0) (xE_1 c_5) rfl wd_599 wd_600 (wG_in (List.mem_append_left _ (List.mem_of_getElem? (i := 17) rfl)) rfl) xw_X0_measureBelow rfl (by decide) rfl rfl dX0_faultAsWhole_80) (ev_X0_measureBelow hO hP h_4) xw_X0_measureBelow rfl wd_145 dX0_faultAsWhole_80 (by decide) (by decide) (by simp [x_cat, x_catI, x_catJ])
      cases h
      exact x_callX z9 (evX_out rfl)
  · rw [if_neg c_1] at h
    refine ev_icmp_ne (x := v1) (y := 1001) (tgt := 83) dX0_faultAsWhole_76 (by decide) (fun _ => ?_) (fun q9 => absurd q9 c_1)
    exact ev_sub [1] rfl (ev_X0_faultAsWhole_p83 hO hP h)
set_option maxHeartbeats 4000000 in
set_option maxRecDepth 100000 in
theorem ev_X0_faultAsWhole_L32 {l : Launch} {G : xG} (hO : x_OK l G) {P : xP} (hP : x_PG P G) {a0 : Nat} : ∀ (n : Nat) {v1 : Int32} {v2 : Int32} {σ σ' : xS} {rr : Int32 ⊕ String}, dm_X0_faultAsWhole_L32 P a0 n v1 v2 σ = some (rr, σ') → Ev l G mX0_faultAsWhole 32 [(0, va_rf (some a0)), (1, .int v1), (2, .int v2)] [] σ (xrI rr) σ' := by
  intro n
  induction n with
  | zero => intro v1 v2 σ σ' rr h; cases h
  | succ n ih =>
    intro v1 v2 σ σ' rr h
    rw [dm_X0_faultAsWhole_L32] at h
    refine ev_iload_n (j := 2) (x := v2) dX0_faultAsWhole_32 rfl rfl ?_
    refine ev_aload_n (j := 0) (x := (some a0)) dX0_faultAsWhole_33 rfl rfl ?_
    obtain ⟨c_1, h⟩ := x_chk_e h
    refine ev_get (C := RX0) (T := TX0) (k := 1) inX0 (xE_1 c_1) rfl (by decide) wd_114 (Or.inl rfl) rfl dX0_faultAsWhole_34 ?_
    by_cases c_2 : (σ.I 1 a0) ≤ v2
    · rw [if_pos c_2] at h
      refine ev_icmp_ge (x := v2) (y := (σ.I 1 a0)) (tgt := 60) dX0_faultAsWhole_37 (by decide) (fun _ => ?_) (fun q9 => absurd c_2 q9)
      refine ev_iload_n (j := 1) (x := v1) dX0_faultAsWhole_60 rfl rfl ?_
      refine ev_sipush (v := 1001) dX0_faultAsWhole_61 (by decide) ?_
      by_cases c_3 : v1 = 1001
      · rw [if_pos c_3] at h
        refine ev_icmp_ne (x := v1) (y := 1001) (tgt := 72) dX0_faultAsWhole_64 (by decide) (fun q9 => absurd c_3 q9) (fun _ => ?_)
        refine ev_aload_n (j := 0) (x := (some a0)) dX0_faultAsWhole_67 rfl rfl ?_
        rcases x_bind_e h with ⟨v_4, σ_5, h_6, h⟩ | ⟨E_7, σ_5, h_6, h⟩
        · have z9 := x_call (M := mX0_faultAsWhole) (M' := mX0_firstInRing) (pc := 68) (st := [va_rf (some a0)]) (rest := []) (av := [va_rf (some a0)]) (x_linkV (M := mX0_faultAsWhole) (M' := mX0_firstInRing) (As := []) (index := 46) (C := RX0) (T := TX0) (xE_1 c_1) rfl wd_591 wd_592 (wG_in (List.mem_append_left _ (List.mem_of_getElem? (i := 16) rfl)) rfl) xw_X0_firstInRing rfl (by decide) rfl rfl dX0_faultAsWhole_68) (ev_X0_firstInRing hO hP h_6) xw_X0_firstInRing rfl wd_145 dX0_faultAsWhole_68 (by decide) (by decide) (by simp [x_cat, x_catI, x_catJ])
          refine x_callR z9 ?_
          refine ev_at (st' := [.int v_4]) rfl rfl ?_
          refine ev_istore_n (i := 1) (lv' := [(1, .int v_4), (0, va_rf (some a0)), (2, .int v2)]) dX0_faultAsWhole_71 rfl (by decide) (by simp [x_cat, x_catI, x_catJ]) ?_
          exact ev_sub [1, 0] rfl (ev_X0_faultAsWhole_p72 hO hP h)
        · have z9 := x_call (M := mX0_faultAsWhole) (M' := mX0_firstInRing) (pc := 68) (st := [va_rf (some a0)]) (rest := []) (av := [va_rf (some a0)]) (x_linkV (M := mX0_faultAsWhole) (M' := mX0_firstInRing) (As := []) (index := 46) (C := RX0) (T := TX0) (xE_1 c_1) rfl wd_591 wd_592 (wG_in (List.mem_append_left _ (List.mem_of_getElem? (i := 16) rfl)) rfl) xw_X0_firstInRing rfl (by decide) rfl rfl dX0_faultAsWhole_68) (ev_X0_firstInRing hO hP h_6) xw_X0_firstInRing rfl wd_145 dX0_faultAsWhole_68 (by decide) (by decide) (by simp [x_cat, x_catI, x_catJ])
          cases h
          exact x_callX z9 (evX_out rfl)
      · rw [if_neg c_3] at h
        refine ev_icmp_ne (x := v1) (y := 1001) (tgt := 72) dX0_faultAsWhole_64 (by decide) (fun _ => ?_) (fun q9 => absurd q9 c_3)
        exact ev_sub [0, 1] rfl (ev_X0_faultAsWhole_p72 hO hP h)
    · rw [if_neg c_2] at h
      refine ev_icmp_ge (x := v2) (y := (σ.I 1 a0)) (tgt := 60) dX0_faultAsWhole_37 (by decide) (fun q9 => absurd q9 c_2) (fun _ => ?_)
      refine ev_iload_n (j := 1) (x := v1) dX0_faultAsWhole_40 rfl rfl ?_
      refine ev_aload_n (j := 0) (x := (some a0)) dX0_faultAsWhole_41 rfl rfl ?_
      refine ev_get (C := RX0) (T := TX0) (k := 0) inX0 (xE_1 c_1) rfl (by decide) wd_113 (Or.inl rfl) rfl dX0_faultAsWhole_42 ?_
      refine ev_iload_n (j := 2) (x := v2) dX0_faultAsWhole_45 rfl rfl ?_
      obtain ⟨a_8, ea_8, h⟩ := x_some_e h
      refine ev_at (st' := [.int v2, va_rf (some a_8), .int v1]) rfl (by rw [ea_8]) ?_
      obtain ⟨c_9, h⟩ := x_chk_e h
      refine ev_aald_27 c_9.1 c_9.2 dX0_faultAsWhole_46 ?_
      obtain ⟨a_10, ea_10, h⟩ := x_some_e h
      refine ev_at (st' := [va_rf (some a_10), .int v1]) rfl (by rw [ea_10]) ?_
      obtain ⟨c_14, h⟩ := x_chk_e h
      rcases x_bind_e h with ⟨v_11, σ_12, h_13, h⟩ | ⟨E_17, σ_12, h_13, h⟩
      · have z9 := x_call (M := mX0_faultAsWhole) (M' := mX5_firstMisfit) (pc := 47) (st := [va_rf (some a_10), .int v1]) (rest := [.int v1]) (av := [va_rf (some a_10)]) (x_linkV (M := mX0_faultAsWhole) (M' := mX5_firstMisfit) (As := []) (index := 36) (C := RX5) (T := TX5) (xE_6 c_14) rfl wd_595 wd_596 wd_594 xw_X5_firstMisfit rfl (by decide) rfl rfl dX0_faultAsWhole_47) (ev_X5_firstMisfit hO hP h_13) xw_X5_firstMisfit rfl wd_274 dX0_faultAsWhole_47 (by decide) (by decide) (by simp [x_cat, x_catI, x_catJ])
        refine x_callR z9 ?_
        refine ev_at (st' := [.int v_11, .int v1]) rfl rfl ?_
        refine ev_mmin (x := v1) (y := v_11) (index := 40) wd_597 wd_566 wd_567 wd_568 dX0_faultAsWhole_50 (by decide) (by decide) ?_
        obtain ⟨v_15, ev_15, h⟩ := x_let_e h
        rw [← ev_15]
        refine ev_istore_n (i := 1) (lv' := [(1, .int v_15), (0, va_rf (some a0)), (2, .int v2)]) dX0_faultAsWhole_53 rfl (by decide) (by simp [x_cat, x_catI, x_catJ]) ?_
        obtain ⟨v_16, ev_16, h⟩ := x_let_e h
        refine ev_iinc (j := 2) (x := v2) (v := v_16) (lv' := [(2, .int v_16), (1, .int v_15), (0, va_rf (some a0))]) dX0_faultAsWhole_54 rfl (by rw [ev_16]; rfl) (by decide) rfl ?_
        refine ev_goto (tgt := 32) dX0_faultAsWhole_57 (by decide) ?_
        exact ev_sub [2, 1, 0] rfl (ih h)
      · have z9 := x_call (M := mX0_faultAsWhole) (M' := mX5_firstMisfit) (pc := 47) (st := [va_rf (some a_10), .int v1]) (rest := [.int v1]) (av := [va_rf (some a_10)]) (x_linkV (M := mX0_faultAsWhole) (M' := mX5_firstMisfit) (As := []) (index := 36) (C := RX5) (T := TX5) (xE_6 c_14) rfl wd_595 wd_596 wd_594 xw_X5_firstMisfit rfl (by decide) rfl rfl dX0_faultAsWhole_47) (ev_X5_firstMisfit hO hP h_13) xw_X5_firstMisfit rfl wd_274 dX0_faultAsWhole_47 (by decide) (by decide) (by simp [x_cat, x_catI, x_catJ])
        cases h
        exact x_callX z9 (evX_out rfl)
set_option maxHeartbeats 4000000 in
set_option maxRecDepth 100000 in
theorem ev_X0_faultAsWhole_L2 {l : Launch} {G : xG} (hO : x_OK l G) {P : xP} (hP : x_PG P G) {a0 : Nat} : ∀ (n : Nat) {v1 : Int32} {σ σ' : xS} {rr : Int32 ⊕ String}, dm_X0_faultAsWhole_L2 P a0 n v1 σ = some (rr, σ') → Ev l G mX0_faultAsWhole 2 [(0, va_rf (some a0)), (1, .int v1)] [] σ (xrI rr) σ' := by
  intro n
  induction n with
  | zero => intro v1 σ σ' rr h; cases h
  | succ n ih =>
    intro v1 σ σ' rr h
    rw [dm_X0_faultAsWhole_L2] at h
    refine ev_iload_n (j := 1) (x := v1) dX0_faultAsWhole_2 rfl rfl ?_
    refine ev_aload_n (j := 0) (x := (some a0)) dX0_faultAsWhole_3 rfl rfl ?_
    obtain ⟨c_1, h⟩ := x_chk_e h
    refine ev_get (C := RX0) (T := TX0) (k := 1) inX0 (xE_1 c_1) rfl (by decide) wd_114 (Or.inl rfl) rfl dX0_faultAsWhole_4 ?_
    by_cases c_2 : (σ.I 1 a0) ≤ v1
    · rw [if_pos c_2] at h
      refine ev_icmp_ge (x := v1) (y := (σ.I 1 a0)) (tgt := 26) dX0_faultAsWhole_7 (by decide) (fun _ => ?_) (fun q9 => absurd c_2 q9)
      refine ev_sipush (v := 1001) dX0_faultAsWhole_26 (by decide) ?_
      refine ev_istore_n (i := 1) (lv' := [(1, .int 1001), (0, va_rf (some a0))]) dX0_faultAsWhole_29 rfl (by decide) (by simp [x_cat, x_catI, x_catJ]) ?_
      refine ev_iconst (v := 0) dX0_faultAsWhole_30 (by decide) ?_
      refine ev_istore_n (i := 2) (lv' := [(2, .int 0), (1, .int 1001), (0, va_rf (some a0))]) dX0_faultAsWhole_31 rfl (by decide) rfl ?_
      exact ev_sub [2, 1, 0] rfl (ev_X0_faultAsWhole_L32 hO hP P.N h)
    · rw [if_neg c_2] at h
      refine ev_icmp_ge (x := v1) (y := (σ.I 1 a0)) (tgt := 26) dX0_faultAsWhole_7 (by decide) (fun q9 => absurd q9 c_2) (fun _ => ?_)
      refine ev_aload_n (j := 0) (x := (some a0)) dX0_faultAsWhole_10 rfl rfl ?_
      refine ev_aload_n (j := 0) (x := (some a0)) dX0_faultAsWhole_11 rfl rfl ?_
      refine ev_get (C := RX0) (T := TX0) (k := 0) inX0 (xE_1 c_1) rfl (by decide) wd_113 (Or.inl rfl) rfl dX0_faultAsWhole_12 ?_
      refine ev_iload_n (j := 1) (x := v1) dX0_faultAsWhole_15 rfl rfl ?_
      obtain ⟨a_3, ea_3, h⟩ := x_some_e h
      refine ev_at (st' := [.int v1, va_rf (some a_3), va_rf (some a0)]) rfl (by rw [ea_3]) ?_
      obtain ⟨c_4, h⟩ := x_chk_e h
      refine ev_aald_27 c_4.1 c_4.2 dX0_faultAsWhole_16 ?_
      rcases x_bind_e h with ⟨v_5, σ_6, h_7, h⟩ | ⟨E_9, σ_6, h_7, h⟩
      · have z9 := x_call (M := mX0_faultAsWhole) (M' := mX0_nameKinds) (pc := 17) (st := [va_rf (σ.AR a_3 (Int32.toNatClampNeg v1)), va_rf (some a0)]) (rest := []) (av := [va_rf (some a0), va_rf (σ.AR a_3 (Int32.toNatClampNeg v1))]) (x_linkV (M := mX0_faultAsWhole) (M' := mX0_nameKinds) (As := [va_rf (σ.AR a_3 (Int32.toNatClampNeg v1))]) (index := 32) (C := RX0) (T := TX0) (xE_1 c_1) rfl wd_588 wd_589 (wG_in (List.mem_append_left _ (List.mem_of_getElem? (i := 15) rfl)) rfl) xw_X0_nameKinds rfl (by decide) rfl rfl dX0_faultAsWhole_17) (ev_X0_nameKinds hO hP h_7) xw_X0_nameKinds rfl wd_145 dX0_faultAsWhole_17 (by decide) (by decide) (by simp [x_cat, x_catI, x_catJ])
        refine x_callR z9 ?_
        refine ev_at (st' := []) rfl rfl ?_
        obtain ⟨v_8, ev_8, h⟩ := x_let_e h
        refine ev_iinc (j := 1) (x := v1) (v := v_8) (lv' := [(1, .int v_8), (0, va_rf (some a0))]) dX0_faultAsWhole_20 rfl (by rw [ev_8]; rfl) (by decide) (by simp [x_cat, x_catI, x_catJ]) ?_
        refine ev_goto (tgt := 2) dX0_faultAsWhole_23 (by decide) ?_
        exact ev_sub [1, 0] rfl (ih h)
      · have z9 := x_call (M := mX0_faultAsWhole) (M' := mX0_nameKinds) (pc := 17) (st := [va_rf (σ.AR a_3 (Int32.toNatClampNeg v1)), va_rf (some a0)]) (rest := []) (av := [va_rf (some a0), va_rf (σ.AR a_3 (Int32.toNatClampNeg v1))]) (x_linkV (M := mX0_faultAsWhole) (M' := mX0_nameKinds) (As := [va_rf (σ.AR a_3 (Int32.toNatClampNeg v1))]) (index := 32) (C := RX0) (T := TX0) (xE_1 c_1) rfl wd_588 wd_589 (wG_in (List.mem_append_left _ (List.mem_of_getElem? (i := 15) rfl)) rfl) xw_X0_nameKinds rfl (by decide) rfl rfl dX0_faultAsWhole_17) (ev_X0_nameKinds hO hP h_7) xw_X0_nameKinds rfl wd_145 dX0_faultAsWhole_17 (by decide) (by decide) (by simp [x_cat, x_catI, x_catJ])
        cases h
        exact x_callX z9 (evX_out rfl)
set_option maxHeartbeats 4000000 in
set_option maxRecDepth 100000 in
theorem ev_X0_faultAsWhole {l : Launch} {G : xG} (hO : x_OK l G) {P : xP} (hP : x_PG P G) {a0 : Nat} {σ σ' : xS} {rr : Int32 ⊕ String} (h : dm_X0_faultAsWhole P a0 σ = some (rr, σ')) : EvM l G mX0_faultAsWhole [va_rf (some a0)] σ (xrI rr) σ' := by
  unfold dm_X0_faultAsWhole at h
  refine evM_of hO (by decide +kernel) (x_lenI (by simp [x_cat, x_catI, x_catJ, mX0_faultAsWhole, xM.maxL])) ?_
  refine Eq.mp (congrArg (fun z => Ev l G mX0_faultAsWhole 0 z [] σ (xrI rr) σ') (show [(0, va_rf (some a0))] = lv_args 0 [va_rf (some a0)] by simp [lv_args, x_cat, x_catI, x_catJ])) ?_
  refine ev_iconst (v := 0) dX0_faultAsWhole_0 (by decide) ?_
  refine ev_istore_n (i := 1) (lv' := [(1, .int 0), (0, va_rf (some a0))]) dX0_faultAsWhole_1 rfl (by decide) (by simp [x_cat, x_catI, x_catJ]) ?_
  exact ev_sub [1, 0] rfl (ev_X0_faultAsWhole_L2 hO hP P.N h)
set_option maxHeartbeats 4000000 in
set_option maxRecDepth 100000 in
theorem ev_X8_faultOf_p36 {l : Launch} {G : xG} (hO : x_OK l G) {P : xP} (hP : x_PG P G) {a0 : Nat} {k12 : Option Nat → Int32 → xS → xO Int32} (hk12 : ∀ {v1 : Option Nat} {v2 : Int32} {σ σ' : xS} {rr : Int32 ⊕ String}, k12 v1 v2 σ = some (rr, σ') → Ev l G mX8_faultOf 12 [(0, va_rf (some a0)), (1, va_rf v1), (2, .int v2)] [] σ (xrI rr) σ') {v1 : Option Nat} {v2 : Int32} {σ σ' : xS} {rr : Int32 ⊕ String} (h : dm_X8_faultOf_p36 P k12 a0 v1 v2 σ = some (rr, σ')) : Ev l G mX8_faultOf 36 [(0, va_rf (some a0)), (1, va_rf v1), (2, .int v2)] [] σ (xrI rr) σ' := by
  unfold dm_X8_faultOf_p36 at h
  refine ev_aload_n (j := 0) (x := (some a0)) dX8_faultOf_36 rfl rfl ?_
  obtain ⟨c_4, h⟩ := x_chk_e h
  rcases x_bind_e h with ⟨v_1, σ_2, h_3, h⟩ | ⟨E_6, σ_2, h_3, h⟩
  · have z9 : xCall l G mX8_faultOf 37 [va_rf (some a0)] [] σ (xrV (.inl ())) σ_2 := by
      rcases c_4 with w9 | w9
      · rw [if_pos (by rw [w9])] at h_3
        exact x_call (M := mX8_faultOf) (M' := mX3_readPiece) (pc := 37) (st := [va_rf (some a0)]) (rest := []) (av := [va_rf (some a0)]) (x_linkU (M := mX8_faultOf) (M' := mX3_readPiece) (As := []) (index := 29) (C := RX3) (T := TX3) (owner := "NetlistForms$Reader") (x := ⟨"NetlistForms$Reader", "readPiece", "()V"⟩) (xE_4 w9) rfl wd_613 wd_614 (Or.inl wd_612) wd_615 wd_616 xw_X3_readPiece rfl (by decide) rfl rfl dX8_faultOf_37) (ev_X3_readPiece hO hP h_3) xw_X3_readPiece rfl wd_124 dX8_faultOf_37 (by decide) (by decide) (by simp [x_cat, x_catI, x_catJ])
      · rw [if_neg (by rw [w9]; decide)] at h_3
        exact x_call (M := mX8_faultOf) (M' := mX9_readPiece) (pc := 37) (st := [va_rf (some a0)]) (rest := []) (av := [va_rf (some a0)]) (x_linkU (M := mX8_faultOf) (M' := mX9_readPiece) (As := []) (index := 29) (C := RX9) (T := TX9) (owner := "NetlistForms$Reader") (x := ⟨"NetlistForms$Reader", "readPiece", "()V"⟩) (xE_9 w9) rfl wd_613 wd_614 (Or.inl wd_612) wd_618 wd_619 xw_X9_readPiece rfl (by decide) rfl rfl dX8_faultOf_37) (ev_X9_readPiece hO hP h_3) xw_X9_readPiece rfl wd_131 dX8_faultOf_37 (by decide) (by decide) (by simp [x_cat, x_catI, x_catJ])
    refine x_callR z9 ?_
    refine ev_at (st' := []) rfl rfl ?_
    obtain ⟨v_5, ev_5, h⟩ := x_let_e h
    refine ev_iinc (j := 2) (x := v2) (v := v_5) (lv' := [(2, .int v_5), (0, va_rf (some a0)), (1, va_rf v1)]) dX8_faultOf_40 rfl (by rw [ev_5]; rfl) (by decide) (by simp [x_cat, x_catI, x_catJ]) ?_
    refine ev_goto (tgt := 12) dX8_faultOf_43 (by decide) ?_
    exact ev_sub [1, 2, 0] rfl (hk12 h)
  · have z9 : xCall l G mX8_faultOf 37 [va_rf (some a0)] [] σ (xrV (.inr E_6)) σ_2 := by
      rcases c_4 with w9 | w9
      · rw [if_pos (by rw [w9])] at h_3
        exact x_call (M := mX8_faultOf) (M' := mX3_readPiece) (pc := 37) (st := [va_rf (some a0)]) (rest := []) (av := [va_rf (some a0)]) (x_linkU (M := mX8_faultOf) (M' := mX3_readPiece) (As := []) (index := 29) (C := RX3) (T := TX3) (owner := "NetlistForms$Reader") (x := ⟨"NetlistForms$Reader", "readPiece", "()V"⟩) (xE_4 w9) rfl wd_613 wd_614 (Or.inl wd_612) wd_615 wd_616 xw_X3_readPiece rfl (by decide) rfl rfl dX8_faultOf_37) (ev_X3_readPiece hO hP h_3) xw_X3_readPiece rfl wd_124 dX8_faultOf_37 (by decide) (by decide) (by simp [x_cat, x_catI, x_catJ])
      · rw [if_neg (by rw [w9]; decide)] at h_3
        exact x_call (M := mX8_faultOf) (M' := mX9_readPiece) (pc := 37) (st := [va_rf (some a0)]) (rest := []) (av := [va_rf (some a0)]) (x_linkU (M := mX8_faultOf) (M' := mX9_readPiece) (As := []) (index := 29) (C := RX9) (T := TX9) (owner := "NetlistForms$Reader") (x := ⟨"NetlistForms$Reader", "readPiece", "()V"⟩) (xE_9 w9) rfl wd_613 wd_614 (Or.inl wd_612) wd_618 wd_619 xw_X9_readPiece rfl (by decide) rfl rfl dX8_faultOf_37) (ev_X9_readPiece hO hP h_3) xw_X9_readPiece rfl wd_131 dX8_faultOf_37 (by decide) (by decide) (by simp [x_cat, x_catI, x_catJ])
    obtain ⟨c_15, h9⟩ := x_chk_e h
    clear h
    subst c_15
    have h := h9
    clear h9
    refine x_callX z9 (evX_catch (name := "java/lang/IllegalStateException") (x := (10, 46, 49, 32)) (xs := []) rfl (by decide) (by decide) wd_605 wd_606 (fun q_7 => ?_))
    refine ev_astore_n (i := 2) (lv' := [(2, va_rf (some q_7)), (0, va_rf (some a0)), (1, va_rf v1)]) dX8_faultOf_49 rfl (by decide) (by simp [x_cat, x_catI, x_catJ]) ?_
    refine ev_aload_n (j := 1) (x := (some a0)) dX8_faultOf_50 rfl rfl ?_
    obtain ⟨c_8, h⟩ := x_chk_e h
    refine x_via (A := Ev l G mX8_faultOf 54 [(2, va_rf (some q_7)), (0, va_rf (some a0)), (1, va_rf v1)] [va_rf (σ_2.R 300 a0)] σ_2 (xrI rr) σ') (fun z9 => ?_) ?_
    · rcases c_8 with w9 | w9
      · exact ev_get (C := RX3) (T := TX3) (k := 0) inX3 (xE_4 w9) rfl (by decide) wd_100 (Or.inl rfl) rfl dX8_faultOf_51 z9
      · exact ev_get (C := RX9) (T := TX9) (k := 0) inX9 (xE_9 w9) rfl (by decide) wd_100 (Or.inl rfl) rfl dX8_faultOf_51 z9
    obtain ⟨a_9, ea_9, h⟩ := x_some_e h
    refine ev_at (st' := [va_rf (some a_9)]) rfl (by rw [ea_9]) ?_
    obtain ⟨c_13, h⟩ := x_chk_e h
    rcases x_bind_e h with ⟨v_10, σ_11, h_12, h⟩ | ⟨E_14, σ_11, h_12, h⟩
    · have z9 := x_call (M := mX8_faultOf) (M' := mX10_place) (pc := 54) (st := [va_rf (some a_9)]) (rest := []) (av := [va_rf (some a_9)]) (x_linkV (M := mX8_faultOf) (M' := mX10_place) (As := []) (index := 34) (C := RX10) (T := TX10) (xE_10 c_13) rfl wd_289 wd_290 wd_288 xw_X10_place rfl (by decide) rfl rfl dX8_faultOf_54) (ev_X10_place hO hP h_12) xw_X10_place rfl wd_118 dX8_faultOf_54 (by decide) (by decide) (by simp [x_cat, x_catI, x_catJ])
      refine x_callR z9 ?_
      refine ev_at (st' := [.int v_10]) rfl rfl ?_
      cases h
      exact ev_iret rfl rfl dX8_faultOf_57
    · have z9 := x_call (M := mX8_faultOf) (M' := mX10_place) (pc := 54) (st := [va_rf (some a_9)]) (rest := []) (av := [va_rf (some a_9)]) (x_linkV (M := mX8_faultOf) (M' := mX10_place) (As := []) (index := 34) (C := RX10) (T := TX10) (xE_10 c_13) rfl wd_289 wd_290 wd_288 xw_X10_place rfl (by decide) rfl rfl dX8_faultOf_54) (ev_X10_place hO hP h_12) xw_X10_place rfl wd_118 dX8_faultOf_54 (by decide) (by decide) (by simp [x_cat, x_catI, x_catJ])
      cases h
      exact x_callX z9 (evX_out rfl)
set_option maxHeartbeats 4000000 in
set_option maxRecDepth 100000 in
theorem ev_X8_faultOf_p46 {l : Launch} {G : xG} (hO : x_OK l G) {P : xP} (hP : x_PG P G) {a0 : Nat} {v1 : Option Nat} {σ σ' : xS} {rr : Int32 ⊕ String} (h : dm_X8_faultOf_p46 P a0 v1 σ = some (rr, σ')) : Ev l G mX8_faultOf 46 [(1, va_rf v1)] [] σ (xrI rr) σ' := by
  unfold dm_X8_faultOf_p46 at h
  refine ev_goto (tgt := 58) dX8_faultOf_46 (by decide) ?_
  refine ev_aload_n (j := 0) (x := v1) dX8_faultOf_58 rfl rfl ?_
  obtain ⟨a_1, ea_1, h⟩ := x_some_e h
  refine ev_at (st' := [va_rf (some a_1)]) rfl (by rw [ea_1]) ?_
  obtain ⟨c_5, h⟩ := x_chk_e h
  rcases x_bind_e h with ⟨v_2, σ_3, h_4, h⟩ | ⟨E_6, σ_3, h_4, h⟩
  · have z9 := x_call (M := mX8_faultOf) (M' := mX0_faultAsWhole) (pc := 59) (st := [va_rf (some a_1)]) (rest := []) (av := [va_rf (some a_1)]) (x_linkV (M := mX8_faultOf) (M' := mX0_faultAsWhole) (As := []) (index := 38) (C := RX0) (T := TX0) (xE_1 c_5) rfl wd_609 wd_610 wd_608 xw_X0_faultAsWhole rfl (by decide) rfl rfl dX8_faultOf_59) (ev_X0_faultAsWhole hO hP h_4) xw_X0_faultAsWhole rfl wd_145 dX8_faultOf_59 (by decide) (by decide) (by simp [x_cat, x_catI, x_catJ])
    refine x_callR z9 ?_
    refine ev_at (st' := [.int v_2]) rfl rfl ?_
    cases h
    exact ev_iret rfl rfl dX8_faultOf_62
  · have z9 := x_call (M := mX8_faultOf) (M' := mX0_faultAsWhole) (pc := 59) (st := [va_rf (some a_1)]) (rest := []) (av := [va_rf (some a_1)]) (x_linkV (M := mX8_faultOf) (M' := mX0_faultAsWhole) (As := []) (index := 38) (C := RX0) (T := TX0) (xE_1 c_5) rfl wd_609 wd_610 wd_608 xw_X0_faultAsWhole rfl (by decide) rfl rfl dX8_faultOf_59) (ev_X0_faultAsWhole hO hP h_4) xw_X0_faultAsWhole rfl wd_145 dX8_faultOf_59 (by decide) (by decide) (by simp [x_cat, x_catI, x_catJ])
    cases h
    exact x_callX z9 (evX_out rfl)
set_option maxHeartbeats 4000000 in
set_option maxRecDepth 100000 in
theorem ev_X8_faultOf_L12 {l : Launch} {G : xG} (hO : x_OK l G) {P : xP} (hP : x_PG P G) {a0 : Nat} : ∀ (n : Nat) {v1 : Option Nat} {v2 : Int32} {σ σ' : xS} {rr : Int32 ⊕ String}, dm_X8_faultOf_L12 P a0 n v1 v2 σ = some (rr, σ') → Ev l G mX8_faultOf 12 [(0, va_rf (some a0)), (1, va_rf v1), (2, .int v2)] [] σ (xrI rr) σ' := by
  intro n
  induction n with
  | zero => intro v1 v2 σ σ' rr h; cases h
  | succ n ih =>
    intro v1 v2 σ σ' rr h
    rw [dm_X8_faultOf_L12] at h
    refine ev_iload_n (j := 2) (x := v2) dX8_faultOf_12 rfl rfl ?_
    refine ev_sipush (v := 1000) dX8_faultOf_13 (by decide) ?_
    by_cases c_1 : 1000 < v2
    · rw [if_pos c_1] at h
      refine ev_icmp_gt (x := v2) (y := 1000) (tgt := 46) dX8_faultOf_16 (by decide) (fun _ => ?_) (fun q9 => absurd c_1 q9)
      exact ev_sub [1] rfl (ev_X8_faultOf_p46 hO hP h)
    · rw [if_neg c_1] at h
      refine ev_icmp_gt (x := v2) (y := 1000) (tgt := 46) dX8_faultOf_16 (by decide) (fun q9 => absurd q9 c_1) (fun _ => ?_)
      refine ev_aload_n (j := 0) (x := (some a0)) dX8_faultOf_19 rfl rfl ?_
      obtain ⟨c_2, h⟩ := x_chk_e h
      refine x_via (A := Ev l G mX8_faultOf 23 [(0, va_rf (some a0)), (1, va_rf v1), (2, .int v2)] [va_rf (σ.R 302 a0)] σ (xrI rr) σ') (fun z9 => ?_) ?_
      · rcases c_2 with w9 | w9
        · exact ev_get (C := RX3) (T := TX3) (k := 2) inX3 (xE_4 w9) rfl (by decide) wd_99 (Or.inl rfl) rfl dX8_faultOf_20 z9
        · exact ev_get (C := RX9) (T := TX9) (k := 2) inX9 (xE_9 w9) rfl (by decide) wd_99 (Or.inl rfl) rfl dX8_faultOf_20 z9
      by_cases c_3 : (σ.R 302 a0) = none
      · rw [if_pos c_3] at h
        refine ev_ifnonnull (x := (σ.R 302 a0)) (tgt := 36) dX8_faultOf_23 (by decide) (fun q9 => absurd c_3 q9) (fun _ => ?_)
        refine ev_aload_n (j := 0) (x := (some a0)) dX8_faultOf_26 rfl rfl ?_
        refine x_via (A := Ev l G mX8_faultOf 30 [(0, va_rf (some a0)), (1, va_rf v1), (2, .int v2)] [va_rf (σ.R 300 a0)] σ (xrI rr) σ') (fun z9 => ?_) ?_
        · rcases c_2 with w9 | w9
          · exact ev_get (C := RX3) (T := TX3) (k := 0) inX3 (xE_4 w9) rfl (by decide) wd_100 (Or.inl rfl) rfl dX8_faultOf_27 z9
          · exact ev_get (C := RX9) (T := TX9) (k := 0) inX9 (xE_9 w9) rfl (by decide) wd_100 (Or.inl rfl) rfl dX8_faultOf_27 z9
        obtain ⟨a_4, ea_4, h⟩ := x_some_e h
        refine ev_at (st' := [va_rf (some a_4)]) rfl (by rw [ea_4]) ?_
        obtain ⟨c_8, h⟩ := x_chk_e h
        rcases x_bind_e h with ⟨v_5, σ_6, h_7, h⟩ | ⟨E_10, σ_6, h_7, h⟩
        · have z9 := x_call (M := mX8_faultOf) (M' := mX10_isAtEnd) (pc := 30) (st := [va_rf (some a_4)]) (rest := []) (av := [va_rf (some a_4)]) (x_linkV (M := mX8_faultOf) (M' := mX10_isAtEnd) (As := []) (index := 23) (C := RX10) (T := TX10) (xE_10 c_8) rfl wd_603 wd_604 wd_602 xw_X10_isAtEnd rfl (by decide) rfl rfl dX8_faultOf_30) (ev_X10_isAtEnd hO hP h_7) xw_X10_isAtEnd rfl wd_118 dX8_faultOf_30 (by decide) (by decide) (by simp [x_cat, x_catI, x_catJ])
          refine x_callR z9 ?_
          refine ev_at (st' := [.int v_5]) rfl rfl ?_
          by_cases c_9 : v_5 = 0
          · rw [if_pos c_9] at h
            refine ev_if_ne (x := v_5) (tgt := 46) dX8_faultOf_33 (by decide) (fun q9 => absurd c_9 q9) (fun _ => ?_)
            exact ev_sub [0, 1, 2] rfl (ev_X8_faultOf_p36 hO hP ih h)
          · rw [if_neg c_9] at h
            refine ev_if_ne (x := v_5) (tgt := 46) dX8_faultOf_33 (by decide) (fun _ => ?_) (fun q9 => absurd q9 c_9)
            exact ev_sub [1] rfl (ev_X8_faultOf_p46 hO hP h)
        · have z9 := x_call (M := mX8_faultOf) (M' := mX10_isAtEnd) (pc := 30) (st := [va_rf (some a_4)]) (rest := []) (av := [va_rf (some a_4)]) (x_linkV (M := mX8_faultOf) (M' := mX10_isAtEnd) (As := []) (index := 23) (C := RX10) (T := TX10) (xE_10 c_8) rfl wd_603 wd_604 wd_602 xw_X10_isAtEnd rfl (by decide) rfl rfl dX8_faultOf_30) (ev_X10_isAtEnd hO hP h_7) xw_X10_isAtEnd rfl wd_118 dX8_faultOf_30 (by decide) (by decide) (by simp [x_cat, x_catI, x_catJ])
          obtain ⟨c_19, h9⟩ := x_chk_e h
          clear h
          subst c_19
          have h := h9
          clear h9
          refine x_callX z9 (evX_catch (name := "java/lang/IllegalStateException") (x := (10, 46, 49, 32)) (xs := []) rfl (by decide) (by decide) wd_605 wd_606 (fun q_11 => ?_))
          refine ev_astore_n (i := 2) (lv' := [(2, va_rf (some q_11)), (0, va_rf (some a0)), (1, va_rf v1)]) dX8_faultOf_49 rfl (by decide) (by simp [x_cat, x_catI, x_catJ]) ?_
          refine ev_aload_n (j := 1) (x := (some a0)) dX8_faultOf_50 rfl rfl ?_
          obtain ⟨c_12, h⟩ := x_chk_e h
          refine x_via (A := Ev l G mX8_faultOf 54 [(2, va_rf (some q_11)), (0, va_rf (some a0)), (1, va_rf v1)] [va_rf (σ_6.R 300 a0)] σ_6 (xrI rr) σ') (fun z9 => ?_) ?_
          · rcases c_12 with w9 | w9
            · exact ev_get (C := RX3) (T := TX3) (k := 0) inX3 (xE_4 w9) rfl (by decide) wd_100 (Or.inl rfl) rfl dX8_faultOf_51 z9
            · exact ev_get (C := RX9) (T := TX9) (k := 0) inX9 (xE_9 w9) rfl (by decide) wd_100 (Or.inl rfl) rfl dX8_faultOf_51 z9
          obtain ⟨a_13, ea_13, h⟩ := x_some_e h
          refine ev_at (st' := [va_rf (some a_13)]) rfl (by rw [ea_13]) ?_
          obtain ⟨c_17, h⟩ := x_chk_e h
          rcases x_bind_e h with ⟨v_14, σ_15, h_16, h⟩ | ⟨E_18, σ_15, h_16, h⟩
          · have z9 := x_call (M := mX8_faultOf) (M' := mX10_place) (pc := 54) (st := [va_rf (some a_13)]) (rest := []) (av := [va_rf (some a_13)]) (x_linkV (M := mX8_faultOf) (M' := mX10_place) (As := []) (index := 34) (C := RX10) (T := TX10) (xE_10 c_17) rfl wd_289 wd_290 wd_288 xw_X10_place rfl (by decide) rfl rfl dX8_faultOf_54) (ev_X10_place hO hP h_16) xw_X10_place rfl wd_118 dX8_faultOf_54 (by decide) (by decide) (by simp [x_cat, x_catI, x_catJ])
            refine x_callR z9 ?_
            refine ev_at (st' := [.int v_14]) rfl rfl ?_
            cases h
            exact ev_iret rfl rfl dX8_faultOf_57
          · have z9 := x_call (M := mX8_faultOf) (M' := mX10_place) (pc := 54) (st := [va_rf (some a_13)]) (rest := []) (av := [va_rf (some a_13)]) (x_linkV (M := mX8_faultOf) (M' := mX10_place) (As := []) (index := 34) (C := RX10) (T := TX10) (xE_10 c_17) rfl wd_289 wd_290 wd_288 xw_X10_place rfl (by decide) rfl rfl dX8_faultOf_54) (ev_X10_place hO hP h_16) xw_X10_place rfl wd_118 dX8_faultOf_54 (by decide) (by decide) (by simp [x_cat, x_catI, x_catJ])
            cases h
            exact x_callX z9 (evX_out rfl)
      · rw [if_neg c_3] at h
        refine ev_ifnonnull (x := (σ.R 302 a0)) (tgt := 36) dX8_faultOf_23 (by decide) (fun _ => ?_) (fun q9 => absurd q9 c_3)
        exact ev_sub [0, 1, 2] rfl (ev_X8_faultOf_p36 hO hP ih h)
set_option maxHeartbeats 4000000 in
set_option maxRecDepth 100000 in
theorem ev_X8_faultOf {l : Launch} {G : xG} (hO : x_OK l G) {P : xP} (hP : x_PG P G) {a0 : Nat} {v1 : Option Nat} {σ σ' : xS} {rr : Int32 ⊕ String} (h : dm_X8_faultOf P a0 v1 σ = some (rr, σ')) : EvM l G mX8_faultOf [va_rf (some a0), va_rf v1] σ (xrI rr) σ' := by
  unfold dm_X8_faultOf at h
  refine evM_of hO (by decide +kernel) (x_lenI (by simp [x_cat, x_catI, x_catJ, mX8_faultOf, xM.maxL])) ?_
  refine Eq.mp (congrArg (fun z => Ev l G mX8_faultOf 0 z [] σ (xrI rr) σ') (show [(0, va_rf (some a0)), (1, va_rf v1)] = lv_args 0 [va_rf (some a0), va_rf v1] by simp [lv_args, x_cat, x_catI, x_catJ])) ?_
  refine ev_aload_n (j := 0) (x := (some a0)) dX8_faultOf_0 rfl rfl ?_
  refine ev_aload_n (j := 1) (x := v1) dX8_faultOf_1 rfl rfl ?_
  obtain ⟨c_1, h⟩ := x_chk_e h
  obtain ⟨σ_2, eσ_2, h⟩ := x_let_e h
  refine x_via (A := Ev l G mX8_faultOf 5 [(0, va_rf (some a0)), (1, va_rf v1)] [] σ_2 (xrI rr) σ') (fun z9 => ?_) ?_
  · rcases c_1.1 with w9 | w9
    · exact ev_put (σ2 := σ_2) (C := RX3) (T := TX3) (k := 1) inX3 tyX3 tyX3_ok nmX3 (xE_4 w9) rfl (by decide) wd_98 (Or.inl rfl) rfl rfl (x_refN _) (x_refF _) (Nat.le_of_ble_eq_true rfl) (hP.2.2.2.1 ▸ c_1.2) (by rw [eσ_2]; exact xP_4_1 _ w9) (by rw [eσ_2]; exact xPut_R) dX8_faultOf_2 z9
    · exact ev_put (σ2 := σ_2) (C := RX9) (T := TX9) (k := 1) inX9 tyX9 tyX9_ok nmX9 (xE_9 w9) rfl (by decide) wd_98 (Or.inl rfl) rfl rfl (x_refN _) (x_refF _) (Nat.le_of_ble_eq_true rfl) (hP.2.2.2.1 ▸ c_1.2) (by rw [eσ_2]; exact xP_9_1 _ w9) (by rw [eσ_2]; exact xPut_R) dX8_faultOf_2 z9
  refine ev_aload_n (j := 0) (x := (some a0)) dX8_faultOf_5 rfl rfl ?_
  refine ev_null dX8_faultOf_6 ?_
  obtain ⟨c_3, h⟩ := x_chk_e h
  obtain ⟨σ_4, eσ_4, h⟩ := x_let_e h
  refine x_via (A := Ev l G mX8_faultOf 10 [(0, va_rf (some a0)), (1, va_rf v1)] [] σ_4 (xrI rr) σ') (fun z9 => ?_) ?_
  · rcases c_3.1 with w9 | w9
    · exact ev_put (σ2 := σ_4) (C := RX3) (T := TX3) (k := 2) inX3 tyX3 tyX3_ok nmX3 (xE_4 w9) rfl (by decide) wd_99 (Or.inl rfl) rfl rfl (x_refN _) (x_refF _) (Nat.le_of_ble_eq_true rfl) (hP.2.2.2.1 ▸ c_3.2) (by rw [eσ_4]; exact xP_4_2 _ w9) (by rw [eσ_4]; exact xPut_R) dX8_faultOf_7 z9
    · exact ev_put (σ2 := σ_4) (C := RX9) (T := TX9) (k := 2) inX9 tyX9 tyX9_ok nmX9 (xE_9 w9) rfl (by decide) wd_99 (Or.inl rfl) rfl rfl (x_refN _) (x_refF _) (Nat.le_of_ble_eq_true rfl) (hP.2.2.2.1 ▸ c_3.2) (by rw [eσ_4]; exact xP_9_2 _ w9) (by rw [eσ_4]; exact xPut_R) dX8_faultOf_7 z9
  refine ev_iconst (v := 0) dX8_faultOf_10 (by decide) ?_
  refine ev_istore_n (i := 2) (lv' := [(2, .int 0), (0, va_rf (some a0)), (1, va_rf v1)]) dX8_faultOf_11 rfl (by decide) (by simp [x_cat, x_catI, x_catJ]) ?_
  exact ev_sub [1, 2, 0] rfl (ev_X8_faultOf_L12 hO hP P.N h)
set_option maxHeartbeats 4000000 in
set_option maxRecDepth 100000 in
theorem ev_X10_clear {l : Launch} {G : xG} (hO : x_OK l G) {P : xP} (hP : x_PG P G) {a0 : Nat} {σ σ' : xS} {rr : Unit ⊕ String} (h : dm_X10_clear P a0 σ = some (rr, σ')) : EvM l G mX10_clear [va_rf (some a0)] σ (xrV rr) σ' := by
  unfold dm_X10_clear at h
  refine evM_of hO (by decide +kernel) (x_lenI (by simp [x_cat, x_catI, x_catJ, mX10_clear, xM.maxL])) ?_
  refine Eq.mp (congrArg (fun z => Ev l G mX10_clear 0 z [] σ (xrV rr) σ') (show [(0, va_rf (some a0))] = lv_args 0 [va_rf (some a0)] by simp [lv_args, x_cat, x_catI, x_catJ])) ?_
  refine ev_aload_n (j := 0) (x := (some a0)) dX10_clear_0 rfl rfl ?_
  refine ev_iconst (v := 0) dX10_clear_1 (by decide) ?_
  obtain ⟨c_1, h⟩ := x_chk_e h
  obtain ⟨σ_2, eσ_2, h⟩ := x_let_e h
  refine ev_put (σ2 := σ_2) (C := RX10) (T := TX10) (k := 1) inX10 tyX10 tyX10_ok nmX10 (xE_10 c_1.1) rfl (by decide) wd_89 (Or.inl rfl) rfl rfl rfl rfl (Nat.le_of_ble_eq_true rfl) (hP.2.2.2.1 ▸ c_1.2) (by rw [eσ_2]; exact xP_10_1 _ c_1.1) (by rw [eσ_2]; exact xPut_I) dX10_clear_2 ?_
  cases h
  exact ev_vret rfl dX10_clear_5
set_option maxHeartbeats 4000000 in
set_option maxRecDepth 100000 in
theorem ev_X11_read_p40 {l : Launch} {G : xG} (hO : x_OK l G) {P : xP} (hP : x_PG P G) {a0 : Nat} {v2 : Option Nat} {s0 : Option Nat} {σ σ' : xS} {rr : Int32 ⊕ String} (h : dm_X11_read_p40 P a0 v2 s0 σ = some (rr, σ')) : Ev l G mX11_read 40 [(0, va_rf (some a0)), (2, va_rf v2)] [va_rf s0] σ (xrI rr) σ' := by
  unfold dm_X11_read_p40 at h
  refine ev_astore_n (i := 3) (lv' := [(3, va_rf s0), (0, va_rf (some a0)), (2, va_rf v2)]) dX11_read_40 rfl (by decide) (by simp [x_cat, x_catI, x_catJ]) ?_
  refine ev_aload_n (j := 1) (x := (some a0)) dX11_read_41 rfl rfl ?_
  obtain ⟨c_1, h⟩ := x_chk_e h
  refine ev_get (C := RX11) (T := TX11) (k := 0) inX11 (xE_11 c_1) rfl (by decide) wd_33 (Or.inl rfl) rfl dX11_read_42 ?_
  obtain ⟨a_2, ea_2, h⟩ := x_some_e h
  refine ev_at (st' := [va_rf (some a_2)]) rfl (by rw [ea_2]) ?_
  obtain ⟨c_6, h⟩ := x_chk_e h
  rcases x_bind_e h with ⟨v_3, σ_4, h_5, h⟩ | ⟨E_26, σ_4, h_5, h⟩
  · have z9 := x_call (M := mX11_read) (M' := mX10_scan) (pc := 45) (st := [va_rf (some a_2)]) (rest := []) (av := [va_rf (some a_2)]) (x_linkV (M := mX11_read) (M' := mX10_scan) (As := []) (index := 61) (C := RX10) (T := TX10) (xE_10 c_6) rfl wd_622 wd_623 wd_621 xw_X10_scan rfl (by decide) rfl rfl dX11_read_45) (ev_X10_scan hO hP h_5) xw_X10_scan rfl wd_118 dX11_read_45 (by decide) (by decide) (by simp [x_cat, x_catI, x_catJ])
    refine x_callR z9 ?_
    refine ev_at (st' := []) rfl rfl ?_
    refine ev_aload_n (j := 0) (x := s0) dX11_read_48 rfl rfl ?_
    refine ev_aload_n (j := 2) (x := v2) dX11_read_49 rfl rfl ?_
    obtain ⟨a_7, ea_7, h⟩ := x_some_e h
    refine ev_at (st' := [va_rf v2, va_rf (some a_7)]) rfl (by rw [ea_7]) ?_
    obtain ⟨c_11, h⟩ := x_chk_e h
    rcases x_bind_e h with ⟨v_8, σ_9, h_10, h⟩ | ⟨E_25, σ_9, h_10, h⟩
    · have z9 : xCall l G mX11_read 50 [va_rf v2, va_rf (some a_7)] [] σ_4 (xrI (.inl v_8)) σ_9 := by
        rcases c_11 with w9 | w9
        · exact x_call (M := mX11_read) (M' := mX8_faultOf) (pc := 50) (st := [va_rf v2, va_rf (some a_7)]) (rest := []) (av := [va_rf (some a_7), va_rf v2]) (x_linkU (M := mX11_read) (M' := mX8_faultOf) (As := [va_rf v2]) (index := 64) (C := RX3) (T := TX3) (owner := "NetlistForms$Reader") (x := ⟨"NetlistForms$Reader", "faultOf", "(LNetlistForms$Design;)I"⟩) (xE_4 w9) rfl wd_629 wd_630 (Or.inr rfl) wd_631 wd_632 xw_X8_faultOf rfl (by decide) rfl rfl dX11_read_50) (ev_X8_faultOf hO hP h_10) xw_X8_faultOf rfl wd_104 dX11_read_50 (by decide) (by decide) (by simp [x_cat, x_catI, x_catJ])
        · exact x_call (M := mX11_read) (M' := mX8_faultOf) (pc := 50) (st := [va_rf v2, va_rf (some a_7)]) (rest := []) (av := [va_rf (some a_7), va_rf v2]) (x_linkU (M := mX11_read) (M' := mX8_faultOf) (As := [va_rf v2]) (index := 64) (C := RX9) (T := TX9) (owner := "NetlistForms$Reader") (x := ⟨"NetlistForms$Reader", "faultOf", "(LNetlistForms$Design;)I"⟩) (xE_9 w9) rfl wd_629 wd_630 (Or.inr rfl) wd_631 wd_633 xw_X8_faultOf rfl (by decide) rfl rfl dX11_read_50) (ev_X8_faultOf hO hP h_10) xw_X8_faultOf rfl wd_104 dX11_read_50 (by decide) (by decide) (by simp [x_cat, x_catI, x_catJ])
      refine x_callR z9 ?_
      refine ev_at (st' := [.int v_8]) rfl rfl ?_
      refine ev_istore (i := 4) (lv' := [(4, .int v_8), (3, va_rf s0), (0, va_rf (some a0)), (2, va_rf v2)]) dX11_read_53 (by decide) (by simp [x_cat, x_catI, x_catJ]) ?_
      refine ev_aload_n (j := 2) (x := (some a0)) dX11_read_55 rfl rfl ?_
      obtain ⟨c_12, h⟩ := x_chk_e h
      refine ev_get (C := RX11) (T := TX11) (k := 0) inX11 (xE_11 c_12) rfl (by decide) wd_33 (Or.inl rfl) rfl dX11_read_56 ?_
      obtain ⟨a_13, ea_13, h⟩ := x_some_e h
      refine ev_at (st' := [va_rf (some a_13)]) rfl (by rw [ea_13]) ?_
      obtain ⟨c_17, h⟩ := x_chk_e h
      rcases x_bind_e h with ⟨v_14, σ_15, h_16, h⟩ | ⟨E_24, σ_15, h_16, h⟩
      · have z9 := x_call (M := mX11_read) (M' := mX10_clear) (pc := 59) (st := [va_rf (some a_13)]) (rest := []) (av := [va_rf (some a_13)]) (x_linkV (M := mX11_read) (M' := mX10_clear) (As := []) (index := 70) (C := RX10) (T := TX10) (xE_10 c_17) rfl wd_626 wd_627 wd_625 xw_X10_clear rfl (by decide) rfl rfl dX11_read_59) (ev_X10_clear hO hP h_16) xw_X10_clear rfl wd_118 dX11_read_59 (by decide) (by decide) (by simp [x_cat, x_catI, x_catJ])
        refine x_callR z9 ?_
        refine ev_at (st' := []) rfl rfl ?_
        refine ev_iload (j := 0) (x := v_8) dX11_read_62 rfl ?_
        refine ev_sipush (v := 1001) dX11_read_64 (by decide) ?_
        by_cases c_18 : v_8 = 1001
        · rw [if_pos c_18] at h
          refine ev_icmp_eq (x := v_8) (y := 1001) (tgt := 75) dX11_read_67 (by decide) (fun _ => ?_) (fun q9 => absurd c_18 q9)
          refine ev_aload_n (j := 2) (x := (some a0)) dX11_read_75 rfl rfl ?_
          refine ev_aload_n (j := 3) (x := v2) dX11_read_76 rfl rfl ?_
          obtain ⟨c_19, h⟩ := x_chk_e h
          obtain ⟨σ_20, eσ_20, h⟩ := x_let_e h
          refine ev_put (σ2 := σ_20) (C := RX11) (T := TX11) (k := 4) inX11 tyX11 tyX11_ok nmX11 (xE_11 c_19.1) rfl (by decide) wd_0 (Or.inl rfl) rfl rfl (x_refN _) (x_refF _) (Nat.le_of_ble_eq_true rfl) (hP.2.2.2.1 ▸ c_19.2) (by rw [eσ_20]; exact xP_11_4 _ c_19.1) (by rw [eσ_20]; exact xPut_R) dX11_read_77 ?_
          refine ev_aload_n (j := 2) (x := (some a0)) dX11_read_80 rfl rfl ?_
          obtain ⟨c_21, h⟩ := x_chk_e h
          refine ev_get (C := RX11) (T := TX11) (k := 4) inX11 (xE_11 c_21) rfl (by decide) wd_0 (Or.inl rfl) rfl dX11_read_81 ?_
          obtain ⟨a_22, ea_22, h⟩ := x_some_e h
          refine ev_at (st' := [va_rf (some a_22)]) rfl (by rw [ea_22]) ?_
          obtain ⟨c_23, h⟩ := x_chk_e h
          refine ev_get (C := RX0) (T := TX0) (k := 1) inX0 (xE_1 c_23) rfl (by decide) wd_1 (Or.inl rfl) rfl dX11_read_84 ?_
          cases h
          exact ev_iret rfl rfl dX11_read_87
        · rw [if_neg c_18] at h
          refine ev_icmp_eq (x := v_8) (y := 1001) (tgt := 75) dX11_read_67 (by decide) (fun q9 => absurd q9 c_18) (fun _ => ?_)
          refine ev_iconst (v := -1) dX11_read_70 (by decide) ?_
          refine ev_iload (j := 0) (x := v_8) dX11_read_71 rfl ?_
          refine ev_isub (x := (-1)) (y := v_8) dX11_read_73 ?_
          cases h
          exact ev_iret rfl rfl dX11_read_74
      · have z9 := x_call (M := mX11_read) (M' := mX10_clear) (pc := 59) (st := [va_rf (some a_13)]) (rest := []) (av := [va_rf (some a_13)]) (x_linkV (M := mX11_read) (M' := mX10_clear) (As := []) (index := 70) (C := RX10) (T := TX10) (xE_10 c_17) rfl wd_626 wd_627 wd_625 xw_X10_clear rfl (by decide) rfl rfl dX11_read_59) (ev_X10_clear hO hP h_16) xw_X10_clear rfl wd_118 dX11_read_59 (by decide) (by decide) (by simp [x_cat, x_catI, x_catJ])
        cases h
        exact x_callX z9 (evX_out rfl)
    · have z9 : xCall l G mX11_read 50 [va_rf v2, va_rf (some a_7)] [] σ_4 (xrI (.inr E_25)) σ_9 := by
        rcases c_11 with w9 | w9
        · exact x_call (M := mX11_read) (M' := mX8_faultOf) (pc := 50) (st := [va_rf v2, va_rf (some a_7)]) (rest := []) (av := [va_rf (some a_7), va_rf v2]) (x_linkU (M := mX11_read) (M' := mX8_faultOf) (As := [va_rf v2]) (index := 64) (C := RX3) (T := TX3) (owner := "NetlistForms$Reader") (x := ⟨"NetlistForms$Reader", "faultOf", "(LNetlistForms$Design;)I"⟩) (xE_4 w9) rfl wd_629 wd_630 (Or.inr rfl) wd_631 wd_632 xw_X8_faultOf rfl (by decide) rfl rfl dX11_read_50) (ev_X8_faultOf hO hP h_10) xw_X8_faultOf rfl wd_104 dX11_read_50 (by decide) (by decide) (by simp [x_cat, x_catI, x_catJ])
        · exact x_call (M := mX11_read) (M' := mX8_faultOf) (pc := 50) (st := [va_rf v2, va_rf (some a_7)]) (rest := []) (av := [va_rf (some a_7), va_rf v2]) (x_linkU (M := mX11_read) (M' := mX8_faultOf) (As := [va_rf v2]) (index := 64) (C := RX9) (T := TX9) (owner := "NetlistForms$Reader") (x := ⟨"NetlistForms$Reader", "faultOf", "(LNetlistForms$Design;)I"⟩) (xE_9 w9) rfl wd_629 wd_630 (Or.inr rfl) wd_631 wd_633 xw_X8_faultOf rfl (by decide) rfl rfl dX11_read_50) (ev_X8_faultOf hO hP h_10) xw_X8_faultOf rfl wd_104 dX11_read_50 (by decide) (by decide) (by simp [x_cat, x_catI, x_catJ])
      cases h
      exact x_callX z9 (evX_out rfl)
  · have z9 := x_call (M := mX11_read) (M' := mX10_scan) (pc := 45) (st := [va_rf (some a_2)]) (rest := []) (av := [va_rf (some a_2)]) (x_linkV (M := mX11_read) (M' := mX10_scan) (As := []) (index := 61) (C := RX10) (T := TX10) (xE_10 c_6) rfl wd_622 wd_623 wd_621 xw_X10_scan rfl (by decide) rfl rfl dX11_read_45) (ev_X10_scan hO hP h_5) xw_X10_scan rfl wd_118 dX11_read_45 (by decide) (by decide) (by simp [x_cat, x_catI, x_catJ])
    cases h
    exact x_callX z9 (evX_out rfl)
set_option maxHeartbeats 4000000 in
set_option maxRecDepth 100000 in
theorem ev_X11_read_p14 {l : Launch} {G : xG} (hO : x_OK l G) {P : xP} (hP : x_PG P G) {a0 : Nat} {v1 : Int32} {s0 : Int32} {σ σ' : xS} {rr : Int32 ⊕ String} (h : dm_X11_read_p14 P a0 v1 s0 σ = some (rr, σ')) : Ev l G mX11_read 14 [(0, va_rf (some a0)), (1, .int v1)] [.int s0] σ (xrI rr) σ' := by
  unfold dm_X11_read_p14 at h
  rcases x_bind_e h with ⟨v_1, σ_2, h_3, h⟩ | ⟨E_13, σ_2, h_3, h⟩
  · have z9 := x_call (M := mX11_read) (M' := mX11_refuseUnless) (pc := 14) (st := [.int s0]) (rest := []) (av := [.int s0]) (x_linkS (M := mX11_read) (M' := mX11_refuseUnless) (As := [.int s0]) (index := 57) wd_3 wd_4 wd_5 xw_X11_refuseUnless rfl ⟨_, _, _, Or.inl wd_2⟩ (by decide) rfl rfl dX11_read_14) (ev_X11_refuseUnless hO hP h_3) xw_X11_refuseUnless rfl wd_5 dX11_read_14 (by decide) (by decide) (by simp [x_cat, x_catI, x_catJ])
    refine x_callR z9 ?_
    refine ev_at (st' := []) rfl rfl ?_
    obtain ⟨c_4, h⟩ := x_chk_e h
    obtain ⟨σ_5, eσ_5, h⟩ := x_let_e h
    refine ev_new (C := RX0) (T := TX0) (N := 2) (ci := 0) inX0 tyX0 tyX0_ok rfl (by decide) wd_143 wd_144 wd_145 (hP.2.1 ▸ c_4.1) (hP.2.2.1 ▸ c_4.2) (nE_1 _ _) nF_1 dX11_read_17 (eσ_5 ▸ ?_)
    refine ev_dup dX11_read_20 (x_cat _) ?_
    rcases x_bind_e h with ⟨v_6, σ_7, h_8, h⟩ | ⟨E_12, σ_7, h_8, h⟩
    · have z9 := x_call (M := mX11_read) (M' := mX0_init) (pc := 21) (st := [va_rf (some σ_2.sz), va_rf (some σ_2.sz)]) (rest := [va_rf (some σ_2.sz)]) (av := [va_rf (some σ_2.sz)]) (x_linkIN (M := mX11_read) (M' := mX0_init) (As := []) (index := 40) (b := σ_2.sz) rfl wd_147 wd_148 wd_146 (by decide) rfl rfl dX11_read_21) (ev_X0_init hO hP h_8) xw_X0_init rfl wd_145 dX11_read_21 (by decide) (by decide) (by simp [x_cat, x_catI, x_catJ])
      refine x_callR z9 ?_
      refine ev_at (st' := [va_rf (some σ_2.sz)]) rfl rfl ?_
      refine ev_astore_n (i := 2) (lv' := [(2, va_rf (some σ_2.sz)), (0, va_rf (some a0)), (1, .int v1)]) dX11_read_24 rfl (by decide) rfl ?_
      refine ev_iload_n (j := 2) (x := v1) dX11_read_25 rfl rfl ?_
      by_cases c_9 : v1 = 0
      · rw [if_pos c_9] at h
        refine ev_if_ne (x := v1) (tgt := 36) dX11_read_26 (by decide) (fun q9 => absurd c_9 q9) (fun _ => ?_)
        refine ev_aload_n (j := 1) (x := (some a0)) dX11_read_29 rfl rfl ?_
        obtain ⟨c_11, h⟩ := x_chk_e h
        refine ev_get (C := RX11) (T := TX11) (k := 1) inX11 (xE_11 c_11) rfl (by decide) wd_128 (Or.inl rfl) rfl dX11_read_30 ?_
        refine ev_goto (tgt := 40) dX11_read_33 (by decide) ?_
        exact ev_sub [1, 0] rfl (ev_X11_read_p40 hO hP h)
      · rw [if_neg c_9] at h
        refine ev_if_ne (x := v1) (tgt := 36) dX11_read_26 (by decide) (fun _ => ?_) (fun q9 => absurd q9 c_9)
        refine ev_aload_n (j := 1) (x := (some a0)) dX11_read_36 rfl rfl ?_
        obtain ⟨c_10, h⟩ := x_chk_e h
        refine ev_get (C := RX11) (T := TX11) (k := 2) inX11 (xE_11 c_10) rfl (by decide) wd_135 (Or.inl rfl) rfl dX11_read_37 ?_
        exact ev_sub [1, 0] rfl (ev_X11_read_p40 hO hP h)
    · have z9 := x_call (M := mX11_read) (M' := mX0_init) (pc := 21) (st := [va_rf (some σ_2.sz), va_rf (some σ_2.sz)]) (rest := [va_rf (some σ_2.sz)]) (av := [va_rf (some σ_2.sz)]) (x_linkIN (M := mX11_read) (M' := mX0_init) (As := []) (index := 40) (b := σ_2.sz) rfl wd_147 wd_148 wd_146 (by decide) rfl rfl dX11_read_21) (ev_X0_init hO hP h_8) xw_X0_init rfl wd_145 dX11_read_21 (by decide) (by decide) (by simp [x_cat, x_catI, x_catJ])
      cases h
      exact x_callX z9 (evX_out rfl)
  · have z9 := x_call (M := mX11_read) (M' := mX11_refuseUnless) (pc := 14) (st := [.int s0]) (rest := []) (av := [.int s0]) (x_linkS (M := mX11_read) (M' := mX11_refuseUnless) (As := [.int s0]) (index := 57) wd_3 wd_4 wd_5 xw_X11_refuseUnless rfl ⟨_, _, _, Or.inl wd_2⟩ (by decide) rfl rfl dX11_read_14) (ev_X11_refuseUnless hO hP h_3) xw_X11_refuseUnless rfl wd_5 dX11_read_14 (by decide) (by decide) (by simp [x_cat, x_catI, x_catJ])
    cases h
    exact x_callX z9 (evX_out rfl)
set_option maxHeartbeats 4000000 in
set_option maxRecDepth 100000 in
theorem ev_X11_read_p9 {l : Launch} {G : xG} (hO : x_OK l G) {P : xP} (hP : x_PG P G) {a0 : Nat} {v1 : Int32} {σ σ' : xS} {rr : Int32 ⊕ String} (h : dm_X11_read_p9 P a0 v1 σ = some (rr, σ')) : Ev l G mX11_read 9 [(0, va_rf (some a0)), (1, .int v1)] [] σ (xrI rr) σ' := by
  unfold dm_X11_read_p9 at h
  refine ev_iconst (v := 1) dX11_read_9 (by decide) ?_
  refine ev_goto (tgt := 14) dX11_read_10 (by decide) ?_
  exact ev_sub [0, 1] rfl (ev_X11_read_p14 hO hP h)
set_option maxHeartbeats 4000000 in
set_option maxRecDepth 100000 in
theorem ev_X11_read {l : Launch} {G : xG} (hO : x_OK l G) {P : xP} (hP : x_PG P G) {a0 : Nat} {v1 : Int32} {σ σ' : xS} {rr : Int32 ⊕ String} (h : dm_X11_read P a0 v1 σ = some (rr, σ')) : EvM l G mX11_read [va_rf (some a0), .int v1] σ (xrI rr) σ' := by
  unfold dm_X11_read at h
  refine evM_of hO (by decide +kernel) (x_lenI (by simp [x_cat, x_catI, x_catJ, mX11_read, xM.maxL])) ?_
  refine Eq.mp (congrArg (fun z => Ev l G mX11_read 0 z [] σ (xrI rr) σ') (show [(0, va_rf (some a0)), (1, .int v1)] = lv_args 0 [va_rf (some a0), .int v1] by simp [lv_args, x_cat, x_catI, x_catJ])) ?_
  refine ev_iload_n (j := 1) (x := v1) dX11_read_0 rfl rfl ?_
  by_cases c_1 : v1 = 0
  · rw [if_pos c_1] at h
    refine ev_if_eq (x := v1) (tgt := 9) dX11_read_1 (by decide) (fun _ => ?_) (fun q9 => absurd c_1 q9)
    exact ev_sub [0, 1] rfl (ev_X11_read_p9 hO hP h)
  · rw [if_neg c_1] at h
    refine ev_if_eq (x := v1) (tgt := 9) dX11_read_1 (by decide) (fun q9 => absurd q9 c_1) (fun _ => ?_)
    refine ev_iload_n (j := 1) (x := v1) dX11_read_4 rfl rfl ?_
    refine ev_iconst (v := 1) dX11_read_5 (by decide) ?_
    by_cases c_2 : v1 = 1
    · rw [if_pos c_2] at h
      refine ev_icmp_ne (x := v1) (y := 1) (tgt := 13) dX11_read_6 (by decide) (fun q9 => absurd c_2 q9) (fun _ => ?_)
      exact ev_sub [0, 1] rfl (ev_X11_read_p9 hO hP h)
    · rw [if_neg c_2] at h
      refine ev_icmp_ne (x := v1) (y := 1) (tgt := 13) dX11_read_6 (by decide) (fun _ => ?_) (fun q9 => absurd q9 c_2)
      refine ev_iconst (v := 0) dX11_read_13 (by decide) ?_
      exact ev_sub [0, 1] rfl (ev_X11_read_p14 hO hP h)
set_option maxHeartbeats 4000000 in
set_option maxRecDepth 100000 in
theorem ev_L_read {l : Launch} {G : xG} (hO : x_OK l G) {P : xP} (hP : x_PG P G) {v0 : Option Nat} {v1 : Int32} {v2 : Option Nat} {σ σ' : xS} {rr : Int32 ⊕ String} (h : dm_L_read P v0 v1 v2 σ = some (rr, σ')) : EvM l G mL_read [va_rf v0, .int v1, va_rf v2] σ (xrI rr) σ' := by
  unfold dm_L_read at h
  refine evM_of hO (by decide +kernel) (x_lenI (by simp [x_cat, x_catI, x_catJ, mL_read, xM.maxL])) ?_
  refine Eq.mp (congrArg (fun z => Ev l G mL_read 0 z [] σ (xrI rr) σ') (show [(0, va_rf v0), (1, .int v1), (2, va_rf v2)] = lv_args 0 [va_rf v0, .int v1, va_rf v2] by simp [lv_args, x_cat, x_catI, x_catJ])) ?_
  refine ev_aload_n (j := 2) (x := v2) dL_read_0 rfl rfl ?_
  refine ev_iconst (v := 0) dL_read_1 (by decide) ?_
  refine ev_aload_n (j := 0) (x := v0) dL_read_2 rfl rfl ?_
  refine ev_iload_n (j := 1) (x := v1) dL_read_3 rfl rfl ?_
  obtain ⟨a_1, ea_1, h⟩ := x_some_e h
  refine ev_at (st' := [.int v1, va_rf (some a_1), .int 0, va_rf v2]) rfl (by rw [ea_1]) ?_
  obtain ⟨c_5, h⟩ := x_chk_e h
  rcases x_bind_e h with ⟨v_2, σ_3, h_4, h⟩ | ⟨E_9, σ_3, h_4, h⟩
  · have z9 := x_call (M := mL_read) (M' := mX11_read) (pc := 4) (st := [.int v1, va_rf (some a_1), .int 0, va_rf v2]) (rest := [.int 0, va_rf v2]) (av := [va_rf (some a_1), .int v1]) (x_linkV (M := mL_read) (M' := mX11_read) (As := [.int v1]) (index := 7) (C := RX11) (T := TX11) (xE_11 c_5) rfl wd_636 wd_637 wd_635 xw_X11_read rfl (by decide) rfl rfl dL_read_4) (ev_X11_read hO hP h_4) xw_X11_read rfl wd_5 dL_read_4 (by decide) (by decide) (by simp [x_cat, x_catI, x_catJ])
    refine x_callR z9 ?_
    refine ev_at (st' := [.int v_2, .int 0, va_rf v2]) rfl rfl ?_
    refine ev_i2l (x := v_2) dL_read_7 ?_
    obtain ⟨a_6, ea_6, h⟩ := x_some_e h
    refine ev_at (st' := [.long (Int32.toInt64 v_2), .int 0, va_rf (some a_6)]) rfl (by rw [ea_6]) ?_
    obtain ⟨c_7, h⟩ := x_chk_e h
    obtain ⟨σ_8, eσ_8, h⟩ := x_let_e h
    refine ev_last_42 c_7.1 c_7.2.1 (hP.2.2.2.1 ▸ c_7.2.2) dL_read_8 (eσ_8 ▸ ?_)
    refine ev_goto (tgt := 15) dL_read_9 (by decide) ?_
    refine ev_iconst (v := 0) dL_read_15 (by decide) ?_
    cases h
    exact ev_iret rfl rfl dL_read_16
  · have z9 := x_call (M := mL_read) (M' := mX11_read) (pc := 4) (st := [.int v1, va_rf (some a_1), .int 0, va_rf v2]) (rest := [.int 0, va_rf v2]) (av := [va_rf (some a_1), .int v1]) (x_linkV (M := mL_read) (M' := mX11_read) (As := [.int v1]) (index := 7) (C := RX11) (T := TX11) (xE_11 c_5) rfl wd_636 wd_637 wd_635 xw_X11_read rfl (by decide) rfl rfl dL_read_4) (ev_X11_read hO hP h_4) xw_X11_read rfl wd_5 dL_read_4 (by decide) (by decide) (by simp [x_cat, x_catI, x_catJ])
    obtain ⟨c_11, h9⟩ := x_chk_e h
    clear h
    subst c_11
    have h := h9
    clear h9
    refine x_callX z9 (evX_catch (name := "java/lang/IndexOutOfBoundsException") (x := (0, 9, 12, 13)) (xs := []) rfl (by decide) (by decide) wd_31 wd_32 (fun q_10 => ?_))
    refine ev_astore_n (i := 3) (lv' := [(3, va_rf (some q_10)), (0, va_rf v0), (1, .int v1), (2, va_rf v2)]) dL_read_12 rfl (by decide) (by simp [x_cat, x_catI, x_catJ]) ?_
    refine ev_iconst (v := 1) dL_read_13 (by decide) ?_
    cases h
    exact ev_iret rfl rfl dL_read_14
set_option maxHeartbeats 4000000 in
set_option maxRecDepth 100000 in
theorem ev_X12_ok_p13 {l : Launch} {G : xG} (hO : x_OK l G) {P : xP} (hP : x_PG P G) {a0 : Nat} {s0 : Int32} {σ σ' : xS} {rr : Int32 ⊕ String} (h : dm_X12_ok_p13 P a0 s0 σ = some (rr, σ')) : Ev l G mX12_ok 13 [] [.int s0] σ (xrI rr) σ' := by
  unfold dm_X12_ok_p13 at h
  obtain ⟨c_1, h⟩ := x_chk_e h
  cases h
  exact ev_iret rfl (x_boolN c_1) dX12_ok_13
set_option maxHeartbeats 4000000 in
set_option maxRecDepth 100000 in
theorem ev_X12_ok {l : Launch} {G : xG} (hO : x_OK l G) {P : xP} (hP : x_PG P G) {a0 : Nat} {σ σ' : xS} {rr : Int32 ⊕ String} (h : dm_X12_ok P a0 σ = some (rr, σ')) : EvM l G mX12_ok [va_rf (some a0)] σ (xrI rr) σ' := by
  unfold dm_X12_ok at h
  refine evM_of hO (by decide +kernel) (x_lenI (by simp [x_cat, x_catI, x_catJ, mX12_ok, xM.maxL])) ?_
  refine Eq.mp (congrArg (fun z => Ev l G mX12_ok 0 z [] σ (xrI rr) σ') (show [(0, va_rf (some a0))] = lv_args 0 [va_rf (some a0)] by simp [lv_args, x_cat, x_catI, x_catJ])) ?_
  refine ev_aload_n (j := 0) (x := (some a0)) dX12_ok_0 rfl rfl ?_
  obtain ⟨c_1, h⟩ := x_chk_e h
  refine ev_get (C := RX12) (T := TX12) (k := 39) inX12 (xE_12 c_1) rfl (by decide) wd_182 (Or.inl rfl) rfl dX12_ok_1 ?_
  refine ev_iconst (v := -1) dX12_ok_4 (by decide) ?_
  by_cases c_2 : (σ.I 1139 a0) = (-1)
  · rw [if_pos c_2] at h
    refine ev_icmp_ne (x := (σ.I 1139 a0)) (y := (-1)) (tgt := 12) dX12_ok_5 (by decide) (fun q9 => absurd c_2 q9) (fun _ => ?_)
    refine ev_iconst (v := 1) dX12_ok_8 (by decide) ?_
    refine ev_goto (tgt := 13) dX12_ok_9 (by decide) ?_
    exact ev_sub [] rfl (ev_X12_ok_p13 hO hP h)
  · rw [if_neg c_2] at h
    refine ev_icmp_ne (x := (σ.I 1139 a0)) (y := (-1)) (tgt := 12) dX12_ok_5 (by decide) (fun _ => ?_) (fun q9 => absurd q9 c_2)
    refine ev_iconst (v := 0) dX12_ok_12 (by decide) ?_
    exact ev_sub [] rfl (ev_X12_ok_p13 hO hP h)
set_option maxHeartbeats 4000000 in
set_option maxRecDepth 100000 in
theorem ev_X12_sign_p32 {l : Launch} {G : xG} (hO : x_OK l G) {P : xP} (hP : x_PG P G) {a0 : Nat} {s0 : Int32} {σ σ' : xS} {rr : Int32 ⊕ String} (h : dm_X12_sign_p32 P a0 s0 σ = some (rr, σ')) : Ev l G mX12_sign 32 [] [.int s0] σ (xrI rr) σ' := by
  unfold dm_X12_sign_p32 at h
  cases h
  exact ev_iret rfl rfl dX12_sign_32
set_option maxHeartbeats 4000000 in
set_option maxRecDepth 100000 in
theorem ev_X12_sign {l : Launch} {G : xG} (hO : x_OK l G) {P : xP} (hP : x_PG P G) {a0 : Nat} {v1 : Int32} {σ σ' : xS} {rr : Int32 ⊕ String} (h : dm_X12_sign P a0 v1 σ = some (rr, σ')) : EvM l G mX12_sign [va_rf (some a0), .int v1] σ (xrI rr) σ' := by
  unfold dm_X12_sign at h
  refine evM_of hO (by decide +kernel) (x_lenI (by simp [x_cat, x_catI, x_catJ, mX12_sign, xM.maxL])) ?_
  refine Eq.mp (congrArg (fun z => Ev l G mX12_sign 0 z [] σ (xrI rr) σ') (show [(0, va_rf (some a0)), (1, .int v1)] = lv_args 0 [va_rf (some a0), .int v1] by simp [lv_args, x_cat, x_catI, x_catJ])) ?_
  refine ev_iload_n (j := 1) (x := v1) dX12_sign_0 rfl rfl ?_
  refine ev_aload_n (j := 0) (x := (some a0)) dX12_sign_1 rfl rfl ?_
  obtain ⟨c_1, h⟩ := x_chk_e h
  refine ev_get (C := RX12) (T := TX12) (k := 5) inX12 (xE_12 c_1) rfl (by decide) wd_152 (Or.inl rfl) rfl dX12_sign_2 ?_
  refine ev_aload_n (j := 0) (x := (some a0)) dX12_sign_5 rfl rfl ?_
  refine ev_get (C := RX12) (T := TX12) (k := 40) inX12 (xE_12 c_1) rfl (by decide) wd_638 (Or.inl rfl) rfl dX12_sign_6 ?_
  obtain ⟨a_2, ea_2, h⟩ := x_some_e h
  refine ev_at (st' := [.int (σ.I 1140 a0), va_rf (some a_2), .int v1]) rfl (by rw [ea_2]) ?_
  obtain ⟨c_3, h⟩ := x_chk_e h
  refine ev_iald_31 c_3.1 c_3.2 dX12_sign_9 ?_
  by_cases c_4 : (σ.AI a_2 (Int32.toNatClampNeg (σ.I 1140 a0))) ≤ v1
  · rw [if_pos c_4] at h
    refine ev_icmp_ge (x := v1) (y := (σ.AI a_2 (Int32.toNatClampNeg (σ.I 1140 a0)))) (tgt := 31) dX12_sign_10 (by decide) (fun _ => ?_) (fun q9 => absurd c_4 q9)
    refine ev_iconst (v := 0) dX12_sign_31 (by decide) ?_
    exact ev_sub [] rfl (ev_X12_sign_p32 hO hP h)
  · rw [if_neg c_4] at h
    refine ev_icmp_ge (x := v1) (y := (σ.AI a_2 (Int32.toNatClampNeg (σ.I 1140 a0)))) (tgt := 31) dX12_sign_10 (by decide) (fun q9 => absurd q9 c_4) (fun _ => ?_)
    refine ev_aload_n (j := 0) (x := (some a0)) dX12_sign_13 rfl rfl ?_
    refine ev_get (C := RX12) (T := TX12) (k := 4) inX12 (xE_12 c_1) rfl (by decide) wd_151 (Or.inl rfl) rfl dX12_sign_14 ?_
    refine ev_sipush (v := 1000) dX12_sign_17 (by decide) ?_
    refine ev_aload_n (j := 0) (x := (some a0)) dX12_sign_20 rfl rfl ?_
    refine ev_get (C := RX12) (T := TX12) (k := 40) inX12 (xE_12 c_1) rfl (by decide) wd_638 (Or.inl rfl) rfl dX12_sign_21 ?_
    refine ev_imul (x := 1000) (y := (σ.I 1140 a0)) dX12_sign_24 ?_
    refine ev_iload_n (j := 1) (x := v1) dX12_sign_25 rfl rfl ?_
    refine ev_iadd (x := (1000 * (σ.I 1140 a0))) (y := v1) dX12_sign_26 ?_
    obtain ⟨a_5, ea_5, h⟩ := x_some_e h
    refine ev_at (st' := [.int ((1000 * (σ.I 1140 a0)) + v1), va_rf (some a_5)]) rfl (by rw [ea_5]) ?_
    obtain ⟨c_6, h⟩ := x_chk_e h
    refine ev_iald_31 c_6.1 c_6.2 dX12_sign_27 ?_
    refine ev_goto (tgt := 32) dX12_sign_28 (by decide) ?_
    exact ev_sub [] rfl (ev_X12_sign_p32 hO hP h)
set_option maxHeartbeats 4000000 in
set_option maxRecDepth 100000 in
theorem ev_X12_isLetter_p35 {l : Launch} {G : xG} (hO : x_OK l G) {P : xP} (hP : x_PG P G) {s0 : Int32} {σ σ' : xS} {rr : Int32 ⊕ String} (h : dm_X12_isLetter_p35 P s0 σ = some (rr, σ')) : Ev l G mX12_isLetter 35 [] [.int s0] σ (xrI rr) σ' := by
  unfold dm_X12_isLetter_p35 at h
  obtain ⟨c_1, h⟩ := x_chk_e h
  cases h
  exact ev_iret rfl (x_boolN c_1) dX12_isLetter_35
set_option maxHeartbeats 4000000 in
set_option maxRecDepth 100000 in
theorem ev_X12_isLetter_p30 {l : Launch} {G : xG} (hO : x_OK l G) {P : xP} (hP : x_PG P G) {σ σ' : xS} {rr : Int32 ⊕ String} (h : dm_X12_isLetter_p30 P σ = some (rr, σ')) : Ev l G mX12_isLetter 30 [] [] σ (xrI rr) σ' := by
  unfold dm_X12_isLetter_p30 at h
  refine ev_iconst (v := 1) dX12_isLetter_30 (by decide) ?_
  refine ev_goto (tgt := 35) dX12_isLetter_31 (by decide) ?_
  exact ev_sub [] rfl (ev_X12_isLetter_p35 hO hP h)
set_option maxHeartbeats 4000000 in
set_option maxRecDepth 100000 in
theorem ev_X12_isLetter_p24 {l : Launch} {G : xG} (hO : x_OK l G) {P : xP} (hP : x_PG P G) {v0 : Int32} {σ σ' : xS} {rr : Int32 ⊕ String} (h : dm_X12_isLetter_p24 P v0 σ = some (rr, σ')) : Ev l G mX12_isLetter 24 [(0, .int v0)] [] σ (xrI rr) σ' := by
  unfold dm_X12_isLetter_p24 at h
  refine ev_iload_n (j := 0) (x := v0) dX12_isLetter_24 rfl rfl ?_
  refine ev_bipush (v := 95) dX12_isLetter_25 (by decide) ?_
  by_cases c_1 : v0 = 95
  · rw [if_pos c_1] at h
    refine ev_icmp_ne (x := v0) (y := 95) (tgt := 34) dX12_isLetter_27 (by decide) (fun q9 => absurd c_1 q9) (fun _ => ?_)
    exact ev_sub [] rfl (ev_X12_isLetter_p30 hO hP h)
  · rw [if_neg c_1] at h
    refine ev_icmp_ne (x := v0) (y := 95) (tgt := 34) dX12_isLetter_27 (by decide) (fun _ => ?_) (fun q9 => absurd q9 c_1)
    refine ev_iconst (v := 0) dX12_isLetter_34 (by decide) ?_
    exact ev_sub [] rfl (ev_X12_isLetter_p35 hO hP h)
set_option maxHeartbeats 4000000 in
set_option maxRecDepth 100000 in
theorem ev_X12_isLetter_p12 {l : Launch} {G : xG} (hO : x_OK l G) {P : xP} (hP : x_PG P G) {v0 : Int32} {σ σ' : xS} {rr : Int32 ⊕ String} (h : dm_X12_isLetter_p12 P v0 σ = some (rr, σ')) : Ev l G mX12_isLetter 12 [(0, .int v0)] [] σ (xrI rr) σ' := by
  unfold dm_X12_isLetter_p12 at h
  refine ev_iload_n (j := 0) (x := v0) dX12_isLetter_12 rfl rfl ?_
  refine ev_bipush (v := 65) dX12_isLetter_13 (by decide) ?_
  by_cases c_1 : v0 < 65
  · rw [if_pos c_1] at h
    refine ev_icmp_lt (x := v0) (y := 65) (tgt := 24) dX12_isLetter_15 (by decide) (fun _ => ?_) (fun q9 => absurd c_1 q9)
    exact ev_sub [0] rfl (ev_X12_isLetter_p24 hO hP h)
  · rw [if_neg c_1] at h
    refine ev_icmp_lt (x := v0) (y := 65) (tgt := 24) dX12_isLetter_15 (by decide) (fun q9 => absurd q9 c_1) (fun _ => ?_)
    refine ev_iload_n (j := 0) (x := v0) dX12_isLetter_18 rfl rfl ?_
    refine ev_bipush (v := 90) dX12_isLetter_19 (by decide) ?_
    by_cases c_2 : v0 ≤ 90
    · rw [if_pos c_2] at h
      refine ev_icmp_le (x := v0) (y := 90) (tgt := 30) dX12_isLetter_21 (by decide) (fun _ => ?_) (fun q9 => absurd c_2 q9)
      exact ev_sub [] rfl (ev_X12_isLetter_p30 hO hP h)
    · rw [if_neg c_2] at h
      refine ev_icmp_le (x := v0) (y := 90) (tgt := 30) dX12_isLetter_21 (by decide) (fun q9 => absurd q9 c_2) (fun _ => ?_)
      exact ev_sub [0] rfl (ev_X12_isLetter_p24 hO hP h)
set_option maxHeartbeats 4000000 in
set_option maxRecDepth 100000 in
theorem ev_X12_isLetter {l : Launch} {G : xG} (hO : x_OK l G) {P : xP} (hP : x_PG P G) {v0 : Int32} {σ σ' : xS} {rr : Int32 ⊕ String} (h : dm_X12_isLetter P v0 σ = some (rr, σ')) : EvM l G mX12_isLetter [.int v0] σ (xrI rr) σ' := by
  unfold dm_X12_isLetter at h
  refine evM_of hO (by decide +kernel) (x_lenI (by simp [x_cat, x_catI, x_catJ, mX12_isLetter, xM.maxL])) ?_
  refine Eq.mp (congrArg (fun z => Ev l G mX12_isLetter 0 z [] σ (xrI rr) σ') (show [(0, .int v0)] = lv_args 0 [.int v0] by simp [lv_args, x_cat, x_catI, x_catJ])) ?_
  refine ev_iload_n (j := 0) (x := v0) dX12_isLetter_0 rfl rfl ?_
  refine ev_bipush (v := 97) dX12_isLetter_1 (by decide) ?_
  by_cases c_1 : v0 < 97
  · rw [if_pos c_1] at h
    refine ev_icmp_lt (x := v0) (y := 97) (tgt := 12) dX12_isLetter_3 (by decide) (fun _ => ?_) (fun q9 => absurd c_1 q9)
    exact ev_sub [0] rfl (ev_X12_isLetter_p12 hO hP h)
  · rw [if_neg c_1] at h
    refine ev_icmp_lt (x := v0) (y := 97) (tgt := 12) dX12_isLetter_3 (by decide) (fun q9 => absurd q9 c_1) (fun _ => ?_)
    refine ev_iload_n (j := 0) (x := v0) dX12_isLetter_6 rfl rfl ?_
    refine ev_bipush (v := 122) dX12_isLetter_7 (by decide) ?_
    by_cases c_2 : v0 ≤ 122
    · rw [if_pos c_2] at h
      refine ev_icmp_le (x := v0) (y := 122) (tgt := 30) dX12_isLetter_9 (by decide) (fun _ => ?_) (fun q9 => absurd c_2 q9)
      exact ev_sub [] rfl (ev_X12_isLetter_p30 hO hP h)
    · rw [if_neg c_2] at h
      refine ev_icmp_le (x := v0) (y := 122) (tgt := 30) dX12_isLetter_9 (by decide) (fun q9 => absurd q9 c_2) (fun _ => ?_)
      exact ev_sub [0] rfl (ev_X12_isLetter_p12 hO hP h)
set_option maxHeartbeats 4000000 in
set_option maxRecDepth 100000 in
theorem ev_X12_isDigit_p17 {l : Launch} {G : xG} (hO : x_OK l G) {P : xP} (hP : x_PG P G) {s0 : Int32} {σ σ' : xS} {rr : Int32 ⊕ String} (h : dm_X12_isDigit_p17 P s0 σ = some (rr, σ')) : Ev l G mX12_isDigit 17 [] [.int s0] σ (xrI rr) σ' := by
  unfold dm_X12_isDigit_p17 at h
  obtain ⟨c_1, h⟩ := x_chk_e h
  cases h
  exact ev_iret rfl (x_boolN c_1) dX12_isDigit_17
set_option maxHeartbeats 4000000 in
set_option maxRecDepth 100000 in
theorem ev_X12_isDigit_p16 {l : Launch} {G : xG} (hO : x_OK l G) {P : xP} (hP : x_PG P G) {σ σ' : xS} {rr : Int32 ⊕ String} (h : dm_X12_isDigit_p16 P σ = some (rr, σ')) : Ev l G mX12_isDigit 16 [] [] σ (xrI rr) σ' := by
  unfold dm_X12_isDigit_p16 at h
  refine ev_iconst (v := 0) dX12_isDigit_16 (by decide) ?_
  exact ev_sub [] rfl (ev_X12_isDigit_p17 hO hP h)
set_option maxHeartbeats 4000000 in
set_option maxRecDepth 100000 in
theorem ev_X12_isDigit {l : Launch} {G : xG} (hO : x_OK l G) {P : xP} (hP : x_PG P G) {v0 : Int32} {σ σ' : xS} {rr : Int32 ⊕ String} (h : dm_X12_isDigit P v0 σ = some (rr, σ')) : EvM l G mX12_isDigit [.int v0] σ (xrI rr) σ' := by
  unfold dm_X12_isDigit at h
  refine evM_of hO (by decide +kernel) (x_lenI (by simp [x_cat, x_catI, x_catJ, mX12_isDigit, xM.maxL])) ?_
  refine Eq.mp (congrArg (fun z => Ev l G mX12_isDigit 0 z [] σ (xrI rr) σ') (show [(0, .int v0)] = lv_args 0 [.int v0] by simp [lv_args, x_cat, x_catI, x_catJ])) ?_
  refine ev_iload_n (j := 0) (x := v0) dX12_isDigit_0 rfl rfl ?_
  refine ev_bipush (v := 48) dX12_isDigit_1 (by decide) ?_
  by_cases c_1 : v0 < 48
  · rw [if_pos c_1] at h
    refine ev_icmp_lt (x := v0) (y := 48) (tgt := 16) dX12_isDigit_3 (by decide) (fun _ => ?_) (fun q9 => absurd c_1 q9)
    exact ev_sub [] rfl (ev_X12_isDigit_p16 hO hP h)
  · rw [if_neg c_1] at h
    refine ev_icmp_lt (x := v0) (y := 48) (tgt := 16) dX12_isDigit_3 (by decide) (fun q9 => absurd q9 c_1) (fun _ => ?_)
    refine ev_iload_n (j := 0) (x := v0) dX12_isDigit_6 rfl rfl ?_
    refine ev_bipush (v := 57) dX12_isDigit_7 (by decide) ?_
    by_cases c_2 : 57 < v0
    · rw [if_pos c_2] at h
      refine ev_icmp_gt (x := v0) (y := 57) (tgt := 16) dX12_isDigit_9 (by decide) (fun _ => ?_) (fun q9 => absurd c_2 q9)
      exact ev_sub [] rfl (ev_X12_isDigit_p16 hO hP h)
    · rw [if_neg c_2] at h
      refine ev_icmp_gt (x := v0) (y := 57) (tgt := 16) dX12_isDigit_9 (by decide) (fun q9 => absurd q9 c_2) (fun _ => ?_)
      refine ev_iconst (v := 1) dX12_isDigit_12 (by decide) ?_
      refine ev_goto (tgt := 17) dX12_isDigit_13 (by decide) ?_
      exact ev_sub [] rfl (ev_X12_isDigit_p17 hO hP h)
set_option maxHeartbeats 4000000 in
set_option maxRecDepth 100000 in
theorem ev_X12_fail_p17 {l : Launch} {G : xG} (hO : x_OK l G) {P : xP} (hP : x_PG P G) {a0 : Nat} {s0 : Option Nat} {s1 : Int32} {σ σ' : xS} {rr : Unit ⊕ String} (h : dm_X12_fail_p17 P a0 s0 s1 σ = some (rr, σ')) : Ev l G mX12_fail 17 [] [.int s1, va_rf s0] σ (xrV rr) σ' := by
  unfold dm_X12_fail_p17 at h
  obtain ⟨a_1, ea_1, h⟩ := x_some_e h
  refine ev_at (st' := [.int s1, va_rf (some a_1)]) rfl (by rw [ea_1]) ?_
  obtain ⟨c_2, h⟩ := x_chk_e h
  obtain ⟨σ_3, eσ_3, h⟩ := x_let_e h
  refine ev_put (σ2 := σ_3) (C := RX12) (T := TX12) (k := 39) inX12 tyX12 tyX12_ok nmX12 (xE_12 c_2.1) rfl (by decide) wd_182 (Or.inl rfl) rfl rfl rfl rfl (Nat.le_of_ble_eq_true rfl) (hP.2.2.2.1 ▸ c_2.2) (by rw [eσ_3]; exact xP_12_39 _ c_2.1) (by rw [eσ_3]; exact xPut_I) dX12_fail_17 ?_
  cases h
  exact ev_vret rfl dX12_fail_20
set_option maxHeartbeats 4000000 in
set_option maxRecDepth 100000 in
theorem ev_X12_fail {l : Launch} {G : xG} (hO : x_OK l G) {P : xP} (hP : x_PG P G) {a0 : Nat} {v1 : Int32} {σ σ' : xS} {rr : Unit ⊕ String} (h : dm_X12_fail P a0 v1 σ = some (rr, σ')) : EvM l G mX12_fail [va_rf (some a0), .int v1] σ (xrV rr) σ' := by
  unfold dm_X12_fail at h
  refine evM_of hO (by decide +kernel) (x_lenI (by simp [x_cat, x_catI, x_catJ, mX12_fail, xM.maxL])) ?_
  refine Eq.mp (congrArg (fun z => Ev l G mX12_fail 0 z [] σ (xrV rr) σ') (show [(0, va_rf (some a0)), (1, .int v1)] = lv_args 0 [va_rf (some a0), .int v1] by simp [lv_args, x_cat, x_catI, x_catJ])) ?_
  refine ev_aload_n (j := 0) (x := (some a0)) dX12_fail_0 rfl rfl ?_
  refine ev_aload_n (j := 0) (x := (some a0)) dX12_fail_1 rfl rfl ?_
  obtain ⟨c_1, h⟩ := x_chk_e h
  refine ev_get (C := RX12) (T := TX12) (k := 39) inX12 (xE_12 c_1) rfl (by decide) wd_182 (Or.inl rfl) rfl dX12_fail_2 ?_
  refine ev_iconst (v := -1) dX12_fail_5 (by decide) ?_
  by_cases c_2 : (σ.I 1139 a0) = (-1)
  · rw [if_pos c_2] at h
    refine ev_icmp_ne (x := (σ.I 1139 a0)) (y := (-1)) (tgt := 13) dX12_fail_6 (by decide) (fun q9 => absurd c_2 q9) (fun _ => ?_)
    refine ev_iload_n (j := 1) (x := v1) dX12_fail_9 rfl rfl ?_
    refine ev_goto (tgt := 17) dX12_fail_10 (by decide) ?_
    exact ev_sub [] rfl (ev_X12_fail_p17 hO hP h)
  · rw [if_neg c_2] at h
    refine ev_icmp_ne (x := (σ.I 1139 a0)) (y := (-1)) (tgt := 13) dX12_fail_6 (by decide) (fun _ => ?_) (fun q9 => absurd q9 c_2)
    refine ev_aload_n (j := 0) (x := (some a0)) dX12_fail_13 rfl rfl ?_
    refine ev_get (C := RX12) (T := TX12) (k := 39) inX12 (xE_12 c_1) rfl (by decide) wd_182 (Or.inl rfl) rfl dX12_fail_14 ?_
    exact ev_sub [] rfl (ev_X12_fail_p17 hO hP h)
set_option maxHeartbeats 4000000 in
set_option maxRecDepth 100000 in
theorem ev_X12_next_L58 {l : Launch} {G : xG} (hO : x_OK l G) {P : xP} (hP : x_PG P G) {a0 : Nat} {k10 : Int32 → xS → xO Unit} (hk10 : ∀ {v1 : Int32} {σ σ' : xS} {rr : Unit ⊕ String}, k10 v1 σ = some (rr, σ') → Ev l G mX12_next 10 [(0, va_rf (some a0)), (1, .int v1)] [] σ (xrV rr) σ') : ∀ (n : Nat) {v1 : Int32} {σ σ' : xS} {rr : Unit ⊕ String}, dm_X12_next_L58 P k10 a0 n v1 σ = some (rr, σ') → Ev l G mX12_next 58 [(0, va_rf (some a0)), (1, .int v1)] [] σ (xrV rr) σ' := by
  intro n
  induction n with
  | zero => intro v1 σ σ' rr h; cases h
  | succ n ih =>
    intro v1 σ σ' rr h
    rw [dm_X12_next_L58] at h
    refine ev_aload_n (j := 0) (x := (some a0)) dX12_next_58 rfl rfl ?_
    obtain ⟨c_1, h⟩ := x_chk_e h
    refine ev_get (C := RX12) (T := TX12) (k := 34) inX12 (xE_12 c_1) rfl (by decide) wd_642 (Or.inl rfl) rfl dX12_next_59 ?_
    refine ev_aload_n (j := 0) (x := (some a0)) dX12_next_62 rfl rfl ?_
    refine ev_get (C := RX12) (T := TX12) (k := 5) inX12 (xE_12 c_1) rfl (by decide) wd_152 (Or.inl rfl) rfl dX12_next_63 ?_
    refine ev_aload_n (j := 0) (x := (some a0)) dX12_next_66 rfl rfl ?_
    refine ev_get (C := RX12) (T := TX12) (k := 40) inX12 (xE_12 c_1) rfl (by decide) wd_638 (Or.inl rfl) rfl dX12_next_67 ?_
    obtain ⟨a_2, ea_2, h⟩ := x_some_e h
    refine ev_at (st' := [.int (σ.I 1140 a0), va_rf (some a_2), .int (σ.I 1134 a0)]) rfl (by rw [ea_2]) ?_
    obtain ⟨c_3, h⟩ := x_chk_e h
    refine ev_iald_31 c_3.1 c_3.2 dX12_next_70 ?_
    by_cases c_4 : (σ.AI a_2 (Int32.toNatClampNeg (σ.I 1140 a0))) ≤ (σ.I 1134 a0)
    · rw [if_pos c_4] at h
      refine ev_icmp_ge (x := (σ.I 1134 a0)) (y := (σ.AI a_2 (Int32.toNatClampNeg (σ.I 1140 a0)))) (tgt := 10) dX12_next_71 (by decide) (fun _ => ?_) (fun q9 => absurd c_4 q9)
      exact ev_sub [0, 1] rfl (hk10 h)
    · rw [if_neg c_4] at h
      refine ev_icmp_ge (x := (σ.I 1134 a0)) (y := (σ.AI a_2 (Int32.toNatClampNeg (σ.I 1140 a0)))) (tgt := 10) dX12_next_71 (by decide) (fun q9 => absurd q9 c_4) (fun _ => ?_)
      refine ev_aload_n (j := 0) (x := (some a0)) dX12_next_74 rfl rfl ?_
      refine ev_aload_n (j := 0) (x := (some a0)) dX12_next_75 rfl rfl ?_
      refine ev_get (C := RX12) (T := TX12) (k := 34) inX12 (xE_12 c_1) rfl (by decide) wd_642 (Or.inl rfl) rfl dX12_next_76 ?_
      rcases x_bind_e h with ⟨v_5, σ_6, h_7, h⟩ | ⟨E_12, σ_6, h_7, h⟩
      · have z9 := x_call (M := mX12_next) (M' := mX12_sign) (pc := 79) (st := [.int (σ.I 1134 a0), va_rf (some a0)]) (rest := []) (av := [va_rf (some a0), .int (σ.I 1134 a0)]) (x_linkV (M := mX12_next) (M' := mX12_sign) (As := [.int (σ.I 1134 a0)]) (index := 128) (C := RX12) (T := TX12) (xE_12 c_1) rfl wd_644 wd_645 (wG_in (List.mem_append_left _ (List.mem_of_getElem? (i := 38) rfl)) rfl) xw_X12_sign rfl (by decide) rfl rfl dX12_next_79) (ev_X12_sign hO hP h_7) xw_X12_sign rfl wd_198 dX12_next_79 (by decide) (by decide) (by simp [x_cat, x_catI, x_catJ])
        refine x_callR z9 ?_
        refine ev_at (st' := [.int v_5]) rfl rfl ?_
        refine ev_bipush (v := 10) dX12_next_82 (by decide) ?_
        by_cases c_8 : v_5 = 10
        · rw [if_pos c_8] at h
          refine ev_icmp_eq (x := v_5) (y := 10) (tgt := 10) dX12_next_84 (by decide) (fun _ => ?_) (fun q9 => absurd c_8 q9)
          exact ev_sub [0, 1] rfl (hk10 h)
        · rw [if_neg c_8] at h
          refine ev_icmp_eq (x := v_5) (y := 10) (tgt := 10) dX12_next_84 (by decide) (fun q9 => absurd q9 c_8) (fun _ => ?_)
          refine ev_aload_n (j := 0) (x := (some a0)) dX12_next_87 rfl rfl ?_
          refine ev_dup dX12_next_88 (x_cat _) ?_
          obtain ⟨c_9, h⟩ := x_chk_e h
          refine ev_get (C := RX12) (T := TX12) (k := 34) inX12 (xE_12 c_9) rfl (by decide) wd_642 (Or.inl rfl) rfl dX12_next_89 ?_
          refine ev_iconst (v := 1) dX12_next_92 (by decide) ?_
          refine ev_iadd (x := (σ_6.I 1134 a0)) (y := 1) dX12_next_93 ?_
          obtain ⟨c_10, h⟩ := x_chk_e h
          obtain ⟨σ_11, eσ_11, h⟩ := x_let_e h
          refine ev_put (σ2 := σ_11) (C := RX12) (T := TX12) (k := 34) inX12 tyX12 tyX12_ok nmX12 (xE_12 c_10.1) rfl (by decide) wd_642 (Or.inl rfl) rfl rfl rfl rfl (Nat.le_of_ble_eq_true rfl) (hP.2.2.2.1 ▸ c_10.2) (by rw [eσ_11]; exact xP_12_34 _ c_10.1) (by rw [eσ_11]; exact xPut_I) dX12_next_94 ?_
          refine ev_goto (tgt := 58) dX12_next_97 (by decide) ?_
          exact ev_sub [0, 1] rfl (ih h)
      · have z9 := x_call (M := mX12_next) (M' := mX12_sign) (pc := 79) (st := [.int (σ.I 1134 a0), va_rf (some a0)]) (rest := []) (av := [va_rf (some a0), .int (σ.I 1134 a0)]) (x_linkV (M := mX12_next) (M' := mX12_sign) (As := [.int (σ.I 1134 a0)]) (index := 128) (C := RX12) (T := TX12) (xE_12 c_1) rfl wd_644 wd_645 (wG_in (List.mem_append_left _ (List.mem_of_getElem? (i := 38) rfl)) rfl) xw_X12_sign rfl (by decide) rfl rfl dX12_next_79) (ev_X12_sign hO hP h_7) xw_X12_sign rfl wd_198 dX12_next_79 (by decide) (by decide) (by simp [x_cat, x_catI, x_catJ])
        cases h
        exact x_callX z9 (evX_out rfl)
set_option maxHeartbeats 4000000 in
set_option maxRecDepth 100000 in
theorem ev_X12_next_p126 {l : Launch} {G : xG} (hO : x_OK l G) {P : xP} (hP : x_PG P G) {a0 : Nat} {k10 : Int32 → xS → xO Unit} (hk10 : ∀ {v1 : Int32} {σ σ' : xS} {rr : Unit ⊕ String}, k10 v1 σ = some (rr, σ') → Ev l G mX12_next 10 [(0, va_rf (some a0)), (1, .int v1)] [] σ (xrV rr) σ') {v1 : Int32} {σ σ' : xS} {rr : Unit ⊕ String} (h : dm_X12_next_p126 P k10 a0 v1 σ = some (rr, σ')) : Ev l G mX12_next 126 [(0, va_rf (some a0)), (1, .int v1)] [] σ (xrV rr) σ' := by
  unfold dm_X12_next_p126 at h
  refine ev_aload_n (j := 0) (x := (some a0)) dX12_next_126 rfl rfl ?_
  refine ev_dup dX12_next_127 (x_cat _) ?_
  obtain ⟨c_1, h⟩ := x_chk_e h
  refine ev_get (C := RX12) (T := TX12) (k := 34) inX12 (xE_12 c_1) rfl (by decide) wd_642 (Or.inl rfl) rfl dX12_next_128 ?_
  refine ev_iconst (v := 1) dX12_next_131 (by decide) ?_
  refine ev_iadd (x := (σ.I 1134 a0)) (y := 1) dX12_next_132 ?_
  obtain ⟨c_2, h⟩ := x_chk_e h
  obtain ⟨σ_3, eσ_3, h⟩ := x_let_e h
  refine ev_put (σ2 := σ_3) (C := RX12) (T := TX12) (k := 34) inX12 tyX12 tyX12_ok nmX12 (xE_12 c_2.1) rfl (by decide) wd_642 (Or.inl rfl) rfl rfl rfl rfl (Nat.le_of_ble_eq_true rfl) (hP.2.2.2.1 ▸ c_2.2) (by rw [eσ_3]; exact xP_12_34 _ c_2.1) (by rw [eσ_3]; exact xPut_I) dX12_next_133 ?_
  refine ev_goto (tgt := 10) dX12_next_136 (by decide) ?_
  exact ev_sub [0, 1] rfl (hk10 h)
set_option maxHeartbeats 4000000 in
set_option maxRecDepth 100000 in
theorem ev_X12_next_p100 {l : Launch} {G : xG} (hO : x_OK l G) {P : xP} (hP : x_PG P G) {a0 : Nat} {k10 : Int32 → xS → xO Unit} (hk10 : ∀ {v1 : Int32} {σ σ' : xS} {rr : Unit ⊕ String}, k10 v1 σ = some (rr, σ') → Ev l G mX12_next 10 [(0, va_rf (some a0)), (1, .int v1)] [] σ (xrV rr) σ') {v1 : Int32} {σ σ' : xS} {rr : Unit ⊕ String} (h : dm_X12_next_p100 P k10 a0 v1 σ = some (rr, σ')) : Ev l G mX12_next 100 [(0, va_rf (some a0)), (1, .int v1)] [] σ (xrV rr) σ' := by
  unfold dm_X12_next_p100 at h
  refine ev_aload_n (j := 0) (x := (some a0)) dX12_next_100 rfl rfl ?_
  refine ev_aload_n (j := 0) (x := (some a0)) dX12_next_101 rfl rfl ?_
  obtain ⟨c_1, h⟩ := x_chk_e h
  refine ev_get (C := RX12) (T := TX12) (k := 34) inX12 (xE_12 c_1) rfl (by decide) wd_642 (Or.inl rfl) rfl dX12_next_102 ?_
  rcases x_bind_e h with ⟨v_2, σ_3, h_4, h⟩ | ⟨E_12, σ_3, h_4, h⟩
  · have z9 := x_call (M := mX12_next) (M' := mX12_sign) (pc := 105) (st := [.int (σ.I 1134 a0), va_rf (some a0)]) (rest := []) (av := [va_rf (some a0), .int (σ.I 1134 a0)]) (x_linkV (M := mX12_next) (M' := mX12_sign) (As := [.int (σ.I 1134 a0)]) (index := 128) (C := RX12) (T := TX12) (xE_12 c_1) rfl wd_644 wd_645 (wG_in (List.mem_append_left _ (List.mem_of_getElem? (i := 38) rfl)) rfl) xw_X12_sign rfl (by decide) rfl rfl dX12_next_105) (ev_X12_sign hO hP h_4) xw_X12_sign rfl wd_198 dX12_next_105 (by decide) (by decide) (by simp [x_cat, x_catI, x_catJ])
    refine x_callR z9 ?_
    refine ev_at (st' := [.int v_2]) rfl rfl ?_
    refine ev_bipush (v := 32) dX12_next_108 (by decide) ?_
    by_cases c_5 : v_2 = 32
    · rw [if_pos c_5] at h
      refine ev_icmp_eq (x := v_2) (y := 32) (tgt := 126) dX12_next_110 (by decide) (fun _ => ?_) (fun q9 => absurd c_5 q9)
      exact ev_sub [0, 1] rfl (ev_X12_next_p126 hO hP hk10 h)
    · rw [if_neg c_5] at h
      refine ev_icmp_eq (x := v_2) (y := 32) (tgt := 126) dX12_next_110 (by decide) (fun q9 => absurd q9 c_5) (fun _ => ?_)
      refine ev_aload_n (j := 0) (x := (some a0)) dX12_next_113 rfl rfl ?_
      refine ev_aload_n (j := 0) (x := (some a0)) dX12_next_114 rfl rfl ?_
      obtain ⟨c_6, h⟩ := x_chk_e h
      refine ev_get (C := RX12) (T := TX12) (k := 34) inX12 (xE_12 c_6) rfl (by decide) wd_642 (Or.inl rfl) rfl dX12_next_115 ?_
      rcases x_bind_e h with ⟨v_7, σ_8, h_9, h⟩ | ⟨E_11, σ_8, h_9, h⟩
      · have z9 := x_call (M := mX12_next) (M' := mX12_sign) (pc := 118) (st := [.int (σ_3.I 1134 a0), va_rf (some a0)]) (rest := []) (av := [va_rf (some a0), .int (σ_3.I 1134 a0)]) (x_linkV (M := mX12_next) (M' := mX12_sign) (As := [.int (σ_3.I 1134 a0)]) (index := 128) (C := RX12) (T := TX12) (xE_12 c_6) rfl wd_644 wd_645 (wG_in (List.mem_append_left _ (List.mem_of_getElem? (i := 38) rfl)) rfl) xw_X12_sign rfl (by decide) rfl rfl dX12_next_118) (ev_X12_sign hO hP h_9) xw_X12_sign rfl wd_198 dX12_next_118 (by decide) (by decide) (by simp [x_cat, x_catI, x_catJ])
        refine x_callR z9 ?_
        refine ev_at (st' := [.int v_7]) rfl rfl ?_
        refine ev_bipush (v := 10) dX12_next_121 (by decide) ?_
        by_cases c_10 : v_7 = 10
        · rw [if_pos c_10] at h
          refine ev_icmp_ne (x := v_7) (y := 10) (tgt := 139) dX12_next_123 (by decide) (fun q9 => absurd c_10 q9) (fun _ => ?_)
          exact ev_sub [0, 1] rfl (ev_X12_next_p126 hO hP hk10 h)
        · rw [if_neg c_10] at h
          refine ev_icmp_ne (x := v_7) (y := 10) (tgt := 139) dX12_next_123 (by decide) (fun _ => ?_) (fun q9 => absurd q9 c_10)
          refine ev_iconst (v := 0) dX12_next_139 (by decide) ?_
          refine ev_istore_n (i := 1) (lv' := [(1, .int 0), (0, va_rf (some a0))]) dX12_next_140 rfl (by decide) (by simp [x_cat, x_catI, x_catJ]) ?_
          refine ev_goto (tgt := 10) dX12_next_141 (by decide) ?_
          exact ev_sub [1, 0] rfl (hk10 h)
      · have z9 := x_call (M := mX12_next) (M' := mX12_sign) (pc := 118) (st := [.int (σ_3.I 1134 a0), va_rf (some a0)]) (rest := []) (av := [va_rf (some a0), .int (σ_3.I 1134 a0)]) (x_linkV (M := mX12_next) (M' := mX12_sign) (As := [.int (σ_3.I 1134 a0)]) (index := 128) (C := RX12) (T := TX12) (xE_12 c_6) rfl wd_644 wd_645 (wG_in (List.mem_append_left _ (List.mem_of_getElem? (i := 38) rfl)) rfl) xw_X12_sign rfl (by decide) rfl rfl dX12_next_118) (ev_X12_sign hO hP h_9) xw_X12_sign rfl wd_198 dX12_next_118 (by decide) (by decide) (by simp [x_cat, x_catI, x_catJ])
        cases h
        exact x_callX z9 (evX_out rfl)
  · have z9 := x_call (M := mX12_next) (M' := mX12_sign) (pc := 105) (st := [.int (σ.I 1134 a0), va_rf (some a0)]) (rest := []) (av := [va_rf (some a0), .int (σ.I 1134 a0)]) (x_linkV (M := mX12_next) (M' := mX12_sign) (As := [.int (σ.I 1134 a0)]) (index := 128) (C := RX12) (T := TX12) (xE_12 c_1) rfl wd_644 wd_645 (wG_in (List.mem_append_left _ (List.mem_of_getElem? (i := 38) rfl)) rfl) xw_X12_sign rfl (by decide) rfl rfl dX12_next_105) (ev_X12_sign hO hP h_4) xw_X12_sign rfl wd_198 dX12_next_105 (by decide) (by decide) (by simp [x_cat, x_catI, x_catJ])
    cases h
    exact x_callX z9 (evX_out rfl)
set_option maxHeartbeats 4000000 in
set_option maxRecDepth 100000 in
theorem ev_X12_next_p249 {l : Launch} {G : xG} (hO : x_OK l G) {P : xP} (hP : x_PG P G) {a0 : Nat} {k221 : xS → xO Unit} (hk221 : ∀ {σ σ' : xS} {rr : Unit ⊕ String}, k221 σ = some (rr, σ') → Ev l G mX12_next 221 [(0, va_rf (some a0))] [] σ (xrV rr) σ') {σ σ' : xS} {rr : Unit ⊕ String} (h : dm_X12_next_p249 P k221 a0 σ = some (rr, σ')) : Ev l G mX12_next 249 [(0, va_rf (some a0))] [] σ (xrV rr) σ' := by
  unfold dm_X12_next_p249 at h
  refine ev_aload_n (j := 0) (x := (some a0)) dX12_next_249 rfl rfl ?_
  refine ev_dup dX12_next_250 (x_cat _) ?_
  obtain ⟨c_1, h⟩ := x_chk_e h
  refine ev_get (C := RX12) (T := TX12) (k := 34) inX12 (xE_12 c_1) rfl (by decide) wd_642 (Or.inl rfl) rfl dX12_next_251 ?_
  refine ev_iconst (v := 1) dX12_next_254 (by decide) ?_
  refine ev_iadd (x := (σ.I 1134 a0)) (y := 1) dX12_next_255 ?_
  obtain ⟨c_2, h⟩ := x_chk_e h
  obtain ⟨σ_3, eσ_3, h⟩ := x_let_e h
  refine ev_put (σ2 := σ_3) (C := RX12) (T := TX12) (k := 34) inX12 tyX12 tyX12_ok nmX12 (xE_12 c_2.1) rfl (by decide) wd_642 (Or.inl rfl) rfl rfl rfl rfl (Nat.le_of_ble_eq_true rfl) (hP.2.2.2.1 ▸ c_2.2) (by rw [eσ_3]; exact xP_12_34 _ c_2.1) (by rw [eσ_3]; exact xPut_I) dX12_next_256 ?_
  refine ev_goto (tgt := 221) dX12_next_259 (by decide) ?_
  exact ev_sub [0] rfl (hk221 h)
set_option maxHeartbeats 4000000 in
set_option maxRecDepth 100000 in
theorem ev_X12_next_p419 {l : Launch} {G : xG} (hO : x_OK l G) {P : xP} (hP : x_PG P G) {a0 : Nat} {σ σ' : xS} {rr : Unit ⊕ String} (h : dm_X12_next_p419 P a0 σ = some (rr, σ')) : Ev l G mX12_next 419 [] [] σ (xrV rr) σ' := by
  unfold dm_X12_next_p419 at h
  cases h
  exact ev_vret rfl dX12_next_419
set_option maxHeartbeats 4000000 in
set_option maxRecDepth 100000 in
theorem ev_X12_next_p411 {l : Launch} {G : xG} (hO : x_OK l G) {P : xP} (hP : x_PG P G) {a0 : Nat} {σ σ' : xS} {rr : Unit ⊕ String} (h : dm_X12_next_p411 P a0 σ = some (rr, σ')) : Ev l G mX12_next 411 [(0, va_rf (some a0))] [] σ (xrV rr) σ' := by
  unfold dm_X12_next_p411 at h
  refine ev_aload_n (j := 0) (x := (some a0)) dX12_next_411 rfl rfl ?_
  refine ev_aload_n (j := 0) (x := (some a0)) dX12_next_412 rfl rfl ?_
  obtain ⟨c_1, h⟩ := x_chk_e h
  refine ev_get (C := RX12) (T := TX12) (k := 36) inX12 (xE_12 c_1) rfl (by decide) wd_646 (Or.inl rfl) rfl dX12_next_413 ?_
  rcases x_bind_e h with ⟨v_2, σ_3, h_4, h⟩ | ⟨E_5, σ_3, h_4, h⟩
  · have z9 := x_call (M := mX12_next) (M' := mX12_fail) (pc := 416) (st := [.int (σ.I 1136 a0), va_rf (some a0)]) (rest := []) (av := [va_rf (some a0), .int (σ.I 1136 a0)]) (x_linkV (M := mX12_next) (M' := mX12_fail) (As := [.int (σ.I 1136 a0)]) (index := 150) (C := RX12) (T := TX12) (xE_12 c_1) rfl wd_657 wd_658 (wG_in (List.mem_append_left _ (List.mem_of_getElem? (i := 39) rfl)) rfl) xw_X12_fail rfl (by decide) rfl rfl dX12_next_416) (ev_X12_fail hO hP h_4) xw_X12_fail rfl wd_198 dX12_next_416 (by decide) (by decide) (by simp [x_cat, x_catI, x_catJ])
    refine x_callR z9 ?_
    refine ev_at (st' := []) rfl rfl ?_
    exact ev_sub [] rfl (ev_X12_next_p419 hO hP h)
  · have z9 := x_call (M := mX12_next) (M' := mX12_fail) (pc := 416) (st := [.int (σ.I 1136 a0), va_rf (some a0)]) (rest := []) (av := [va_rf (some a0), .int (σ.I 1136 a0)]) (x_linkV (M := mX12_next) (M' := mX12_fail) (As := [.int (σ.I 1136 a0)]) (index := 150) (C := RX12) (T := TX12) (xE_12 c_1) rfl wd_657 wd_658 (wG_in (List.mem_append_left _ (List.mem_of_getElem? (i := 39) rfl)) rfl) xw_X12_fail rfl (by decide) rfl rfl dX12_next_416) (ev_X12_fail hO hP h_4) xw_X12_fail rfl wd_198 dX12_next_416 (by decide) (by decide) (by simp [x_cat, x_catI, x_catJ])
    cases h
    exact x_callX z9 (evX_out rfl)
set_option maxHeartbeats 4000000 in
set_option maxRecDepth 100000 in
theorem ev_X12_next_p390 {l : Launch} {G : xG} (hO : x_OK l G) {P : xP} (hP : x_PG P G) {a0 : Nat} {σ σ' : xS} {rr : Unit ⊕ String} (h : dm_X12_next_p390 P a0 σ = some (rr, σ')) : Ev l G mX12_next 390 [(0, va_rf (some a0))] [] σ (xrV rr) σ' := by
  unfold dm_X12_next_p390 at h
  refine ev_aload_n (j := 0) (x := (some a0)) dX12_next_390 rfl rfl ?_
  obtain ⟨c_1, h⟩ := x_chk_e h
  refine ev_get (C := RX12) (T := TX12) (k := 35) inX12 (xE_12 c_1) rfl (by decide) wd_653 (Or.inl rfl) rfl dX12_next_391 ?_
  refine ev_iconst (v := 2) dX12_next_394 (by decide) ?_
  by_cases c_2 : (σ.I 1135 a0) = 2
  · rw [if_pos c_2] at h
    refine ev_icmp_ne (x := (σ.I 1135 a0)) (y := 2) (tgt := 419) dX12_next_395 (by decide) (fun q9 => absurd c_2 q9) (fun _ => ?_)
    refine ev_aload_n (j := 0) (x := (some a0)) dX12_next_398 rfl rfl ?_
    refine ev_get (C := RX12) (T := TX12) (k := 37) inX12 (xE_12 c_1) rfl (by decide) wd_655 (Or.inl rfl) rfl dX12_next_399 ?_
    refine ev_aload_n (j := 0) (x := (some a0)) dX12_next_402 rfl rfl ?_
    refine ev_get (C := RX12) (T := TX12) (k := 36) inX12 (xE_12 c_1) rfl (by decide) wd_646 (Or.inl rfl) rfl dX12_next_403 ?_
    refine ev_isub (x := (σ.I 1137 a0)) (y := (σ.I 1136 a0)) dX12_next_406 ?_
    refine ev_iconst (v := 2) dX12_next_407 (by decide) ?_
    by_cases c_3 : ((σ.I 1137 a0) - (σ.I 1136 a0)) ≤ 2
    · rw [if_pos c_3] at h
      refine ev_icmp_le (x := ((σ.I 1137 a0) - (σ.I 1136 a0))) (y := 2) (tgt := 419) dX12_next_408 (by decide) (fun _ => ?_) (fun q9 => absurd c_3 q9)
      exact ev_sub [] rfl (ev_X12_next_p419 hO hP h)
    · rw [if_neg c_3] at h
      refine ev_icmp_le (x := ((σ.I 1137 a0) - (σ.I 1136 a0))) (y := 2) (tgt := 419) dX12_next_408 (by decide) (fun q9 => absurd q9 c_3) (fun _ => ?_)
      exact ev_sub [0] rfl (ev_X12_next_p411 hO hP h)
  · rw [if_neg c_2] at h
    refine ev_icmp_ne (x := (σ.I 1135 a0)) (y := 2) (tgt := 419) dX12_next_395 (by decide) (fun _ => ?_) (fun q9 => absurd q9 c_2)
    exact ev_sub [] rfl (ev_X12_next_p419 hO hP h)
set_option maxHeartbeats 4000000 in
set_option maxRecDepth 100000 in
theorem ev_X12_next_p360 {l : Launch} {G : xG} (hO : x_OK l G) {P : xP} (hP : x_PG P G) {a0 : Nat} {σ σ' : xS} {rr : Unit ⊕ String} (h : dm_X12_next_p360 P a0 σ = some (rr, σ')) : Ev l G mX12_next 360 [(0, va_rf (some a0))] [] σ (xrV rr) σ' := by
  unfold dm_X12_next_p360 at h
  refine ev_aload_n (j := 0) (x := (some a0)) dX12_next_360 rfl rfl ?_
  refine ev_aload_n (j := 0) (x := (some a0)) dX12_next_361 rfl rfl ?_
  obtain ⟨c_1, h⟩ := x_chk_e h
  refine ev_get (C := RX12) (T := TX12) (k := 34) inX12 (xE_12 c_1) rfl (by decide) wd_642 (Or.inl rfl) rfl dX12_next_362 ?_
  obtain ⟨c_2, h⟩ := x_chk_e h
  obtain ⟨σ_3, eσ_3, h⟩ := x_let_e h
  refine ev_put (σ2 := σ_3) (C := RX12) (T := TX12) (k := 37) inX12 tyX12 tyX12_ok nmX12 (xE_12 c_2.1) rfl (by decide) wd_655 (Or.inl rfl) rfl rfl rfl rfl (Nat.le_of_ble_eq_true rfl) (hP.2.2.2.1 ▸ c_2.2) (by rw [eσ_3]; exact xP_12_37 _ c_2.1) (by rw [eσ_3]; exact xPut_I) dX12_next_365 ?_
  refine ev_aload_n (j := 0) (x := (some a0)) dX12_next_368 rfl rfl ?_
  obtain ⟨c_4, h⟩ := x_chk_e h
  refine ev_get (C := RX12) (T := TX12) (k := 35) inX12 (xE_12 c_4) rfl (by decide) wd_653 (Or.inl rfl) rfl dX12_next_369 ?_
  refine ev_iconst (v := 1) dX12_next_372 (by decide) ?_
  by_cases c_5 : (σ_3.I 1135 a0) = 1
  · rw [if_pos c_5] at h
    refine ev_icmp_ne (x := (σ_3.I 1135 a0)) (y := 1) (tgt := 390) dX12_next_373 (by decide) (fun q9 => absurd c_5 q9) (fun _ => ?_)
    refine ev_aload_n (j := 0) (x := (some a0)) dX12_next_376 rfl rfl ?_
    refine ev_get (C := RX12) (T := TX12) (k := 37) inX12 (xE_12 c_4) rfl (by decide) wd_655 (Or.inl rfl) rfl dX12_next_377 ?_
    refine ev_aload_n (j := 0) (x := (some a0)) dX12_next_380 rfl rfl ?_
    refine ev_get (C := RX12) (T := TX12) (k := 36) inX12 (xE_12 c_4) rfl (by decide) wd_646 (Or.inl rfl) rfl dX12_next_381 ?_
    refine ev_isub (x := (σ_3.I 1137 a0)) (y := (σ_3.I 1136 a0)) dX12_next_384 ?_
    refine ev_bipush (v := 8) dX12_next_385 (by decide) ?_
    by_cases c_6 : 8 < ((σ_3.I 1137 a0) - (σ_3.I 1136 a0))
    · rw [if_pos c_6] at h
      refine ev_icmp_gt (x := ((σ_3.I 1137 a0) - (σ_3.I 1136 a0))) (y := 8) (tgt := 411) dX12_next_387 (by decide) (fun _ => ?_) (fun q9 => absurd c_6 q9)
      exact ev_sub [0] rfl (ev_X12_next_p411 hO hP h)
    · rw [if_neg c_6] at h
      refine ev_icmp_gt (x := ((σ_3.I 1137 a0) - (σ_3.I 1136 a0))) (y := 8) (tgt := 411) dX12_next_387 (by decide) (fun q9 => absurd q9 c_6) (fun _ => ?_)
      exact ev_sub [0] rfl (ev_X12_next_p390 hO hP h)
  · rw [if_neg c_5] at h
    refine ev_icmp_ne (x := (σ_3.I 1135 a0)) (y := 1) (tgt := 390) dX12_next_373 (by decide) (fun _ => ?_) (fun q9 => absurd q9 c_5)
    exact ev_sub [0] rfl (ev_X12_next_p390 hO hP h)
set_option maxHeartbeats 4000000 in
set_option maxRecDepth 100000 in
theorem ev_X12_next_L221 {l : Launch} {G : xG} (hO : x_OK l G) {P : xP} (hP : x_PG P G) {a0 : Nat} : ∀ (n : Nat) {σ σ' : xS} {rr : Unit ⊕ String}, dm_X12_next_L221 P a0 n σ = some (rr, σ') → Ev l G mX12_next 221 [(0, va_rf (some a0))] [] σ (xrV rr) σ' := by
  intro n
  induction n with
  | zero => intro σ σ' rr h; cases h
  | succ n ih =>
    intro σ σ' rr h
    rw [dm_X12_next_L221] at h
    refine ev_aload_n (j := 0) (x := (some a0)) dX12_next_221 rfl rfl ?_
    refine ev_aload_n (j := 0) (x := (some a0)) dX12_next_222 rfl rfl ?_
    obtain ⟨c_1, h⟩ := x_chk_e h
    refine ev_get (C := RX12) (T := TX12) (k := 34) inX12 (xE_12 c_1) rfl (by decide) wd_642 (Or.inl rfl) rfl dX12_next_223 ?_
    rcases x_bind_e h with ⟨v_2, σ_3, h_4, h⟩ | ⟨E_20, σ_3, h_4, h⟩
    · have z9 := x_call (M := mX12_next) (M' := mX12_sign) (pc := 226) (st := [.int (σ.I 1134 a0), va_rf (some a0)]) (rest := []) (av := [va_rf (some a0), .int (σ.I 1134 a0)]) (x_linkV (M := mX12_next) (M' := mX12_sign) (As := [.int (σ.I 1134 a0)]) (index := 128) (C := RX12) (T := TX12) (xE_12 c_1) rfl wd_644 wd_645 (wG_in (List.mem_append_left _ (List.mem_of_getElem? (i := 38) rfl)) rfl) xw_X12_sign rfl (by decide) rfl rfl dX12_next_226) (ev_X12_sign hO hP h_4) xw_X12_sign rfl wd_198 dX12_next_226 (by decide) (by decide) (by simp [x_cat, x_catI, x_catJ])
      refine x_callR z9 ?_
      refine ev_at (st' := [.int v_2]) rfl rfl ?_
      rcases x_bind_e h with ⟨v_5, σ_6, h_7, h⟩ | ⟨E_19, σ_6, h_7, h⟩
      · have z9 := x_call (M := mX12_next) (M' := mX12_isLetter) (pc := 229) (st := [.int v_2]) (rest := []) (av := [.int v_2]) (x_linkS (M := mX12_next) (M' := mX12_isLetter) (As := [.int v_2]) (index := 135) wd_648 wd_649 wd_198 xw_X12_isLetter rfl ⟨_, _, _, Or.inl wd_647⟩ (by decide) rfl rfl dX12_next_229) (ev_X12_isLetter hO hP h_7) xw_X12_isLetter rfl wd_198 dX12_next_229 (by decide) (by decide) (by simp [x_cat, x_catI, x_catJ])
        refine x_callR z9 ?_
        refine ev_at (st' := [.int v_5]) rfl rfl ?_
        by_cases c_8 : v_5 = 0
        · rw [if_pos c_8] at h
          refine ev_if_ne (x := v_5) (tgt := 249) dX12_next_232 (by decide) (fun q9 => absurd c_8 q9) (fun _ => ?_)
          refine ev_aload_n (j := 0) (x := (some a0)) dX12_next_235 rfl rfl ?_
          refine ev_aload_n (j := 0) (x := (some a0)) dX12_next_236 rfl rfl ?_
          obtain ⟨c_9, h⟩ := x_chk_e h
          refine ev_get (C := RX12) (T := TX12) (k := 34) inX12 (xE_12 c_9) rfl (by decide) wd_642 (Or.inl rfl) rfl dX12_next_237 ?_
          rcases x_bind_e h with ⟨v_10, σ_11, h_12, h⟩ | ⟨E_18, σ_11, h_12, h⟩
          · have z9 := x_call (M := mX12_next) (M' := mX12_sign) (pc := 240) (st := [.int (σ_6.I 1134 a0), va_rf (some a0)]) (rest := []) (av := [va_rf (some a0), .int (σ_6.I 1134 a0)]) (x_linkV (M := mX12_next) (M' := mX12_sign) (As := [.int (σ_6.I 1134 a0)]) (index := 128) (C := RX12) (T := TX12) (xE_12 c_9) rfl wd_644 wd_645 (wG_in (List.mem_append_left _ (List.mem_of_getElem? (i := 38) rfl)) rfl) xw_X12_sign rfl (by decide) rfl rfl dX12_next_240) (ev_X12_sign hO hP h_12) xw_X12_sign rfl wd_198 dX12_next_240 (by decide) (by decide) (by simp [x_cat, x_catI, x_catJ])
            refine x_callR z9 ?_
            refine ev_at (st' := [.int v_10]) rfl rfl ?_
            rcases x_bind_e h with ⟨v_13, σ_14, h_15, h⟩ | ⟨E_17, σ_14, h_15, h⟩
            · have z9 := x_call (M := mX12_next) (M' := mX12_isDigit) (pc := 243) (st := [.int v_10]) (rest := []) (av := [.int v_10]) (x_linkS (M := mX12_next) (M' := mX12_isDigit) (As := [.int v_10]) (index := 138) wd_651 wd_652 wd_198 xw_X12_isDigit rfl ⟨_, _, _, Or.inl wd_650⟩ (by decide) rfl rfl dX12_next_243) (ev_X12_isDigit hO hP h_15) xw_X12_isDigit rfl wd_198 dX12_next_243 (by decide) (by decide) (by simp [x_cat, x_catI, x_catJ])
              refine x_callR z9 ?_
              refine ev_at (st' := [.int v_13]) rfl rfl ?_
              by_cases c_16 : v_13 = 0
              · rw [if_pos c_16] at h
                refine ev_if_eq (x := v_13) (tgt := 360) dX12_next_246 (by decide) (fun _ => ?_) (fun q9 => absurd c_16 q9)
                exact ev_sub [0] rfl (ev_X12_next_p360 hO hP h)
              · rw [if_neg c_16] at h
                refine ev_if_eq (x := v_13) (tgt := 360) dX12_next_246 (by decide) (fun q9 => absurd q9 c_16) (fun _ => ?_)
                exact ev_sub [0] rfl (ev_X12_next_p249 hO hP ih h)
            · have z9 := x_call (M := mX12_next) (M' := mX12_isDigit) (pc := 243) (st := [.int v_10]) (rest := []) (av := [.int v_10]) (x_linkS (M := mX12_next) (M' := mX12_isDigit) (As := [.int v_10]) (index := 138) wd_651 wd_652 wd_198 xw_X12_isDigit rfl ⟨_, _, _, Or.inl wd_650⟩ (by decide) rfl rfl dX12_next_243) (ev_X12_isDigit hO hP h_15) xw_X12_isDigit rfl wd_198 dX12_next_243 (by decide) (by decide) (by simp [x_cat, x_catI, x_catJ])
              cases h
              exact x_callX z9 (evX_out rfl)
          · have z9 := x_call (M := mX12_next) (M' := mX12_sign) (pc := 240) (st := [.int (σ_6.I 1134 a0), va_rf (some a0)]) (rest := []) (av := [va_rf (some a0), .int (σ_6.I 1134 a0)]) (x_linkV (M := mX12_next) (M' := mX12_sign) (As := [.int (σ_6.I 1134 a0)]) (index := 128) (C := RX12) (T := TX12) (xE_12 c_9) rfl wd_644 wd_645 (wG_in (List.mem_append_left _ (List.mem_of_getElem? (i := 38) rfl)) rfl) xw_X12_sign rfl (by decide) rfl rfl dX12_next_240) (ev_X12_sign hO hP h_12) xw_X12_sign rfl wd_198 dX12_next_240 (by decide) (by decide) (by simp [x_cat, x_catI, x_catJ])
            cases h
            exact x_callX z9 (evX_out rfl)
        · rw [if_neg c_8] at h
          refine ev_if_ne (x := v_5) (tgt := 249) dX12_next_232 (by decide) (fun _ => ?_) (fun q9 => absurd q9 c_8)
          exact ev_sub [0] rfl (ev_X12_next_p249 hO hP ih h)
      · have z9 := x_call (M := mX12_next) (M' := mX12_isLetter) (pc := 229) (st := [.int v_2]) (rest := []) (av := [.int v_2]) (x_linkS (M := mX12_next) (M' := mX12_isLetter) (As := [.int v_2]) (index := 135) wd_648 wd_649 wd_198 xw_X12_isLetter rfl ⟨_, _, _, Or.inl wd_647⟩ (by decide) rfl rfl dX12_next_229) (ev_X12_isLetter hO hP h_7) xw_X12_isLetter rfl wd_198 dX12_next_229 (by decide) (by decide) (by simp [x_cat, x_catI, x_catJ])
        cases h
        exact x_callX z9 (evX_out rfl)
    · have z9 := x_call (M := mX12_next) (M' := mX12_sign) (pc := 226) (st := [.int (σ.I 1134 a0), va_rf (some a0)]) (rest := []) (av := [va_rf (some a0), .int (σ.I 1134 a0)]) (x_linkV (M := mX12_next) (M' := mX12_sign) (As := [.int (σ.I 1134 a0)]) (index := 128) (C := RX12) (T := TX12) (xE_12 c_1) rfl wd_644 wd_645 (wG_in (List.mem_append_left _ (List.mem_of_getElem? (i := 38) rfl)) rfl) xw_X12_sign rfl (by decide) rfl rfl dX12_next_226) (ev_X12_sign hO hP h_4) xw_X12_sign rfl wd_198 dX12_next_226 (by decide) (by decide) (by simp [x_cat, x_catI, x_catJ])
      cases h
      exact x_callX z9 (evX_out rfl)
set_option maxHeartbeats 4000000 in
set_option maxRecDepth 100000 in
theorem ev_X12_next_p326 {l : Launch} {G : xG} (hO : x_OK l G) {P : xP} (hP : x_PG P G) {a0 : Nat} {k275 : xS → xO Unit} (hk275 : ∀ {σ σ' : xS} {rr : Unit ⊕ String}, k275 σ = some (rr, σ') → Ev l G mX12_next 275 [(0, va_rf (some a0))] [] σ (xrV rr) σ') {s0 : Option Nat} {s1 : Int32} {σ σ' : xS} {rr : Unit ⊕ String} (h : dm_X12_next_p326 P k275 a0 s0 s1 σ = some (rr, σ')) : Ev l G mX12_next 326 [(0, va_rf (some a0))] [.int s1, va_rf s0] σ (xrV rr) σ' := by
  unfold dm_X12_next_p326 at h
  obtain ⟨a_1, ea_1, h⟩ := x_some_e h
  refine ev_at (st' := [.int s1, va_rf (some a_1)]) rfl (by rw [ea_1]) ?_
  obtain ⟨c_2, h⟩ := x_chk_e h
  obtain ⟨σ_3, eσ_3, h⟩ := x_let_e h
  refine ev_put (σ2 := σ_3) (C := RX12) (T := TX12) (k := 38) inX12 tyX12 tyX12_ok nmX12 (xE_12 c_2.1) rfl (by decide) wd_654 (Or.inl rfl) rfl rfl rfl rfl (Nat.le_of_ble_eq_true rfl) (hP.2.2.2.1 ▸ c_2.2) (by rw [eσ_3]; exact xP_12_38 _ c_2.1) (by rw [eσ_3]; exact xPut_I) dX12_next_326 ?_
  refine ev_aload_n (j := 0) (x := (some a0)) dX12_next_329 rfl rfl ?_
  refine ev_dup dX12_next_330 (x_cat _) ?_
  obtain ⟨c_4, h⟩ := x_chk_e h
  refine ev_get (C := RX12) (T := TX12) (k := 34) inX12 (xE_12 c_4) rfl (by decide) wd_642 (Or.inl rfl) rfl dX12_next_331 ?_
  refine ev_iconst (v := 1) dX12_next_334 (by decide) ?_
  refine ev_iadd (x := (σ_3.I 1134 a0)) (y := 1) dX12_next_335 ?_
  obtain ⟨c_5, h⟩ := x_chk_e h
  obtain ⟨σ_6, eσ_6, h⟩ := x_let_e h
  refine ev_put (σ2 := σ_6) (C := RX12) (T := TX12) (k := 34) inX12 tyX12 tyX12_ok nmX12 (xE_12 c_5.1) rfl (by decide) wd_642 (Or.inl rfl) rfl rfl rfl rfl (Nat.le_of_ble_eq_true rfl) (hP.2.2.2.1 ▸ c_5.2) (by rw [eσ_6]; exact xP_12_34 _ c_5.1) (by rw [eσ_6]; exact xPut_I) dX12_next_336 ?_
  refine ev_goto (tgt := 275) dX12_next_339 (by decide) ?_
  exact ev_sub [0] rfl (hk275 h)
set_option maxHeartbeats 4000000 in
set_option maxRecDepth 100000 in
theorem ev_X12_next_L275 {l : Launch} {G : xG} (hO : x_OK l G) {P : xP} (hP : x_PG P G) {a0 : Nat} : ∀ (n : Nat) {σ σ' : xS} {rr : Unit ⊕ String}, dm_X12_next_L275 P a0 n σ = some (rr, σ') → Ev l G mX12_next 275 [(0, va_rf (some a0))] [] σ (xrV rr) σ' := by
  intro n
  induction n with
  | zero => intro σ σ' rr h; cases h
  | succ n ih =>
    intro σ σ' rr h
    rw [dm_X12_next_L275] at h
    refine ev_aload_n (j := 0) (x := (some a0)) dX12_next_275 rfl rfl ?_
    refine ev_aload_n (j := 0) (x := (some a0)) dX12_next_276 rfl rfl ?_
    obtain ⟨c_1, h⟩ := x_chk_e h
    refine ev_get (C := RX12) (T := TX12) (k := 34) inX12 (xE_12 c_1) rfl (by decide) wd_642 (Or.inl rfl) rfl dX12_next_277 ?_
    rcases x_bind_e h with ⟨v_2, σ_3, h_4, h⟩ | ⟨E_16, σ_3, h_4, h⟩
    · have z9 := x_call (M := mX12_next) (M' := mX12_sign) (pc := 280) (st := [.int (σ.I 1134 a0), va_rf (some a0)]) (rest := []) (av := [va_rf (some a0), .int (σ.I 1134 a0)]) (x_linkV (M := mX12_next) (M' := mX12_sign) (As := [.int (σ.I 1134 a0)]) (index := 128) (C := RX12) (T := TX12) (xE_12 c_1) rfl wd_644 wd_645 (wG_in (List.mem_append_left _ (List.mem_of_getElem? (i := 38) rfl)) rfl) xw_X12_sign rfl (by decide) rfl rfl dX12_next_280) (ev_X12_sign hO hP h_4) xw_X12_sign rfl wd_198 dX12_next_280 (by decide) (by decide) (by simp [x_cat, x_catI, x_catJ])
      refine x_callR z9 ?_
      refine ev_at (st' := [.int v_2]) rfl rfl ?_
      rcases x_bind_e h with ⟨v_5, σ_6, h_7, h⟩ | ⟨E_15, σ_6, h_7, h⟩
      · have z9 := x_call (M := mX12_next) (M' := mX12_isDigit) (pc := 283) (st := [.int v_2]) (rest := []) (av := [.int v_2]) (x_linkS (M := mX12_next) (M' := mX12_isDigit) (As := [.int v_2]) (index := 138) wd_651 wd_652 wd_198 xw_X12_isDigit rfl ⟨_, _, _, Or.inl wd_650⟩ (by decide) rfl rfl dX12_next_283) (ev_X12_isDigit hO hP h_7) xw_X12_isDigit rfl wd_198 dX12_next_283 (by decide) (by decide) (by simp [x_cat, x_catI, x_catJ])
        refine x_callR z9 ?_
        refine ev_at (st' := [.int v_5]) rfl rfl ?_
        by_cases c_8 : v_5 = 0
        · rw [if_pos c_8] at h
          refine ev_if_eq (x := v_5) (tgt := 360) dX12_next_286 (by decide) (fun _ => ?_) (fun q9 => absurd c_8 q9)
          exact ev_sub [0] rfl (ev_X12_next_p360 hO hP h)
        · rw [if_neg c_8] at h
          refine ev_if_eq (x := v_5) (tgt := 360) dX12_next_286 (by decide) (fun q9 => absurd q9 c_8) (fun _ => ?_)
          refine ev_aload_n (j := 0) (x := (some a0)) dX12_next_289 rfl rfl ?_
          refine ev_aload_n (j := 0) (x := (some a0)) dX12_next_290 rfl rfl ?_
          obtain ⟨c_9, h⟩ := x_chk_e h
          refine ev_get (C := RX12) (T := TX12) (k := 38) inX12 (xE_12 c_9) rfl (by decide) wd_654 (Or.inl rfl) rfl dX12_next_291 ?_
          refine ev_sipush (v := 1000) dX12_next_294 (by decide) ?_
          by_cases c_10 : 1000 ≤ (σ_6.I 1138 a0)
          · rw [if_pos c_10] at h
            refine ev_icmp_ge (x := (σ_6.I 1138 a0)) (y := 1000) (tgt := 322) dX12_next_297 (by decide) (fun _ => ?_) (fun q9 => absurd c_10 q9)
            refine ev_aload_n (j := 0) (x := (some a0)) dX12_next_322 rfl rfl ?_
            refine ev_get (C := RX12) (T := TX12) (k := 38) inX12 (xE_12 c_9) rfl (by decide) wd_654 (Or.inl rfl) rfl dX12_next_323 ?_
            exact ev_sub [0] rfl (ev_X12_next_p326 hO hP ih h)
          · rw [if_neg c_10] at h
            refine ev_icmp_ge (x := (σ_6.I 1138 a0)) (y := 1000) (tgt := 322) dX12_next_297 (by decide) (fun q9 => absurd q9 c_10) (fun _ => ?_)
            refine ev_bipush (v := 10) dX12_next_300 (by decide) ?_
            refine ev_aload_n (j := 0) (x := (some a0)) dX12_next_302 rfl rfl ?_
            refine ev_get (C := RX12) (T := TX12) (k := 38) inX12 (xE_12 c_9) rfl (by decide) wd_654 (Or.inl rfl) rfl dX12_next_303 ?_
            refine ev_imul (x := 10) (y := (σ_6.I 1138 a0)) dX12_next_306 ?_
            refine ev_aload_n (j := 0) (x := (some a0)) dX12_next_307 rfl rfl ?_
            refine ev_aload_n (j := 0) (x := (some a0)) dX12_next_308 rfl rfl ?_
            refine ev_get (C := RX12) (T := TX12) (k := 34) inX12 (xE_12 c_9) rfl (by decide) wd_642 (Or.inl rfl) rfl dX12_next_309 ?_
            rcases x_bind_e h with ⟨v_11, σ_12, h_13, h⟩ | ⟨E_14, σ_12, h_13, h⟩
            · have z9 := x_call (M := mX12_next) (M' := mX12_sign) (pc := 312) (st := [.int (σ_6.I 1134 a0), va_rf (some a0), .int (10 * (σ_6.I 1138 a0)), va_rf (some a0)]) (rest := [.int (10 * (σ_6.I 1138 a0)), va_rf (some a0)]) (av := [va_rf (some a0), .int (σ_6.I 1134 a0)]) (x_linkV (M := mX12_next) (M' := mX12_sign) (As := [.int (σ_6.I 1134 a0)]) (index := 128) (C := RX12) (T := TX12) (xE_12 c_9) rfl wd_644 wd_645 (wG_in (List.mem_append_left _ (List.mem_of_getElem? (i := 38) rfl)) rfl) xw_X12_sign rfl (by decide) rfl rfl dX12_next_312) (ev_X12_sign hO hP h_13) xw_X12_sign rfl wd_198 dX12_next_312 (by decide) (by decide) (by simp [x_cat, x_catI, x_catJ])
              refine x_callR z9 ?_
              refine ev_at (st' := [.int v_11, .int (10 * (σ_6.I 1138 a0)), va_rf (some a0)]) rfl rfl ?_
              refine ev_iadd (x := (10 * (σ_6.I 1138 a0))) (y := v_11) dX12_next_315 ?_
              refine ev_bipush (v := 48) dX12_next_316 (by decide) ?_
              refine ev_isub (x := ((10 * (σ_6.I 1138 a0)) + v_11)) (y := 48) dX12_next_318 ?_
              refine ev_goto (tgt := 326) dX12_next_319 (by decide) ?_
              exact ev_sub [0] rfl (ev_X12_next_p326 hO hP ih h)
            · have z9 := x_call (M := mX12_next) (M' := mX12_sign) (pc := 312) (st := [.int (σ_6.I 1134 a0), va_rf (some a0), .int (10 * (σ_6.I 1138 a0)), va_rf (some a0)]) (rest := [.int (10 * (σ_6.I 1138 a0)), va_rf (some a0)]) (av := [va_rf (some a0), .int (σ_6.I 1134 a0)]) (x_linkV (M := mX12_next) (M' := mX12_sign) (As := [.int (σ_6.I 1134 a0)]) (index := 128) (C := RX12) (T := TX12) (xE_12 c_9) rfl wd_644 wd_645 (wG_in (List.mem_append_left _ (List.mem_of_getElem? (i := 38) rfl)) rfl) xw_X12_sign rfl (by decide) rfl rfl dX12_next_312) (ev_X12_sign hO hP h_13) xw_X12_sign rfl wd_198 dX12_next_312 (by decide) (by decide) (by simp [x_cat, x_catI, x_catJ])
              cases h
              exact x_callX z9 (evX_out rfl)
      · have z9 := x_call (M := mX12_next) (M' := mX12_isDigit) (pc := 283) (st := [.int v_2]) (rest := []) (av := [.int v_2]) (x_linkS (M := mX12_next) (M' := mX12_isDigit) (As := [.int v_2]) (index := 138) wd_651 wd_652 wd_198 xw_X12_isDigit rfl ⟨_, _, _, Or.inl wd_650⟩ (by decide) rfl rfl dX12_next_283) (ev_X12_isDigit hO hP h_7) xw_X12_isDigit rfl wd_198 dX12_next_283 (by decide) (by decide) (by simp [x_cat, x_catI, x_catJ])
        cases h
        exact x_callX z9 (evX_out rfl)
    · have z9 := x_call (M := mX12_next) (M' := mX12_sign) (pc := 280) (st := [.int (σ.I 1134 a0), va_rf (some a0)]) (rest := []) (av := [va_rf (some a0), .int (σ.I 1134 a0)]) (x_linkV (M := mX12_next) (M' := mX12_sign) (As := [.int (σ.I 1134 a0)]) (index := 128) (C := RX12) (T := TX12) (xE_12 c_1) rfl wd_644 wd_645 (wG_in (List.mem_append_left _ (List.mem_of_getElem? (i := 38) rfl)) rfl) xw_X12_sign rfl (by decide) rfl rfl dX12_next_280) (ev_X12_sign hO hP h_4) xw_X12_sign rfl wd_198 dX12_next_280 (by decide) (by decide) (by simp [x_cat, x_catI, x_catJ])
      cases h
      exact x_callX z9 (evX_out rfl)
set_option maxHeartbeats 4000000 in
set_option maxRecDepth 100000 in
theorem ev_X12_next_p205 {l : Launch} {G : xG} (hO : x_OK l G) {P : xP} (hP : x_PG P G) {a0 : Nat} {v2 : Int32} {s0 : Option Nat} {s1 : Int32} {σ σ' : xS} {rr : Unit ⊕ String} (h : dm_X12_next_p205 P a0 v2 s0 s1 σ = some (rr, σ')) : Ev l G mX12_next 205 [(0, va_rf (some a0)), (2, .int v2)] [.int s1, va_rf s0] σ (xrV rr) σ' := by
  unfold dm_X12_next_p205 at h
  obtain ⟨a_1, ea_1, h⟩ := x_some_e h
  refine ev_at (st' := [.int s1, va_rf (some a_1)]) rfl (by rw [ea_1]) ?_
  obtain ⟨c_2, h⟩ := x_chk_e h
  obtain ⟨σ_3, eσ_3, h⟩ := x_let_e h
  refine ev_put (σ2 := σ_3) (C := RX12) (T := TX12) (k := 35) inX12 tyX12 tyX12_ok nmX12 (xE_12 c_2.1) rfl (by decide) wd_653 (Or.inl rfl) rfl rfl rfl rfl (Nat.le_of_ble_eq_true rfl) (hP.2.2.2.1 ▸ c_2.2) (by rw [eσ_3]; exact xP_12_35 _ c_2.1) (by rw [eσ_3]; exact xPut_I) dX12_next_205 ?_
  refine ev_aload_n (j := 0) (x := (some a0)) dX12_next_208 rfl rfl ?_
  refine ev_iload_n (j := 1) (x := v2) dX12_next_209 rfl rfl ?_
  obtain ⟨c_4, h⟩ := x_chk_e h
  obtain ⟨σ_5, eσ_5, h⟩ := x_let_e h
  refine ev_put (σ2 := σ_5) (C := RX12) (T := TX12) (k := 38) inX12 tyX12 tyX12_ok nmX12 (xE_12 c_4.1) rfl (by decide) wd_654 (Or.inl rfl) rfl rfl rfl rfl (Nat.le_of_ble_eq_true rfl) (hP.2.2.2.1 ▸ c_4.2) (by rw [eσ_5]; exact xP_12_38 _ c_4.1) (by rw [eσ_5]; exact xPut_I) dX12_next_210 ?_
  refine ev_aload_n (j := 0) (x := (some a0)) dX12_next_213 rfl rfl ?_
  obtain ⟨c_6, h⟩ := x_chk_e h
  refine ev_get (C := RX12) (T := TX12) (k := 35) inX12 (xE_12 c_6) rfl (by decide) wd_653 (Or.inl rfl) rfl dX12_next_214 ?_
  refine ev_iconst (v := 1) dX12_next_217 (by decide) ?_
  by_cases c_7 : (σ_5.I 1135 a0) = 1
  · rw [if_pos c_7] at h
    refine ev_icmp_ne (x := (σ_5.I 1135 a0)) (y := 1) (tgt := 262) dX12_next_218 (by decide) (fun q9 => absurd c_7 q9) (fun _ => ?_)
    exact ev_sub [0] rfl (ev_X12_next_L221 hO hP P.N h)
  · rw [if_neg c_7] at h
    refine ev_icmp_ne (x := (σ_5.I 1135 a0)) (y := 1) (tgt := 262) dX12_next_218 (by decide) (fun _ => ?_) (fun q9 => absurd q9 c_7)
    refine ev_aload_n (j := 0) (x := (some a0)) dX12_next_262 rfl rfl ?_
    refine ev_get (C := RX12) (T := TX12) (k := 35) inX12 (xE_12 c_6) rfl (by decide) wd_653 (Or.inl rfl) rfl dX12_next_263 ?_
    refine ev_iconst (v := 2) dX12_next_266 (by decide) ?_
    by_cases c_8 : (σ_5.I 1135 a0) = 2
    · rw [if_pos c_8] at h
      refine ev_icmp_ne (x := (σ_5.I 1135 a0)) (y := 2) (tgt := 342) dX12_next_267 (by decide) (fun q9 => absurd c_8 q9) (fun _ => ?_)
      refine ev_aload_n (j := 0) (x := (some a0)) dX12_next_270 rfl rfl ?_
      refine ev_iconst (v := 0) dX12_next_271 (by decide) ?_
      obtain ⟨c_12, h⟩ := x_chk_e h
      obtain ⟨σ_13, eσ_13, h⟩ := x_let_e h
      refine ev_put (σ2 := σ_13) (C := RX12) (T := TX12) (k := 38) inX12 tyX12 tyX12_ok nmX12 (xE_12 c_12.1) rfl (by decide) wd_654 (Or.inl rfl) rfl rfl rfl rfl (Nat.le_of_ble_eq_true rfl) (hP.2.2.2.1 ▸ c_12.2) (by rw [eσ_13]; exact xP_12_38 _ c_12.1) (by rw [eσ_13]; exact xPut_I) dX12_next_272 ?_
      exact ev_sub [0] rfl (ev_X12_next_L275 hO hP P.N h)
    · rw [if_neg c_8] at h
      refine ev_icmp_ne (x := (σ_5.I 1135 a0)) (y := 2) (tgt := 342) dX12_next_267 (by decide) (fun _ => ?_) (fun q9 => absurd q9 c_8)
      refine ev_aload_n (j := 0) (x := (some a0)) dX12_next_342 rfl rfl ?_
      refine ev_get (C := RX12) (T := TX12) (k := 35) inX12 (xE_12 c_6) rfl (by decide) wd_653 (Or.inl rfl) rfl dX12_next_343 ?_
      refine ev_iconst (v := 3) dX12_next_346 (by decide) ?_
      by_cases c_9 : (σ_5.I 1135 a0) = 3
      · rw [if_pos c_9] at h
        refine ev_icmp_ne (x := (σ_5.I 1135 a0)) (y := 3) (tgt := 360) dX12_next_347 (by decide) (fun q9 => absurd c_9 q9) (fun _ => ?_)
        refine ev_aload_n (j := 0) (x := (some a0)) dX12_next_350 rfl rfl ?_
        refine ev_dup dX12_next_351 (x_cat _) ?_
        refine ev_get (C := RX12) (T := TX12) (k := 34) inX12 (xE_12 c_6) rfl (by decide) wd_642 (Or.inl rfl) rfl dX12_next_352 ?_
        refine ev_iconst (v := 1) dX12_next_355 (by decide) ?_
        refine ev_iadd (x := (σ_5.I 1134 a0)) (y := 1) dX12_next_356 ?_
        obtain ⟨c_10, h⟩ := x_chk_e h
        obtain ⟨σ_11, eσ_11, h⟩ := x_let_e h
        refine ev_put (σ2 := σ_11) (C := RX12) (T := TX12) (k := 34) inX12 tyX12 tyX12_ok nmX12 (xE_12 c_10.1) rfl (by decide) wd_642 (Or.inl rfl) rfl rfl rfl rfl (Nat.le_of_ble_eq_true rfl) (hP.2.2.2.1 ▸ c_10.2) (by rw [eσ_11]; exact xP_12_34 _ c_10.1) (by rw [eσ_11]; exact xPut_I) dX12_next_357 ?_
        exact ev_sub [0] rfl (ev_X12_next_p360 hO hP h)
      · rw [if_neg c_9] at h
        refine ev_icmp_ne (x := (σ_5.I 1135 a0)) (y := 3) (tgt := 360) dX12_next_347 (by decide) (fun _ => ?_) (fun q9 => absurd q9 c_9)
        exact ev_sub [0] rfl (ev_X12_next_p360 hO hP h)
set_option maxHeartbeats 4000000 in
set_option maxRecDepth 100000 in
theorem ev_X12_next_p144 {l : Launch} {G : xG} (hO : x_OK l G) {P : xP} (hP : x_PG P G) {a0 : Nat} {σ σ' : xS} {rr : Unit ⊕ String} (h : dm_X12_next_p144 P a0 σ = some (rr, σ')) : Ev l G mX12_next 144 [(0, va_rf (some a0))] [] σ (xrV rr) σ' := by
  unfold dm_X12_next_p144 at h
  refine ev_aload_n (j := 0) (x := (some a0)) dX12_next_144 rfl rfl ?_
  refine ev_aload_n (j := 0) (x := (some a0)) dX12_next_145 rfl rfl ?_
  obtain ⟨c_1, h⟩ := x_chk_e h
  refine ev_get (C := RX12) (T := TX12) (k := 34) inX12 (xE_12 c_1) rfl (by decide) wd_642 (Or.inl rfl) rfl dX12_next_146 ?_
  obtain ⟨c_2, h⟩ := x_chk_e h
  obtain ⟨σ_3, eσ_3, h⟩ := x_let_e h
  refine ev_put (σ2 := σ_3) (C := RX12) (T := TX12) (k := 36) inX12 tyX12 tyX12_ok nmX12 (xE_12 c_2.1) rfl (by decide) wd_646 (Or.inl rfl) rfl rfl rfl rfl (Nat.le_of_ble_eq_true rfl) (hP.2.2.2.1 ▸ c_2.2) (by rw [eσ_3]; exact xP_12_36 _ c_2.1) (by rw [eσ_3]; exact xPut_I) dX12_next_149 ?_
  refine ev_aload_n (j := 0) (x := (some a0)) dX12_next_152 rfl rfl ?_
  refine ev_aload_n (j := 0) (x := (some a0)) dX12_next_153 rfl rfl ?_
  obtain ⟨c_4, h⟩ := x_chk_e h
  refine ev_get (C := RX12) (T := TX12) (k := 34) inX12 (xE_12 c_4) rfl (by decide) wd_642 (Or.inl rfl) rfl dX12_next_154 ?_
  rcases x_bind_e h with ⟨v_5, σ_6, h_7, h⟩ | ⟨E_22, σ_6, h_7, h⟩
  · have z9 := x_call (M := mX12_next) (M' := mX12_sign) (pc := 157) (st := [.int (σ_3.I 1134 a0), va_rf (some a0)]) (rest := []) (av := [va_rf (some a0), .int (σ_3.I 1134 a0)]) (x_linkV (M := mX12_next) (M' := mX12_sign) (As := [.int (σ_3.I 1134 a0)]) (index := 128) (C := RX12) (T := TX12) (xE_12 c_4) rfl wd_644 wd_645 (wG_in (List.mem_append_left _ (List.mem_of_getElem? (i := 38) rfl)) rfl) xw_X12_sign rfl (by decide) rfl rfl dX12_next_157) (ev_X12_sign hO hP h_7) xw_X12_sign rfl wd_198 dX12_next_157 (by decide) (by decide) (by simp [x_cat, x_catI, x_catJ])
    refine x_callR z9 ?_
    refine ev_at (st' := [.int v_5]) rfl rfl ?_
    refine ev_istore_n (i := 2) (lv' := [(2, .int v_5), (0, va_rf (some a0))]) dX12_next_160 rfl (by decide) rfl ?_
    refine ev_aload_n (j := 1) (x := (some a0)) dX12_next_161 rfl rfl ?_
    refine ev_aload_n (j := 1) (x := (some a0)) dX12_next_162 rfl rfl ?_
    obtain ⟨c_8, h⟩ := x_chk_e h
    refine ev_get (C := RX12) (T := TX12) (k := 34) inX12 (xE_12 c_8) rfl (by decide) wd_642 (Or.inl rfl) rfl dX12_next_163 ?_
    refine ev_aload_n (j := 1) (x := (some a0)) dX12_next_166 rfl rfl ?_
    refine ev_get (C := RX12) (T := TX12) (k := 5) inX12 (xE_12 c_8) rfl (by decide) wd_152 (Or.inl rfl) rfl dX12_next_167 ?_
    refine ev_aload_n (j := 1) (x := (some a0)) dX12_next_170 rfl rfl ?_
    refine ev_get (C := RX12) (T := TX12) (k := 40) inX12 (xE_12 c_8) rfl (by decide) wd_638 (Or.inl rfl) rfl dX12_next_171 ?_
    obtain ⟨a_9, ea_9, h⟩ := x_some_e h
    refine ev_at (st' := [.int (σ_6.I 1140 a0), va_rf (some a_9), .int (σ_6.I 1134 a0), va_rf (some a0)]) rfl (by rw [ea_9]) ?_
    obtain ⟨c_10, h⟩ := x_chk_e h
    refine ev_iald_31 c_10.1 c_10.2 dX12_next_174 ?_
    by_cases c_11 : (σ_6.I 1134 a0) < (σ_6.AI a_9 (Int32.toNatClampNeg (σ_6.I 1140 a0)))
    · rw [if_pos c_11] at h
      refine ev_icmp_lt (x := (σ_6.I 1134 a0)) (y := (σ_6.AI a_9 (Int32.toNatClampNeg (σ_6.I 1140 a0)))) (tgt := 182) dX12_next_175 (by decide) (fun _ => ?_) (fun q9 => absurd c_11 q9)
      refine ev_iload_n (j := 0) (x := v_5) dX12_next_182 rfl rfl ?_
      rcases x_bind_e h with ⟨v_12, σ_13, h_14, h⟩ | ⟨E_21, σ_13, h_14, h⟩
      · have z9 := x_call (M := mX12_next) (M' := mX12_isLetter) (pc := 183) (st := [.int v_5, va_rf (some a0)]) (rest := [va_rf (some a0)]) (av := [.int v_5]) (x_linkS (M := mX12_next) (M' := mX12_isLetter) (As := [.int v_5]) (index := 135) wd_648 wd_649 wd_198 xw_X12_isLetter rfl ⟨_, _, _, Or.inl wd_647⟩ (by decide) rfl rfl dX12_next_183) (ev_X12_isLetter hO hP h_14) xw_X12_isLetter rfl wd_198 dX12_next_183 (by decide) (by decide) (by simp [x_cat, x_catI, x_catJ])
        refine x_callR z9 ?_
        refine ev_at (st' := [.int v_12, va_rf (some a0)]) rfl rfl ?_
        by_cases c_15 : v_12 = 0
        · rw [if_pos c_15] at h
          refine ev_if_eq (x := v_12) (tgt := 193) dX12_next_186 (by decide) (fun _ => ?_) (fun q9 => absurd c_15 q9)
          refine ev_iload_n (j := 0) (x := v_5) dX12_next_193 rfl rfl ?_
          rcases x_bind_e h with ⟨v_16, σ_17, h_18, h⟩ | ⟨E_20, σ_17, h_18, h⟩
          · have z9 := x_call (M := mX12_next) (M' := mX12_isDigit) (pc := 194) (st := [.int v_5, va_rf (some a0)]) (rest := [va_rf (some a0)]) (av := [.int v_5]) (x_linkS (M := mX12_next) (M' := mX12_isDigit) (As := [.int v_5]) (index := 138) wd_651 wd_652 wd_198 xw_X12_isDigit rfl ⟨_, _, _, Or.inl wd_650⟩ (by decide) rfl rfl dX12_next_194) (ev_X12_isDigit hO hP h_18) xw_X12_isDigit rfl wd_198 dX12_next_194 (by decide) (by decide) (by simp [x_cat, x_catI, x_catJ])
            refine x_callR z9 ?_
            refine ev_at (st' := [.int v_16, va_rf (some a0)]) rfl rfl ?_
            by_cases c_19 : v_16 = 0
            · rw [if_pos c_19] at h
              refine ev_if_eq (x := v_16) (tgt := 204) dX12_next_197 (by decide) (fun _ => ?_) (fun q9 => absurd c_19 q9)
              refine ev_iconst (v := 3) dX12_next_204 (by decide) ?_
              exact ev_sub [1, 0] rfl (ev_X12_next_p205 hO hP h)
            · rw [if_neg c_19] at h
              refine ev_if_eq (x := v_16) (tgt := 204) dX12_next_197 (by decide) (fun q9 => absurd q9 c_19) (fun _ => ?_)
              refine ev_iconst (v := 2) dX12_next_200 (by decide) ?_
              refine ev_goto (tgt := 205) dX12_next_201 (by decide) ?_
              exact ev_sub [1, 0] rfl (ev_X12_next_p205 hO hP h)
          · have z9 := x_call (M := mX12_next) (M' := mX12_isDigit) (pc := 194) (st := [.int v_5, va_rf (some a0)]) (rest := [va_rf (some a0)]) (av := [.int v_5]) (x_linkS (M := mX12_next) (M' := mX12_isDigit) (As := [.int v_5]) (index := 138) wd_651 wd_652 wd_198 xw_X12_isDigit rfl ⟨_, _, _, Or.inl wd_650⟩ (by decide) rfl rfl dX12_next_194) (ev_X12_isDigit hO hP h_18) xw_X12_isDigit rfl wd_198 dX12_next_194 (by decide) (by decide) (by simp [x_cat, x_catI, x_catJ])
            cases h
            exact x_callX z9 (evX_out rfl)
        · rw [if_neg c_15] at h
          refine ev_if_eq (x := v_12) (tgt := 193) dX12_next_186 (by decide) (fun q9 => absurd q9 c_15) (fun _ => ?_)
          refine ev_iconst (v := 1) dX12_next_189 (by decide) ?_
          refine ev_goto (tgt := 205) dX12_next_190 (by decide) ?_
          exact ev_sub [1, 0] rfl (ev_X12_next_p205 hO hP h)
      · have z9 := x_call (M := mX12_next) (M' := mX12_isLetter) (pc := 183) (st := [.int v_5, va_rf (some a0)]) (rest := [va_rf (some a0)]) (av := [.int v_5]) (x_linkS (M := mX12_next) (M' := mX12_isLetter) (As := [.int v_5]) (index := 135) wd_648 wd_649 wd_198 xw_X12_isLetter rfl ⟨_, _, _, Or.inl wd_647⟩ (by decide) rfl rfl dX12_next_183) (ev_X12_isLetter hO hP h_14) xw_X12_isLetter rfl wd_198 dX12_next_183 (by decide) (by decide) (by simp [x_cat, x_catI, x_catJ])
        cases h
        exact x_callX z9 (evX_out rfl)
    · rw [if_neg c_11] at h
      refine ev_icmp_lt (x := (σ_6.I 1134 a0)) (y := (σ_6.AI a_9 (Int32.toNatClampNeg (σ_6.I 1140 a0)))) (tgt := 182) dX12_next_175 (by decide) (fun q9 => absurd q9 c_11) (fun _ => ?_)
      refine ev_iconst (v := 0) dX12_next_178 (by decide) ?_
      refine ev_goto (tgt := 205) dX12_next_179 (by decide) ?_
      exact ev_sub [1, 0] rfl (ev_X12_next_p205 hO hP h)
  · have z9 := x_call (M := mX12_next) (M' := mX12_sign) (pc := 157) (st := [.int (σ_3.I 1134 a0), va_rf (some a0)]) (rest := []) (av := [va_rf (some a0), .int (σ_3.I 1134 a0)]) (x_linkV (M := mX12_next) (M' := mX12_sign) (As := [.int (σ_3.I 1134 a0)]) (index := 128) (C := RX12) (T := TX12) (xE_12 c_4) rfl wd_644 wd_645 (wG_in (List.mem_append_left _ (List.mem_of_getElem? (i := 38) rfl)) rfl) xw_X12_sign rfl (by decide) rfl rfl dX12_next_157) (ev_X12_sign hO hP h_7) xw_X12_sign rfl wd_198 dX12_next_157 (by decide) (by decide) (by simp [x_cat, x_catI, x_catJ])
    cases h
    exact x_callX z9 (evX_out rfl)
set_option maxHeartbeats 4000000 in
set_option maxRecDepth 100000 in
theorem ev_X12_next_L10 {l : Launch} {G : xG} (hO : x_OK l G) {P : xP} (hP : x_PG P G) {a0 : Nat} : ∀ (n : Nat) {v1 : Int32} {σ σ' : xS} {rr : Unit ⊕ String}, dm_X12_next_L10 P a0 n v1 σ = some (rr, σ') → Ev l G mX12_next 10 [(0, va_rf (some a0)), (1, .int v1)] [] σ (xrV rr) σ' := by
  intro n
  induction n with
  | zero => intro v1 σ σ' rr h; cases h
  | succ n ih =>
    intro v1 σ σ' rr h
    rw [dm_X12_next_L10] at h
    refine ev_iload_n (j := 1) (x := v1) dX12_next_10 rfl rfl ?_
    by_cases c_1 : v1 = 0
    · rw [if_pos c_1] at h
      refine ev_if_eq (x := v1) (tgt := 144) dX12_next_11 (by decide) (fun _ => ?_) (fun q9 => absurd c_1 q9)
      exact ev_sub [0] rfl (ev_X12_next_p144 hO hP h)
    · rw [if_neg c_1] at h
      refine ev_if_eq (x := v1) (tgt := 144) dX12_next_11 (by decide) (fun q9 => absurd q9 c_1) (fun _ => ?_)
      refine ev_aload_n (j := 0) (x := (some a0)) dX12_next_14 rfl rfl ?_
      obtain ⟨c_2, h⟩ := x_chk_e h
      refine ev_get (C := RX12) (T := TX12) (k := 34) inX12 (xE_12 c_2) rfl (by decide) wd_642 (Or.inl rfl) rfl dX12_next_15 ?_
      refine ev_aload_n (j := 0) (x := (some a0)) dX12_next_18 rfl rfl ?_
      refine ev_get (C := RX12) (T := TX12) (k := 5) inX12 (xE_12 c_2) rfl (by decide) wd_152 (Or.inl rfl) rfl dX12_next_19 ?_
      refine ev_aload_n (j := 0) (x := (some a0)) dX12_next_22 rfl rfl ?_
      refine ev_get (C := RX12) (T := TX12) (k := 40) inX12 (xE_12 c_2) rfl (by decide) wd_638 (Or.inl rfl) rfl dX12_next_23 ?_
      obtain ⟨a_3, ea_3, h⟩ := x_some_e h
      refine ev_at (st' := [.int (σ.I 1140 a0), va_rf (some a_3), .int (σ.I 1134 a0)]) rfl (by rw [ea_3]) ?_
      obtain ⟨c_4, h⟩ := x_chk_e h
      refine ev_iald_31 c_4.1 c_4.2 dX12_next_26 ?_
      by_cases c_5 : (σ.AI a_3 (Int32.toNatClampNeg (σ.I 1140 a0))) ≤ (σ.I 1134 a0)
      · rw [if_pos c_5] at h
        refine ev_icmp_ge (x := (σ.I 1134 a0)) (y := (σ.AI a_3 (Int32.toNatClampNeg (σ.I 1140 a0)))) (tgt := 144) dX12_next_27 (by decide) (fun _ => ?_) (fun q9 => absurd c_5 q9)
        exact ev_sub [0] rfl (ev_X12_next_p144 hO hP h)
      · rw [if_neg c_5] at h
        refine ev_icmp_ge (x := (σ.I 1134 a0)) (y := (σ.AI a_3 (Int32.toNatClampNeg (σ.I 1140 a0)))) (tgt := 144) dX12_next_27 (by decide) (fun q9 => absurd q9 c_5) (fun _ => ?_)
        refine ev_aload_n (j := 0) (x := (some a0)) dX12_next_30 rfl rfl ?_
        refine ev_aload_n (j := 0) (x := (some a0)) dX12_next_31 rfl rfl ?_
        refine ev_get (C := RX12) (T := TX12) (k := 34) inX12 (xE_12 c_2) rfl (by decide) wd_642 (Or.inl rfl) rfl dX12_next_32 ?_
        rcases x_bind_e h with ⟨v_6, σ_7, h_8, h⟩ | ⟨E_16, σ_7, h_8, h⟩
        · have z9 := x_call (M := mX12_next) (M' := mX12_sign) (pc := 35) (st := [.int (σ.I 1134 a0), va_rf (some a0)]) (rest := []) (av := [va_rf (some a0), .int (σ.I 1134 a0)]) (x_linkV (M := mX12_next) (M' := mX12_sign) (As := [.int (σ.I 1134 a0)]) (index := 128) (C := RX12) (T := TX12) (xE_12 c_2) rfl wd_644 wd_645 (wG_in (List.mem_append_left _ (List.mem_of_getElem? (i := 38) rfl)) rfl) xw_X12_sign rfl (by decide) rfl rfl dX12_next_35) (ev_X12_sign hO hP h_8) xw_X12_sign rfl wd_198 dX12_next_35 (by decide) (by decide) (by simp [x_cat, x_catI, x_catJ])
          refine x_callR z9 ?_
          refine ev_at (st' := [.int v_6]) rfl rfl ?_
          refine ev_bipush (v := 47) dX12_next_38 (by decide) ?_
          by_cases c_9 : v_6 = 47
          · rw [if_pos c_9] at h
            refine ev_icmp_ne (x := v_6) (y := 47) (tgt := 100) dX12_next_40 (by decide) (fun q9 => absurd c_9 q9) (fun _ => ?_)
            refine ev_aload_n (j := 0) (x := (some a0)) dX12_next_43 rfl rfl ?_
            refine ev_aload_n (j := 0) (x := (some a0)) dX12_next_44 rfl rfl ?_
            obtain ⟨c_10, h⟩ := x_chk_e h
            refine ev_get (C := RX12) (T := TX12) (k := 34) inX12 (xE_12 c_10) rfl (by decide) wd_642 (Or.inl rfl) rfl dX12_next_45 ?_
            refine ev_iconst (v := 1) dX12_next_48 (by decide) ?_
            refine ev_iadd (x := (σ_7.I 1134 a0)) (y := 1) dX12_next_49 ?_
            rcases x_bind_e h with ⟨v_11, σ_12, h_13, h⟩ | ⟨E_15, σ_12, h_13, h⟩
            · have z9 := x_call (M := mX12_next) (M' := mX12_sign) (pc := 50) (st := [.int ((σ_7.I 1134 a0) + 1), va_rf (some a0)]) (rest := []) (av := [va_rf (some a0), .int ((σ_7.I 1134 a0) + 1)]) (x_linkV (M := mX12_next) (M' := mX12_sign) (As := [.int ((σ_7.I 1134 a0) + 1)]) (index := 128) (C := RX12) (T := TX12) (xE_12 c_10) rfl wd_644 wd_645 (wG_in (List.mem_append_left _ (List.mem_of_getElem? (i := 38) rfl)) rfl) xw_X12_sign rfl (by decide) rfl rfl dX12_next_50) (ev_X12_sign hO hP h_13) xw_X12_sign rfl wd_198 dX12_next_50 (by decide) (by decide) (by simp [x_cat, x_catI, x_catJ])
              refine x_callR z9 ?_
              refine ev_at (st' := [.int v_11]) rfl rfl ?_
              refine ev_bipush (v := 47) dX12_next_53 (by decide) ?_
              by_cases c_14 : v_11 = 47
              · rw [if_pos c_14] at h
                refine ev_icmp_ne (x := v_11) (y := 47) (tgt := 100) dX12_next_55 (by decide) (fun q9 => absurd c_14 q9) (fun _ => ?_)
                exact ev_sub [0, 1] rfl (ev_X12_next_L58 hO hP ih P.N h)
              · rw [if_neg c_14] at h
                refine ev_icmp_ne (x := v_11) (y := 47) (tgt := 100) dX12_next_55 (by decide) (fun _ => ?_) (fun q9 => absurd q9 c_14)
                exact ev_sub [0, 1] rfl (ev_X12_next_p100 hO hP ih h)
            · have z9 := x_call (M := mX12_next) (M' := mX12_sign) (pc := 50) (st := [.int ((σ_7.I 1134 a0) + 1), va_rf (some a0)]) (rest := []) (av := [va_rf (some a0), .int ((σ_7.I 1134 a0) + 1)]) (x_linkV (M := mX12_next) (M' := mX12_sign) (As := [.int ((σ_7.I 1134 a0) + 1)]) (index := 128) (C := RX12) (T := TX12) (xE_12 c_10) rfl wd_644 wd_645 (wG_in (List.mem_append_left _ (List.mem_of_getElem? (i := 38) rfl)) rfl) xw_X12_sign rfl (by decide) rfl rfl dX12_next_50) (ev_X12_sign hO hP h_13) xw_X12_sign rfl wd_198 dX12_next_50 (by decide) (by decide) (by simp [x_cat, x_catI, x_catJ])
              cases h
              exact x_callX z9 (evX_out rfl)
          · rw [if_neg c_9] at h
            refine ev_icmp_ne (x := v_6) (y := 47) (tgt := 100) dX12_next_40 (by decide) (fun _ => ?_) (fun q9 => absurd q9 c_9)
            exact ev_sub [0, 1] rfl (ev_X12_next_p100 hO hP ih h)
        · have z9 := x_call (M := mX12_next) (M' := mX12_sign) (pc := 35) (st := [.int (σ.I 1134 a0), va_rf (some a0)]) (rest := []) (av := [va_rf (some a0), .int (σ.I 1134 a0)]) (x_linkV (M := mX12_next) (M' := mX12_sign) (As := [.int (σ.I 1134 a0)]) (index := 128) (C := RX12) (T := TX12) (xE_12 c_2) rfl wd_644 wd_645 (wG_in (List.mem_append_left _ (List.mem_of_getElem? (i := 38) rfl)) rfl) xw_X12_sign rfl (by decide) rfl rfl dX12_next_35) (ev_X12_sign hO hP h_8) xw_X12_sign rfl wd_198 dX12_next_35 (by decide) (by decide) (by simp [x_cat, x_catI, x_catJ])
          cases h
          exact x_callX z9 (evX_out rfl)
set_option maxHeartbeats 4000000 in
set_option maxRecDepth 100000 in
theorem ev_X12_next {l : Launch} {G : xG} (hO : x_OK l G) {P : xP} (hP : x_PG P G) {a0 : Nat} {σ σ' : xS} {rr : Unit ⊕ String} (h : dm_X12_next P a0 σ = some (rr, σ')) : EvM l G mX12_next [va_rf (some a0)] σ (xrV rr) σ' := by
  unfold dm_X12_next at h
  refine evM_of hO (by decide +kernel) (x_lenI (by simp [x_cat, x_catI, x_catJ, mX12_next, xM.maxL])) ?_
  refine Eq.mp (congrArg (fun z => Ev l G mX12_next 0 z [] σ (xrV rr) σ') (show [(0, va_rf (some a0))] = lv_args 0 [va_rf (some a0)] by simp [lv_args, x_cat, x_catI, x_catJ])) ?_
  refine ev_aload_n (j := 0) (x := (some a0)) dX12_next_0 rfl rfl ?_
  obtain ⟨c_4, h⟩ := x_chk_e h
  rcases x_bind_e h with ⟨v_1, σ_2, h_3, h⟩ | ⟨E_6, σ_2, h_3, h⟩
  · have z9 := x_call (M := mX12_next) (M' := mX12_ok) (pc := 1) (st := [va_rf (some a0)]) (rest := []) (av := [va_rf (some a0)]) (x_linkV (M := mX12_next) (M' := mX12_ok) (As := []) (index := 121) (C := RX12) (T := TX12) (xE_12 c_4) rfl wd_640 wd_641 (wG_in (List.mem_append_left _ (List.mem_of_getElem? (i := 37) rfl)) rfl) xw_X12_ok rfl (by decide) rfl rfl dX12_next_1) (ev_X12_ok hO hP h_3) xw_X12_ok rfl wd_198 dX12_next_1 (by decide) (by decide) (by simp [x_cat, x_catI, x_catJ])
    refine x_callR z9 ?_
    refine ev_at (st' := [.int v_1]) rfl rfl ?_
    by_cases c_5 : v_1 = 0
    · rw [if_pos c_5] at h
      refine ev_if_ne (x := v_1) (tgt := 8) dX12_next_4 (by decide) (fun q9 => absurd c_5 q9) (fun _ => ?_)
      cases h
      exact ev_vret rfl dX12_next_7
    · rw [if_neg c_5] at h
      refine ev_if_ne (x := v_1) (tgt := 8) dX12_next_4 (by decide) (fun _ => ?_) (fun q9 => absurd q9 c_5)
      refine ev_iconst (v := 1) dX12_next_8 (by decide) ?_
      refine ev_istore_n (i := 1) (lv' := [(1, .int 1), (0, va_rf (some a0))]) dX12_next_9 rfl (by decide) (by simp [x_cat, x_catI, x_catJ]) ?_
      exact ev_sub [1, 0] rfl (ev_X12_next_L10 hO hP P.N h)
  · have z9 := x_call (M := mX12_next) (M' := mX12_ok) (pc := 1) (st := [va_rf (some a0)]) (rest := []) (av := [va_rf (some a0)]) (x_linkV (M := mX12_next) (M' := mX12_ok) (As := []) (index := 121) (C := RX12) (T := TX12) (xE_12 c_4) rfl wd_640 wd_641 (wG_in (List.mem_append_left _ (List.mem_of_getElem? (i := 37) rfl)) rfl) xw_X12_ok rfl (by decide) rfl rfl dX12_next_1) (ev_X12_ok hO hP h_3) xw_X12_ok rfl wd_198 dX12_next_1 (by decide) (by decide) (by simp [x_cat, x_catI, x_catJ])
    cases h
    exact x_callX z9 (evX_out rfl)
set_option maxHeartbeats 4000000 in
set_option maxRecDepth 100000 in
theorem ev_X12_is_p52 {l : Launch} {G : xG} (hO : x_OK l G) {P : xP} (hP : x_PG P G) {a0 : Nat} {s0 : Int32} {σ σ' : xS} {rr : Int32 ⊕ String} (h : dm_X12_is_p52 P a0 s0 σ = some (rr, σ')) : Ev l G mX12_is 52 [] [.int s0] σ (xrI rr) σ' := by
  unfold dm_X12_is_p52 at h
  obtain ⟨c_1, h⟩ := x_chk_e h
  cases h
  exact ev_iret rfl (x_boolN c_1) dX12_is_52
set_option maxHeartbeats 4000000 in
set_option maxRecDepth 100000 in
theorem ev_X12_is_p51 {l : Launch} {G : xG} (hO : x_OK l G) {P : xP} (hP : x_PG P G) {a0 : Nat} {σ σ' : xS} {rr : Int32 ⊕ String} (h : dm_X12_is_p51 P a0 σ = some (rr, σ')) : Ev l G mX12_is 51 [] [] σ (xrI rr) σ' := by
  unfold dm_X12_is_p51 at h
  refine ev_iconst (v := 0) dX12_is_51 (by decide) ?_
  exact ev_sub [] rfl (ev_X12_is_p52 hO hP h)
set_option maxHeartbeats 4000000 in
set_option maxRecDepth 100000 in
theorem ev_X12_is {l : Launch} {G : xG} (hO : x_OK l G) {P : xP} (hP : x_PG P G) {a0 : Nat} {v1 : Int32} {v2 : Int32} {v3 : Int32} {v4 : Int32} {σ σ' : xS} {rr : Int32 ⊕ String} (h : dm_X12_is P a0 v1 v2 v3 v4 σ = some (rr, σ')) : EvM l G mX12_is [va_rf (some a0), .int v1, .int v2, .int v3, .int v4] σ (xrI rr) σ' := by
  unfold dm_X12_is at h
  refine evM_of hO (by decide +kernel) (x_lenI (by simp [x_cat, x_catI, x_catJ, mX12_is, xM.maxL])) ?_
  refine Eq.mp (congrArg (fun z => Ev l G mX12_is 0 z [] σ (xrI rr) σ') (show [(0, va_rf (some a0)), (1, .int v1), (2, .int v2), (3, .int v3), (4, .int v4)] = lv_args 0 [va_rf (some a0), .int v1, .int v2, .int v3, .int v4] by simp [lv_args, x_cat, x_catI, x_catJ])) ?_
  refine ev_aload_n (j := 0) (x := (some a0)) dX12_is_0 rfl rfl ?_
  refine ev_aload_n (j := 0) (x := (some a0)) dX12_is_1 rfl rfl ?_
  obtain ⟨c_1, h⟩ := x_chk_e h
  refine ev_get (C := RX12) (T := TX12) (k := 36) inX12 (xE_12 c_1) rfl (by decide) wd_646 (Or.inl rfl) rfl dX12_is_2 ?_
  refine ev_iload_n (j := 1) (x := v1) dX12_is_5 rfl rfl ?_
  refine ev_iadd (x := (σ.I 1136 a0)) (y := v1) dX12_is_6 ?_
  rcases x_bind_e h with ⟨v_2, σ_3, h_4, h⟩ | ⟨E_18, σ_3, h_4, h⟩
  · have z9 := x_call (M := mX12_is) (M' := mX12_sign) (pc := 7) (st := [.int ((σ.I 1136 a0) + v1), va_rf (some a0)]) (rest := []) (av := [va_rf (some a0), .int ((σ.I 1136 a0) + v1)]) (x_linkV (M := mX12_is) (M' := mX12_sign) (As := [.int ((σ.I 1136 a0) + v1)]) (index := 128) (C := RX12) (T := TX12) (xE_12 c_1) rfl wd_644 wd_645 (wG_in (List.mem_append_left _ (List.mem_of_getElem? (i := 38) rfl)) rfl) xw_X12_sign rfl (by decide) rfl rfl dX12_is_7) (ev_X12_sign hO hP h_4) xw_X12_sign rfl wd_198 dX12_is_7 (by decide) (by decide) (by simp [x_cat, x_catI, x_catJ])
    refine x_callR z9 ?_
    refine ev_at (st' := [.int v_2]) rfl rfl ?_
    refine ev_iload_n (j := 2) (x := v2) dX12_is_10 rfl rfl ?_
    by_cases c_5 : v_2 = v2
    · rw [if_pos c_5] at h
      refine ev_icmp_ne (x := v_2) (y := v2) (tgt := 51) dX12_is_11 (by decide) (fun q9 => absurd c_5 q9) (fun _ => ?_)
      refine ev_aload_n (j := 0) (x := (some a0)) dX12_is_14 rfl rfl ?_
      refine ev_aload_n (j := 0) (x := (some a0)) dX12_is_15 rfl rfl ?_
      obtain ⟨c_6, h⟩ := x_chk_e h
      refine ev_get (C := RX12) (T := TX12) (k := 36) inX12 (xE_12 c_6) rfl (by decide) wd_646 (Or.inl rfl) rfl dX12_is_16 ?_
      refine ev_iload_n (j := 1) (x := v1) dX12_is_19 rfl rfl ?_
      refine ev_iadd (x := (σ_3.I 1136 a0)) (y := v1) dX12_is_20 ?_
      refine ev_iconst (v := 1) dX12_is_21 (by decide) ?_
      refine ev_iadd (x := ((σ_3.I 1136 a0) + v1)) (y := 1) dX12_is_22 ?_
      rcases x_bind_e h with ⟨v_7, σ_8, h_9, h⟩ | ⟨E_17, σ_8, h_9, h⟩
      · have z9 := x_call (M := mX12_is) (M' := mX12_sign) (pc := 23) (st := [.int (((σ_3.I 1136 a0) + v1) + 1), va_rf (some a0)]) (rest := []) (av := [va_rf (some a0), .int (((σ_3.I 1136 a0) + v1) + 1)]) (x_linkV (M := mX12_is) (M' := mX12_sign) (As := [.int (((σ_3.I 1136 a0) + v1) + 1)]) (index := 128) (C := RX12) (T := TX12) (xE_12 c_6) rfl wd_644 wd_645 (wG_in (List.mem_append_left _ (List.mem_of_getElem? (i := 38) rfl)) rfl) xw_X12_sign rfl (by decide) rfl rfl dX12_is_23) (ev_X12_sign hO hP h_9) xw_X12_sign rfl wd_198 dX12_is_23 (by decide) (by decide) (by simp [x_cat, x_catI, x_catJ])
        refine x_callR z9 ?_
        refine ev_at (st' := [.int v_7]) rfl rfl ?_
        refine ev_iload_n (j := 3) (x := v3) dX12_is_26 rfl rfl ?_
        by_cases c_10 : v_7 = v3
        · rw [if_pos c_10] at h
          refine ev_icmp_ne (x := v_7) (y := v3) (tgt := 51) dX12_is_27 (by decide) (fun q9 => absurd c_10 q9) (fun _ => ?_)
          refine ev_aload_n (j := 0) (x := (some a0)) dX12_is_30 rfl rfl ?_
          refine ev_aload_n (j := 0) (x := (some a0)) dX12_is_31 rfl rfl ?_
          obtain ⟨c_11, h⟩ := x_chk_e h
          refine ev_get (C := RX12) (T := TX12) (k := 36) inX12 (xE_12 c_11) rfl (by decide) wd_646 (Or.inl rfl) rfl dX12_is_32 ?_
          refine ev_iload_n (j := 1) (x := v1) dX12_is_35 rfl rfl ?_
          refine ev_iadd (x := (σ_8.I 1136 a0)) (y := v1) dX12_is_36 ?_
          refine ev_iconst (v := 2) dX12_is_37 (by decide) ?_
          refine ev_iadd (x := ((σ_8.I 1136 a0) + v1)) (y := 2) dX12_is_38 ?_
          rcases x_bind_e h with ⟨v_12, σ_13, h_14, h⟩ | ⟨E_16, σ_13, h_14, h⟩
          · have z9 := x_call (M := mX12_is) (M' := mX12_sign) (pc := 39) (st := [.int (((σ_8.I 1136 a0) + v1) + 2), va_rf (some a0)]) (rest := []) (av := [va_rf (some a0), .int (((σ_8.I 1136 a0) + v1) + 2)]) (x_linkV (M := mX12_is) (M' := mX12_sign) (As := [.int (((σ_8.I 1136 a0) + v1) + 2)]) (index := 128) (C := RX12) (T := TX12) (xE_12 c_11) rfl wd_644 wd_645 (wG_in (List.mem_append_left _ (List.mem_of_getElem? (i := 38) rfl)) rfl) xw_X12_sign rfl (by decide) rfl rfl dX12_is_39) (ev_X12_sign hO hP h_14) xw_X12_sign rfl wd_198 dX12_is_39 (by decide) (by decide) (by simp [x_cat, x_catI, x_catJ])
            refine x_callR z9 ?_
            refine ev_at (st' := [.int v_12]) rfl rfl ?_
            refine ev_iload (j := 4) (x := v4) dX12_is_42 rfl ?_
            by_cases c_15 : v_12 = v4
            · rw [if_pos c_15] at h
              refine ev_icmp_ne (x := v_12) (y := v4) (tgt := 51) dX12_is_44 (by decide) (fun q9 => absurd c_15 q9) (fun _ => ?_)
              refine ev_iconst (v := 1) dX12_is_47 (by decide) ?_
              refine ev_goto (tgt := 52) dX12_is_48 (by decide) ?_
              exact ev_sub [] rfl (ev_X12_is_p52 hO hP h)
            · rw [if_neg c_15] at h
              refine ev_icmp_ne (x := v_12) (y := v4) (tgt := 51) dX12_is_44 (by decide) (fun _ => ?_) (fun q9 => absurd q9 c_15)
              exact ev_sub [] rfl (ev_X12_is_p51 hO hP h)
          · have z9 := x_call (M := mX12_is) (M' := mX12_sign) (pc := 39) (st := [.int (((σ_8.I 1136 a0) + v1) + 2), va_rf (some a0)]) (rest := []) (av := [va_rf (some a0), .int (((σ_8.I 1136 a0) + v1) + 2)]) (x_linkV (M := mX12_is) (M' := mX12_sign) (As := [.int (((σ_8.I 1136 a0) + v1) + 2)]) (index := 128) (C := RX12) (T := TX12) (xE_12 c_11) rfl wd_644 wd_645 (wG_in (List.mem_append_left _ (List.mem_of_getElem? (i := 38) rfl)) rfl) xw_X12_sign rfl (by decide) rfl rfl dX12_is_39) (ev_X12_sign hO hP h_14) xw_X12_sign rfl wd_198 dX12_is_39 (by decide) (by decide) (by simp [x_cat, x_catI, x_catJ])
            cases h
            exact x_callX z9 (evX_out rfl)
        · rw [if_neg c_10] at h
          refine ev_icmp_ne (x := v_7) (y := v3) (tgt := 51) dX12_is_27 (by decide) (fun _ => ?_) (fun q9 => absurd q9 c_10)
          exact ev_sub [] rfl (ev_X12_is_p51 hO hP h)
      · have z9 := x_call (M := mX12_is) (M' := mX12_sign) (pc := 23) (st := [.int (((σ_3.I 1136 a0) + v1) + 1), va_rf (some a0)]) (rest := []) (av := [va_rf (some a0), .int (((σ_3.I 1136 a0) + v1) + 1)]) (x_linkV (M := mX12_is) (M' := mX12_sign) (As := [.int (((σ_3.I 1136 a0) + v1) + 1)]) (index := 128) (C := RX12) (T := TX12) (xE_12 c_6) rfl wd_644 wd_645 (wG_in (List.mem_append_left _ (List.mem_of_getElem? (i := 38) rfl)) rfl) xw_X12_sign rfl (by decide) rfl rfl dX12_is_23) (ev_X12_sign hO hP h_9) xw_X12_sign rfl wd_198 dX12_is_23 (by decide) (by decide) (by simp [x_cat, x_catI, x_catJ])
        cases h
        exact x_callX z9 (evX_out rfl)
    · rw [if_neg c_5] at h
      refine ev_icmp_ne (x := v_2) (y := v2) (tgt := 51) dX12_is_11 (by decide) (fun _ => ?_) (fun q9 => absurd q9 c_5)
      exact ev_sub [] rfl (ev_X12_is_p51 hO hP h)
  · have z9 := x_call (M := mX12_is) (M' := mX12_sign) (pc := 7) (st := [.int ((σ.I 1136 a0) + v1), va_rf (some a0)]) (rest := []) (av := [va_rf (some a0), .int ((σ.I 1136 a0) + v1)]) (x_linkV (M := mX12_is) (M' := mX12_sign) (As := [.int ((σ.I 1136 a0) + v1)]) (index := 128) (C := RX12) (T := TX12) (xE_12 c_1) rfl wd_644 wd_645 (wG_in (List.mem_append_left _ (List.mem_of_getElem? (i := 38) rfl)) rfl) xw_X12_sign rfl (by decide) rfl rfl dX12_is_7) (ev_X12_sign hO hP h_4) xw_X12_sign rfl wd_198 dX12_is_7 (by decide) (by decide) (by simp [x_cat, x_catI, x_catJ])
    cases h
    exact x_callX z9 (evX_out rfl)
