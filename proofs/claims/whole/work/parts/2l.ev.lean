set_option maxHeartbeats 4000000 in
set_option maxRecDepth 100000 in
theorem ev_L_law_p830 {l : Launch} {G : xG} (hO : x_OK l G) {P : xP} (hP : x_PG P G) {k23 : Option Nat → Option Nat → Option Nat → Option Nat → Int32 → xS → xO Int32} (hk23 : ∀ {v0 : Option Nat} {v1 : Option Nat} {v2 : Option Nat} {v3 : Option Nat} {v4 : Int32} {σ σ' : xS} {rr : Int32 ⊕ String}, k23 v0 v1 v2 v3 v4 σ = some (rr, σ') → Ev l G mL_law 23 [(0, va_rf v0), (1, va_rf v1), (2, va_rf v2), (3, va_rf v3), (4, .int v4)] [] σ (xrI rr) σ') {v0 : Option Nat} {v1 : Option Nat} {v2 : Option Nat} {v3 : Option Nat} {v4 : Int32} {σ σ' : xS} {rr : Int32 ⊕ String} (h : dm_L_law_p830 P k23 v0 v1 v2 v3 v4 σ = some (rr, σ')) : Ev l G mL_law 830 [(0, va_rf v0), (1, va_rf v1), (2, va_rf v2), (3, va_rf v3), (4, .int v4)] [] σ (xrI rr) σ' := by
  unfold dm_L_law_p830 at h
  obtain ⟨v_1, ev_1, h⟩ := x_let_e h
  refine ev_iinc (j := 4) (x := v4) (v := v_1) (lv' := [(4, .int v_1), (0, va_rf v0), (1, va_rf v1), (2, va_rf v2), (3, va_rf v3)]) dL_law_830 rfl (by rw [ev_1]; rfl) (by decide) (by simp [x_cat, x_catI, x_catJ]) ?_
  refine ev_goto (tgt := 23) dL_law_833 (by decide) ?_
  exact ev_sub [1, 2, 3, 4, 0] rfl (hk23 h)
set_option maxHeartbeats 4000000 in
set_option maxRecDepth 100000 in
theorem ev_L_law_p199 {l : Launch} {G : xG} (hO : x_OK l G) {P : xP} (hP : x_PG P G) {k23 : Option Nat → Option Nat → Option Nat → Option Nat → Int32 → xS → xO Int32} (hk23 : ∀ {v0 : Option Nat} {v1 : Option Nat} {v2 : Option Nat} {v3 : Option Nat} {v4 : Int32} {σ σ' : xS} {rr : Int32 ⊕ String}, k23 v0 v1 v2 v3 v4 σ = some (rr, σ') → Ev l G mL_law 23 [(0, va_rf v0), (1, va_rf v1), (2, va_rf v2), (3, va_rf v3), (4, .int v4)] [] σ (xrI rr) σ') {v0 : Option Nat} {v1 : Option Nat} {v2 : Option Nat} {v3 : Option Nat} {v4 : Int32} {σ σ' : xS} {rr : Int32 ⊕ String} (h : dm_L_law_p199 P k23 v0 v1 v2 v3 v4 σ = some (rr, σ')) : Ev l G mL_law 199 [(0, va_rf v0), (1, va_rf v1), (2, va_rf v2), (3, va_rf v3), (4, .int v4)] [] σ (xrI rr) σ' := by
  unfold dm_L_law_p199 at h
  refine ev_goto (tgt := 830) dL_law_199 (by decide) ?_
  exact ev_sub [0, 1, 2, 3, 4] rfl (ev_L_law_p830 hO hP hk23 h)
set_option maxHeartbeats 4000000 in
set_option maxRecDepth 100000 in
theorem ev_L_law_p267 {l : Launch} {G : xG} (hO : x_OK l G) {P : xP} (hP : x_PG P G) {k23 : Option Nat → Option Nat → Option Nat → Option Nat → Int32 → xS → xO Int32} (hk23 : ∀ {v0 : Option Nat} {v1 : Option Nat} {v2 : Option Nat} {v3 : Option Nat} {v4 : Int32} {σ σ' : xS} {rr : Int32 ⊕ String}, k23 v0 v1 v2 v3 v4 σ = some (rr, σ') → Ev l G mL_law 23 [(0, va_rf v0), (1, va_rf v1), (2, va_rf v2), (3, va_rf v3), (4, .int v4)] [] σ (xrI rr) σ') {v0 : Option Nat} {v1 : Option Nat} {v2 : Option Nat} {v3 : Option Nat} {v4 : Int32} {σ σ' : xS} {rr : Int32 ⊕ String} (h : dm_L_law_p267 P k23 v0 v1 v2 v3 v4 σ = some (rr, σ')) : Ev l G mL_law 267 [(0, va_rf v0), (1, va_rf v1), (2, va_rf v2), (3, va_rf v3), (4, .int v4)] [] σ (xrI rr) σ' := by
  unfold dm_L_law_p267 at h
  refine ev_goto (tgt := 830) dL_law_267 (by decide) ?_
  exact ev_sub [0, 1, 2, 3, 4] rfl (ev_L_law_p830 hO hP hk23 h)
set_option maxHeartbeats 4000000 in
set_option maxRecDepth 100000 in
theorem ev_L_law_p347 {l : Launch} {G : xG} (hO : x_OK l G) {P : xP} (hP : x_PG P G) {k23 : Option Nat → Option Nat → Option Nat → Option Nat → Int32 → xS → xO Int32} (hk23 : ∀ {v0 : Option Nat} {v1 : Option Nat} {v2 : Option Nat} {v3 : Option Nat} {v4 : Int32} {σ σ' : xS} {rr : Int32 ⊕ String}, k23 v0 v1 v2 v3 v4 σ = some (rr, σ') → Ev l G mL_law 23 [(0, va_rf v0), (1, va_rf v1), (2, va_rf v2), (3, va_rf v3), (4, .int v4)] [] σ (xrI rr) σ') {v0 : Option Nat} {v1 : Option Nat} {v2 : Option Nat} {v3 : Option Nat} {v4 : Int32} {σ σ' : xS} {rr : Int32 ⊕ String} (h : dm_L_law_p347 P k23 v0 v1 v2 v3 v4 σ = some (rr, σ')) : Ev l G mL_law 347 [(0, va_rf v0), (1, va_rf v1), (2, va_rf v2), (3, va_rf v3), (4, .int v4)] [] σ (xrI rr) σ' := by
  unfold dm_L_law_p347 at h
  refine ev_goto (tgt := 830) dL_law_347 (by decide) ?_
  exact ev_sub [0, 1, 2, 3, 4] rfl (ev_L_law_p830 hO hP hk23 h)
set_option maxHeartbeats 4000000 in
set_option maxRecDepth 100000 in
theorem ev_L_law_p427 {l : Launch} {G : xG} (hO : x_OK l G) {P : xP} (hP : x_PG P G) {k23 : Option Nat → Option Nat → Option Nat → Option Nat → Int32 → xS → xO Int32} (hk23 : ∀ {v0 : Option Nat} {v1 : Option Nat} {v2 : Option Nat} {v3 : Option Nat} {v4 : Int32} {σ σ' : xS} {rr : Int32 ⊕ String}, k23 v0 v1 v2 v3 v4 σ = some (rr, σ') → Ev l G mL_law 23 [(0, va_rf v0), (1, va_rf v1), (2, va_rf v2), (3, va_rf v3), (4, .int v4)] [] σ (xrI rr) σ') {v0 : Option Nat} {v1 : Option Nat} {v2 : Option Nat} {v3 : Option Nat} {v4 : Int32} {σ σ' : xS} {rr : Int32 ⊕ String} (h : dm_L_law_p427 P k23 v0 v1 v2 v3 v4 σ = some (rr, σ')) : Ev l G mL_law 427 [(0, va_rf v0), (1, va_rf v1), (2, va_rf v2), (3, va_rf v3), (4, .int v4)] [] σ (xrI rr) σ' := by
  unfold dm_L_law_p427 at h
  refine ev_goto (tgt := 830) dL_law_427 (by decide) ?_
  exact ev_sub [0, 1, 2, 3, 4] rfl (ev_L_law_p830 hO hP hk23 h)
set_option maxHeartbeats 4000000 in
set_option maxRecDepth 100000 in
theorem ev_L_law_p519 {l : Launch} {G : xG} (hO : x_OK l G) {P : xP} (hP : x_PG P G) {k23 : Option Nat → Option Nat → Option Nat → Option Nat → Int32 → xS → xO Int32} (hk23 : ∀ {v0 : Option Nat} {v1 : Option Nat} {v2 : Option Nat} {v3 : Option Nat} {v4 : Int32} {σ σ' : xS} {rr : Int32 ⊕ String}, k23 v0 v1 v2 v3 v4 σ = some (rr, σ') → Ev l G mL_law 23 [(0, va_rf v0), (1, va_rf v1), (2, va_rf v2), (3, va_rf v3), (4, .int v4)] [] σ (xrI rr) σ') {v0 : Option Nat} {v1 : Option Nat} {v2 : Option Nat} {v3 : Option Nat} {v4 : Int32} {σ σ' : xS} {rr : Int32 ⊕ String} (h : dm_L_law_p519 P k23 v0 v1 v2 v3 v4 σ = some (rr, σ')) : Ev l G mL_law 519 [(0, va_rf v0), (1, va_rf v1), (2, va_rf v2), (3, va_rf v3), (4, .int v4)] [] σ (xrI rr) σ' := by
  unfold dm_L_law_p519 at h
  refine ev_goto (tgt := 830) dL_law_519 (by decide) ?_
  exact ev_sub [0, 1, 2, 3, 4] rfl (ev_L_law_p830 hO hP hk23 h)
set_option maxHeartbeats 4000000 in
set_option maxRecDepth 100000 in
theorem ev_L_law_p611 {l : Launch} {G : xG} (hO : x_OK l G) {P : xP} (hP : x_PG P G) {k23 : Option Nat → Option Nat → Option Nat → Option Nat → Int32 → xS → xO Int32} (hk23 : ∀ {v0 : Option Nat} {v1 : Option Nat} {v2 : Option Nat} {v3 : Option Nat} {v4 : Int32} {σ σ' : xS} {rr : Int32 ⊕ String}, k23 v0 v1 v2 v3 v4 σ = some (rr, σ') → Ev l G mL_law 23 [(0, va_rf v0), (1, va_rf v1), (2, va_rf v2), (3, va_rf v3), (4, .int v4)] [] σ (xrI rr) σ') {v0 : Option Nat} {v1 : Option Nat} {v2 : Option Nat} {v3 : Option Nat} {v4 : Int32} {σ σ' : xS} {rr : Int32 ⊕ String} (h : dm_L_law_p611 P k23 v0 v1 v2 v3 v4 σ = some (rr, σ')) : Ev l G mL_law 611 [(0, va_rf v0), (1, va_rf v1), (2, va_rf v2), (3, va_rf v3), (4, .int v4)] [] σ (xrI rr) σ' := by
  unfold dm_L_law_p611 at h
  refine ev_goto (tgt := 830) dL_law_611 (by decide) ?_
  exact ev_sub [0, 1, 2, 3, 4] rfl (ev_L_law_p830 hO hP hk23 h)
set_option maxHeartbeats 4000000 in
set_option maxRecDepth 100000 in
theorem ev_L_law_p703 {l : Launch} {G : xG} (hO : x_OK l G) {P : xP} (hP : x_PG P G) {k23 : Option Nat → Option Nat → Option Nat → Option Nat → Int32 → xS → xO Int32} (hk23 : ∀ {v0 : Option Nat} {v1 : Option Nat} {v2 : Option Nat} {v3 : Option Nat} {v4 : Int32} {σ σ' : xS} {rr : Int32 ⊕ String}, k23 v0 v1 v2 v3 v4 σ = some (rr, σ') → Ev l G mL_law 23 [(0, va_rf v0), (1, va_rf v1), (2, va_rf v2), (3, va_rf v3), (4, .int v4)] [] σ (xrI rr) σ') {v0 : Option Nat} {v1 : Option Nat} {v2 : Option Nat} {v3 : Option Nat} {v4 : Int32} {σ σ' : xS} {rr : Int32 ⊕ String} (h : dm_L_law_p703 P k23 v0 v1 v2 v3 v4 σ = some (rr, σ')) : Ev l G mL_law 703 [(0, va_rf v0), (1, va_rf v1), (2, va_rf v2), (3, va_rf v3), (4, .int v4)] [] σ (xrI rr) σ' := by
  unfold dm_L_law_p703 at h
  refine ev_goto (tgt := 830) dL_law_703 (by decide) ?_
  exact ev_sub [0, 1, 2, 3, 4] rfl (ev_L_law_p830 hO hP hk23 h)
set_option maxHeartbeats 4000000 in
set_option maxRecDepth 100000 in
theorem ev_L_law_p771 {l : Launch} {G : xG} (hO : x_OK l G) {P : xP} (hP : x_PG P G) {k23 : Option Nat → Option Nat → Option Nat → Option Nat → Int32 → xS → xO Int32} (hk23 : ∀ {v0 : Option Nat} {v1 : Option Nat} {v2 : Option Nat} {v3 : Option Nat} {v4 : Int32} {σ σ' : xS} {rr : Int32 ⊕ String}, k23 v0 v1 v2 v3 v4 σ = some (rr, σ') → Ev l G mL_law 23 [(0, va_rf v0), (1, va_rf v1), (2, va_rf v2), (3, va_rf v3), (4, .int v4)] [] σ (xrI rr) σ') {v0 : Option Nat} {v1 : Option Nat} {v2 : Option Nat} {v3 : Option Nat} {v4 : Int32} {σ σ' : xS} {rr : Int32 ⊕ String} (h : dm_L_law_p771 P k23 v0 v1 v2 v3 v4 σ = some (rr, σ')) : Ev l G mL_law 771 [(0, va_rf v0), (1, va_rf v1), (2, va_rf v2), (3, va_rf v3), (4, .int v4)] [] σ (xrI rr) σ' := by
  unfold dm_L_law_p771 at h
  refine ev_goto (tgt := 830) dL_law_771 (by decide) ?_
  exact ev_sub [0, 1, 2, 3, 4] rfl (ev_L_law_p830 hO hP hk23 h)
set_option maxHeartbeats 4000000 in
set_option maxRecDepth 100000 in
theorem ev_L_law_p827 {l : Launch} {G : xG} (hO : x_OK l G) {P : xP} (hP : x_PG P G) {k23 : Option Nat → Option Nat → Option Nat → Option Nat → Int32 → xS → xO Int32} (hk23 : ∀ {v0 : Option Nat} {v1 : Option Nat} {v2 : Option Nat} {v3 : Option Nat} {v4 : Int32} {σ σ' : xS} {rr : Int32 ⊕ String}, k23 v0 v1 v2 v3 v4 σ = some (rr, σ') → Ev l G mL_law 23 [(0, va_rf v0), (1, va_rf v1), (2, va_rf v2), (3, va_rf v3), (4, .int v4)] [] σ (xrI rr) σ') {v0 : Option Nat} {v1 : Option Nat} {v2 : Option Nat} {v3 : Option Nat} {v4 : Int32} {σ σ' : xS} {rr : Int32 ⊕ String} (h : dm_L_law_p827 P k23 v0 v1 v2 v3 v4 σ = some (rr, σ')) : Ev l G mL_law 827 [(0, va_rf v0), (1, va_rf v1), (2, va_rf v2), (3, va_rf v3), (4, .int v4)] [] σ (xrI rr) σ' := by
  unfold dm_L_law_p827 at h
  refine ev_goto (tgt := 830) dL_law_827 (by decide) ?_
  exact ev_sub [0, 1, 2, 3, 4] rfl (ev_L_law_p830 hO hP hk23 h)
set_option maxHeartbeats 4000000 in
set_option maxRecDepth 100000 in
theorem ev_L_law_L23 {l : Launch} {G : xG} (hO : x_OK l G) {P : xP} (hP : x_PG P G) : ∀ (n : Nat) {v0 : Option Nat} {v1 : Option Nat} {v2 : Option Nat} {v3 : Option Nat} {v4 : Int32} {σ σ' : xS} {rr : Int32 ⊕ String}, dm_L_law_L23 P n v0 v1 v2 v3 v4 σ = some (rr, σ') → Ev l G mL_law 23 [(0, va_rf v0), (1, va_rf v1), (2, va_rf v2), (3, va_rf v3), (4, .int v4)] [] σ (xrI rr) σ' := by
  intro n
  induction n with
  | zero => intro v0 v1 v2 v3 v4 σ σ' rr h; cases h
  | succ n ih =>
    intro v0 v1 v2 v3 v4 σ σ' rr h
    rw [dm_L_law_L23] at h
    refine ev_iload (j := 4) (x := v4) dL_law_23 rfl ?_
    refine ev_aload_n (j := 0) (x := v0) dL_law_25 rfl rfl ?_
    obtain ⟨a_1, ea_1, h⟩ := x_some_e h
    refine ev_at (st' := [va_rf (some a_1), .int v4]) rfl (by rw [ea_1]) ?_
    obtain ⟨c_2, h⟩ := x_chk_e h
    refine ev_slen c_2 dL_law_26 ?_
    refine ev_iconst (v := 5) dL_law_27 (by decide) ?_
    refine ev_isub (x := (Int32.ofNat (σ.L a_1))) (y := 5) dL_law_28 ?_
    by_cases c_3 : ((Int32.ofNat (σ.L a_1)) - 5) < v4
    · rw [if_pos c_3] at h
      refine ev_icmp_gt (x := v4) (y := ((Int32.ofNat (σ.L a_1)) - 5)) (tgt := 836) dL_law_29 (by decide) (fun _ => ?_) (fun q9 => absurd c_3 q9)
      refine ev_iconst (v := 1) dL_law_836 (by decide) ?_
      cases h
      exact ev_iret rfl rfl dL_law_837
    · rw [if_neg c_3] at h
      refine ev_icmp_gt (x := v4) (y := ((Int32.ofNat (σ.L a_1)) - 5)) (tgt := 836) dL_law_29 (by decide) (fun q9 => absurd q9 c_3) (fun _ => ?_)
      refine ev_aload_n (j := 0) (x := v0) dL_law_32 rfl rfl ?_
      refine ev_iload (j := 4) (x := v4) dL_law_33 rfl ?_
      refine ev_at (st' := [.int v4, va_rf (some a_1)]) rfl (by rw [ea_1]) ?_
      obtain ⟨c_4, h⟩ := x_chk_e h
      refine ev_sld c_4.1 c_4.2 dL_law_35 ?_
      refine ev_bipush (v := 15) dL_law_36 (by decide) ?_
      refine ev_iand (x := (σ.AI a_1 (Int32.toNatClampNeg v4))) (y := 15) dL_law_38 ?_
      obtain ⟨v_5, ev_5, h⟩ := x_let_e h
      rw [← ev_5]
      by_cases c_6 : v_5 = 0
      · rw [if_pos c_6] at h
        refine ev_at (st' := .int 0 :: []) rfl (by rw [c_6]) ?_
        refine ev_tableIn (tgt := 96) (off := 57) dL_law_39 (by decide) (by decide) rfl (by decide) ?_
        refine ev_aload_n (j := 1) (x := v1) dL_law_96 rfl rfl ?_
        refine ev_aload_n (j := 0) (x := v0) dL_law_97 rfl rfl ?_
        refine ev_iload (j := 4) (x := v4) dL_law_98 rfl ?_
        refine ev_iconst (v := 1) dL_law_100 (by decide) ?_
        refine ev_iadd (x := v4) (y := 1) dL_law_101 ?_
        refine ev_at (st' := [.int (v4 + 1), va_rf (some a_1), va_rf v1]) rfl (by rw [ea_1]) ?_
        obtain ⟨c_7, h⟩ := x_chk_e h
        refine ev_sld c_7.1 c_7.2 dL_law_102 ?_
        obtain ⟨a_8, ea_8, h⟩ := x_some_e h
        refine ev_at (st' := [.int (σ.AI a_1 (Int32.toNatClampNeg (v4 + 1))), va_rf (some a_8)]) rfl (by rw [ea_8]) ?_
        obtain ⟨c_12, h⟩ := x_chk_e h
        rcases x_bind_e h with ⟨v_9, σ_10, h_11, h⟩ | ⟨E_21, σ_10, h_11, h⟩
        · have z9 := x_call (M := mL_law) (M' := mX11_unit) (pc := 103) (st := [.int (σ.AI a_1 (Int32.toNatClampNeg (v4 + 1))), va_rf (some a_8)]) (rest := []) (av := [va_rf (some a_8), .int (σ.AI a_1 (Int32.toNatClampNeg (v4 + 1)))]) (x_linkV (M := mL_law) (M' := mX11_unit) (As := [.int (σ.AI a_1 (Int32.toNatClampNeg (v4 + 1)))]) (index := 46) (C := RX11) (T := TX11) (xE_11 c_12) rfl wd_988 wd_989 wd_987 xw_X11_unit rfl (by decide) rfl rfl dL_law_103) (ev_X11_unit hO hP h_11) xw_X11_unit rfl wd_5 dL_law_103 (by decide) (by decide) (by simp [x_cat, x_catI, x_catJ])
          refine x_callR z9 ?_
          refine ev_at (st' := [.int v_9]) rfl rfl ?_
          refine ev_aload_n (j := 2) (x := v2) dL_law_106 rfl rfl ?_
          refine ev_aload_n (j := 0) (x := v0) dL_law_107 rfl rfl ?_
          refine ev_iload (j := 4) (x := v4) dL_law_108 rfl ?_
          refine ev_iconst (v := 1) dL_law_110 (by decide) ?_
          refine ev_iadd (x := v4) (y := 1) dL_law_111 ?_
          refine ev_at (st' := [.int (v4 + 1), va_rf (some a_1), va_rf v2, .int v_9]) rfl (by rw [ea_1]) ?_
          obtain ⟨c_13, h⟩ := x_chk_e h
          refine ev_sld c_13.1 c_13.2 dL_law_112 ?_
          obtain ⟨a_14, ea_14, h⟩ := x_some_e h
          refine ev_at (st' := [.int (σ_10.AI a_1 (Int32.toNatClampNeg (v4 + 1))), va_rf (some a_14), .int v_9]) rfl (by rw [ea_14]) ?_
          obtain ⟨c_18, h⟩ := x_chk_e h
          rcases x_bind_e h with ⟨v_15, σ_16, h_17, h⟩ | ⟨E_20, σ_16, h_17, h⟩
          · have z9 := x_call (M := mL_law) (M' := mX12_unit) (pc := 113) (st := [.int (σ_10.AI a_1 (Int32.toNatClampNeg (v4 + 1))), va_rf (some a_14), .int v_9]) (rest := [.int v_9]) (av := [va_rf (some a_14), .int (σ_10.AI a_1 (Int32.toNatClampNeg (v4 + 1)))]) (x_linkV (M := mL_law) (M' := mX12_unit) (As := [.int (σ_10.AI a_1 (Int32.toNatClampNeg (v4 + 1)))]) (index := 50) (C := RX12) (T := TX12) (xE_12 c_18) rfl wd_992 wd_993 wd_991 xw_X12_unit rfl (by decide) rfl rfl dL_law_113) (ev_X12_unit hO hP h_17) xw_X12_unit rfl wd_198 dL_law_113 (by decide) (by decide) (by simp [x_cat, x_catI, x_catJ])
            refine x_callR z9 ?_
            refine ev_at (st' := [.int v_15, .int v_9]) rfl rfl ?_
            by_cases c_19 : v_9 = v_15
            · rw [if_pos c_19] at h
              refine ev_icmp_eq (x := v_9) (y := v_15) (tgt := 830) dL_law_116 (by decide) (fun _ => ?_) (fun q9 => absurd c_19 q9)
              exact ev_sub [0, 1, 2, 3, 4] rfl (ev_L_law_p830 hO hP ih h)
            · rw [if_neg c_19] at h
              refine ev_icmp_eq (x := v_9) (y := v_15) (tgt := 830) dL_law_116 (by decide) (fun q9 => absurd q9 c_19) (fun _ => ?_)
              refine ev_iconst (v := 0) dL_law_119 (by decide) ?_
              cases h
              exact ev_iret rfl rfl dL_law_120
          · have z9 := x_call (M := mL_law) (M' := mX12_unit) (pc := 113) (st := [.int (σ_10.AI a_1 (Int32.toNatClampNeg (v4 + 1))), va_rf (some a_14), .int v_9]) (rest := [.int v_9]) (av := [va_rf (some a_14), .int (σ_10.AI a_1 (Int32.toNatClampNeg (v4 + 1)))]) (x_linkV (M := mL_law) (M' := mX12_unit) (As := [.int (σ_10.AI a_1 (Int32.toNatClampNeg (v4 + 1)))]) (index := 50) (C := RX12) (T := TX12) (xE_12 c_18) rfl wd_992 wd_993 wd_991 xw_X12_unit rfl (by decide) rfl rfl dL_law_113) (ev_X12_unit hO hP h_17) xw_X12_unit rfl wd_198 dL_law_113 (by decide) (by decide) (by simp [x_cat, x_catI, x_catJ])
            cases h
            exact x_callX z9 (evX_out rfl)
        · have z9 := x_call (M := mL_law) (M' := mX11_unit) (pc := 103) (st := [.int (σ.AI a_1 (Int32.toNatClampNeg (v4 + 1))), va_rf (some a_8)]) (rest := []) (av := [va_rf (some a_8), .int (σ.AI a_1 (Int32.toNatClampNeg (v4 + 1)))]) (x_linkV (M := mL_law) (M' := mX11_unit) (As := [.int (σ.AI a_1 (Int32.toNatClampNeg (v4 + 1)))]) (index := 46) (C := RX11) (T := TX11) (xE_11 c_12) rfl wd_988 wd_989 wd_987 xw_X11_unit rfl (by decide) rfl rfl dL_law_103) (ev_X11_unit hO hP h_11) xw_X11_unit rfl wd_5 dL_law_103 (by decide) (by decide) (by simp [x_cat, x_catI, x_catJ])
          cases h
          exact x_callX z9 (evX_out rfl)
      rw [if_neg c_6] at h
      by_cases c_22 : v_5 = 1
      · rw [if_pos c_22] at h
        refine ev_at (st' := .int 1 :: []) rfl (by rw [c_22]) ?_
        refine ev_tableIn (tgt := 121) (off := 82) dL_law_39 (by decide) (by decide) rfl (by decide) ?_
        refine ev_aload_n (j := 1) (x := v1) dL_law_121 rfl rfl ?_
        refine ev_aload_n (j := 0) (x := v0) dL_law_122 rfl rfl ?_
        refine ev_iload (j := 4) (x := v4) dL_law_123 rfl ?_
        refine ev_iconst (v := 1) dL_law_125 (by decide) ?_
        refine ev_iadd (x := v4) (y := 1) dL_law_126 ?_
        refine ev_at (st' := [.int (v4 + 1), va_rf (some a_1), va_rf v1]) rfl (by rw [ea_1]) ?_
        obtain ⟨c_23, h⟩ := x_chk_e h
        refine ev_sld c_23.1 c_23.2 dL_law_127 ?_
        obtain ⟨a_24, ea_24, h⟩ := x_some_e h
        refine ev_at (st' := [.int (σ.AI a_1 (Int32.toNatClampNeg (v4 + 1))), va_rf (some a_24)]) rfl (by rw [ea_24]) ?_
        obtain ⟨c_28, h⟩ := x_chk_e h
        rcases x_bind_e h with ⟨v_25, σ_26, h_27, h⟩ | ⟨E_37, σ_26, h_27, h⟩
        · have z9 := x_call (M := mL_law) (M' := mX11_units) (pc := 128) (st := [.int (σ.AI a_1 (Int32.toNatClampNeg (v4 + 1))), va_rf (some a_24)]) (rest := []) (av := [va_rf (some a_24), .int (σ.AI a_1 (Int32.toNatClampNeg (v4 + 1)))]) (x_linkV (M := mL_law) (M' := mX11_units) (As := [.int (σ.AI a_1 (Int32.toNatClampNeg (v4 + 1)))]) (index := 51) (C := RX11) (T := TX11) (xE_11 c_28) rfl wd_996 wd_997 wd_995 xw_X11_units rfl (by decide) rfl rfl dL_law_128) (ev_X11_units hO hP h_27) xw_X11_units rfl wd_5 dL_law_128 (by decide) (by decide) (by simp [x_cat, x_catI, x_catJ])
          refine x_callR z9 ?_
          refine ev_at (st' := [.int v_25]) rfl rfl ?_
          refine ev_aload_n (j := 2) (x := v2) dL_law_131 rfl rfl ?_
          refine ev_aload_n (j := 0) (x := v0) dL_law_132 rfl rfl ?_
          refine ev_iload (j := 4) (x := v4) dL_law_133 rfl ?_
          refine ev_iconst (v := 1) dL_law_135 (by decide) ?_
          refine ev_iadd (x := v4) (y := 1) dL_law_136 ?_
          refine ev_at (st' := [.int (v4 + 1), va_rf (some a_1), va_rf v2, .int v_25]) rfl (by rw [ea_1]) ?_
          obtain ⟨c_29, h⟩ := x_chk_e h
          refine ev_sld c_29.1 c_29.2 dL_law_137 ?_
          obtain ⟨a_30, ea_30, h⟩ := x_some_e h
          refine ev_at (st' := [.int (σ_26.AI a_1 (Int32.toNatClampNeg (v4 + 1))), va_rf (some a_30), .int v_25]) rfl (by rw [ea_30]) ?_
          obtain ⟨c_34, h⟩ := x_chk_e h
          rcases x_bind_e h with ⟨v_31, σ_32, h_33, h⟩ | ⟨E_36, σ_32, h_33, h⟩
          · have z9 := x_call (M := mL_law) (M' := mX12_units) (pc := 138) (st := [.int (σ_26.AI a_1 (Int32.toNatClampNeg (v4 + 1))), va_rf (some a_30), .int v_25]) (rest := [.int v_25]) (av := [va_rf (some a_30), .int (σ_26.AI a_1 (Int32.toNatClampNeg (v4 + 1)))]) (x_linkV (M := mL_law) (M' := mX12_units) (As := [.int (σ_26.AI a_1 (Int32.toNatClampNeg (v4 + 1)))]) (index := 54) (C := RX12) (T := TX12) (xE_12 c_34) rfl wd_1000 wd_1001 wd_999 xw_X12_units rfl (by decide) rfl rfl dL_law_138) (ev_X12_units hO hP h_33) xw_X12_units rfl wd_198 dL_law_138 (by decide) (by decide) (by simp [x_cat, x_catI, x_catJ])
            refine x_callR z9 ?_
            refine ev_at (st' := [.int v_31, .int v_25]) rfl rfl ?_
            by_cases c_35 : v_25 = v_31
            · rw [if_pos c_35] at h
              refine ev_icmp_eq (x := v_25) (y := v_31) (tgt := 830) dL_law_141 (by decide) (fun _ => ?_) (fun q9 => absurd c_35 q9)
              exact ev_sub [0, 1, 2, 3, 4] rfl (ev_L_law_p830 hO hP ih h)
            · rw [if_neg c_35] at h
              refine ev_icmp_eq (x := v_25) (y := v_31) (tgt := 830) dL_law_141 (by decide) (fun q9 => absurd q9 c_35) (fun _ => ?_)
              refine ev_iconst (v := 0) dL_law_144 (by decide) ?_
              cases h
              exact ev_iret rfl rfl dL_law_145
          · have z9 := x_call (M := mL_law) (M' := mX12_units) (pc := 138) (st := [.int (σ_26.AI a_1 (Int32.toNatClampNeg (v4 + 1))), va_rf (some a_30), .int v_25]) (rest := [.int v_25]) (av := [va_rf (some a_30), .int (σ_26.AI a_1 (Int32.toNatClampNeg (v4 + 1)))]) (x_linkV (M := mL_law) (M' := mX12_units) (As := [.int (σ_26.AI a_1 (Int32.toNatClampNeg (v4 + 1)))]) (index := 54) (C := RX12) (T := TX12) (xE_12 c_34) rfl wd_1000 wd_1001 wd_999 xw_X12_units rfl (by decide) rfl rfl dL_law_138) (ev_X12_units hO hP h_33) xw_X12_units rfl wd_198 dL_law_138 (by decide) (by decide) (by simp [x_cat, x_catI, x_catJ])
            cases h
            exact x_callX z9 (evX_out rfl)
        · have z9 := x_call (M := mL_law) (M' := mX11_units) (pc := 128) (st := [.int (σ.AI a_1 (Int32.toNatClampNeg (v4 + 1))), va_rf (some a_24)]) (rest := []) (av := [va_rf (some a_24), .int (σ.AI a_1 (Int32.toNatClampNeg (v4 + 1)))]) (x_linkV (M := mL_law) (M' := mX11_units) (As := [.int (σ.AI a_1 (Int32.toNatClampNeg (v4 + 1)))]) (index := 51) (C := RX11) (T := TX11) (xE_11 c_28) rfl wd_996 wd_997 wd_995 xw_X11_units rfl (by decide) rfl rfl dL_law_128) (ev_X11_units hO hP h_27) xw_X11_units rfl wd_5 dL_law_128 (by decide) (by decide) (by simp [x_cat, x_catI, x_catJ])
          cases h
          exact x_callX z9 (evX_out rfl)
      rw [if_neg c_22] at h
      by_cases c_38 : v_5 = 2
      · rw [if_pos c_38] at h
        refine ev_at (st' := .int 2 :: []) rfl (by rw [c_38]) ?_
        refine ev_tableIn (tgt := 146) (off := 107) dL_law_39 (by decide) (by decide) rfl (by decide) ?_
        refine ev_aload_n (j := 1) (x := v1) dL_law_146 rfl rfl ?_
        refine ev_aload_n (j := 0) (x := v0) dL_law_147 rfl rfl ?_
        refine ev_iload (j := 4) (x := v4) dL_law_148 rfl ?_
        refine ev_iconst (v := 1) dL_law_150 (by decide) ?_
        refine ev_iadd (x := v4) (y := 1) dL_law_151 ?_
        refine ev_at (st' := [.int (v4 + 1), va_rf (some a_1), va_rf v1]) rfl (by rw [ea_1]) ?_
        obtain ⟨c_39, h⟩ := x_chk_e h
        refine ev_sld c_39.1 c_39.2 dL_law_152 ?_
        refine ev_aload_n (j := 3) (x := v3) dL_law_153 rfl rfl ?_
        rcases x_bind_e h with ⟨v_40, σ_41, h_42, h⟩ | ⟨E_60, σ_41, h_42, h⟩
        · have z9 := x_call (M := mL_law) (M' := mL_read) (pc := 154) (st := [va_rf v3, .int (σ.AI a_1 (Int32.toNatClampNeg (v4 + 1))), va_rf v1]) (rest := []) (av := [va_rf v1, .int (σ.AI a_1 (Int32.toNatClampNeg (v4 + 1))), va_rf v3]) (x_linkS (M := mL_law) (M' := mL_read) (As := [va_rf v1, .int (σ.AI a_1 (Int32.toNatClampNeg (v4 + 1))), va_rf v3]) (index := 55) wd_1003 wd_1004 wd_1005 xw_L_read rfl ⟨_, _, _, Or.inr ⟨_, wd_1002⟩⟩ (by decide) rfl rfl dL_law_154) (ev_L_read hO hP h_42) xw_L_read rfl wd_1005 dL_law_154 (by decide) (by decide) (by simp [x_cat, x_catI, x_catJ])
          refine x_callR z9 ?_
          refine ev_at (st' := [.int v_40]) rfl rfl ?_
          refine ev_istore (i := 5) (lv' := [(5, .int v_40), (0, va_rf v0), (1, va_rf v1), (2, va_rf v2), (3, va_rf v3), (4, .int v4)]) dL_law_157 (by decide) rfl ?_
          refine ev_aload_n (j := 3) (x := v2) dL_law_159 rfl rfl ?_
          refine ev_aload_n (j := 1) (x := v0) dL_law_160 rfl rfl ?_
          refine ev_iload (j := 5) (x := v4) dL_law_161 rfl ?_
          refine ev_iconst (v := 1) dL_law_163 (by decide) ?_
          refine ev_iadd (x := v4) (y := 1) dL_law_164 ?_
          refine ev_at (st' := [.int (v4 + 1), va_rf (some a_1), va_rf v2]) rfl (by rw [ea_1]) ?_
          obtain ⟨c_43, h⟩ := x_chk_e h
          refine ev_sld c_43.1 c_43.2 dL_law_165 ?_
          obtain ⟨a_44, ea_44, h⟩ := x_some_e h
          refine ev_at (st' := [.int (σ_41.AI a_1 (Int32.toNatClampNeg (v4 + 1))), va_rf (some a_44)]) rfl (by rw [ea_44]) ?_
          obtain ⟨c_48, h⟩ := x_chk_e h
          rcases x_bind_e h with ⟨v_45, σ_46, h_47, h⟩ | ⟨E_59, σ_46, h_47, h⟩
          · have z9 := x_call (M := mL_law) (M' := mX12_read) (pc := 166) (st := [.int (σ_41.AI a_1 (Int32.toNatClampNeg (v4 + 1))), va_rf (some a_44)]) (rest := []) (av := [va_rf (some a_44), .int (σ_41.AI a_1 (Int32.toNatClampNeg (v4 + 1)))]) (x_linkV (M := mL_law) (M' := mX12_read) (As := [.int (σ_41.AI a_1 (Int32.toNatClampNeg (v4 + 1)))]) (index := 60) (C := RX12) (T := TX12) (xE_12 c_48) rfl wd_1008 wd_1009 wd_1007 xw_X12_read rfl (by decide) rfl rfl dL_law_166) (ev_X12_read hO hP h_47) xw_X12_read rfl wd_198 dL_law_166 (by decide) (by decide) (by simp [x_cat, x_catI, x_catJ])
            refine x_callR z9 ?_
            refine ev_at (st' := [.int v_45]) rfl rfl ?_
            refine ev_istore (i := 6) (lv' := [(6, .int v_45), (5, .int v_40), (0, va_rf v0), (1, va_rf v1), (2, va_rf v2), (3, va_rf v3), (4, .int v4)]) dL_law_169 (by decide) rfl ?_
            refine ev_aload_n (j := 4) (x := v2) dL_law_171 rfl rfl ?_
            refine ev_at (st' := [va_rf (some a_44)]) rfl (by rw [ea_44]) ?_
            obtain ⟨c_52, h⟩ := x_chk_e h
            rcases x_bind_e h with ⟨v_49, σ_50, h_51, h⟩ | ⟨E_58, σ_50, h_51, h⟩
            · have z9 := x_call (M := mL_law) (M' := mX12_thrown) (pc := 172) (st := [va_rf (some a_44)]) (rest := []) (av := [va_rf (some a_44)]) (x_linkV (M := mL_law) (M' := mX12_thrown) (As := []) (index := 61) (C := RX12) (T := TX12) (xE_12 c_52) rfl wd_1012 wd_1013 wd_1011 xw_X12_thrown rfl (by decide) rfl rfl dL_law_172) (ev_X12_thrown hO hP h_51) xw_X12_thrown rfl wd_198 dL_law_172 (by decide) (by decide) (by simp [x_cat, x_catI, x_catJ])
              refine x_callR z9 ?_
              refine ev_at (st' := [.int v_49]) rfl rfl ?_
              refine ev_iload (j := 1) (x := v_40) dL_law_175 rfl ?_
              by_cases c_53 : v_49 = v_40
              · rw [if_pos c_53] at h
                refine ev_icmp_eq (x := v_49) (y := v_40) (tgt := 182) dL_law_177 (by decide) (fun _ => ?_) (fun q9 => absurd c_53 q9)
                refine ev_iload (j := 1) (x := v_40) dL_law_182 rfl ?_
                by_cases c_54 : v_40 = 0
                · rw [if_pos c_54] at h
                  refine ev_if_ne (x := v_40) (tgt := 199) dL_law_184 (by decide) (fun q9 => absurd c_54 q9) (fun _ => ?_)
                  refine ev_aload_n (j := 5) (x := v3) dL_law_187 rfl rfl ?_
                  refine ev_iconst (v := 0) dL_law_188 (by decide) ?_
                  obtain ⟨a_55, ea_55, h⟩ := x_some_e h
                  refine ev_at (st' := [.int 0, va_rf (some a_55)]) rfl (by rw [ea_55]) ?_
                  obtain ⟨c_56, h⟩ := x_chk_e h
                  refine ev_lald_42 c_56.1 c_56.2 dL_law_189 ?_
                  refine ev_iload (j := 0) (x := v_45) dL_law_190 rfl ?_
                  refine ev_i2l (x := v_45) dL_law_192 ?_
                  refine ev_lcmp (x := (σ_50.AJ a_55 (Int32.toNatClampNeg 0))) (y := (Int32.toInt64 v_45)) dL_law_193 ?_
                  by_cases c_57 : (lg_cmp (σ_50.AJ a_55 (Int32.toNatClampNeg 0)) (Int32.toInt64 v_45)) = 0
                  · rw [if_pos c_57] at h
                    refine ev_if_eq (x := (lg_cmp (σ_50.AJ a_55 (Int32.toNatClampNeg 0)) (Int32.toInt64 v_45))) (tgt := 199) dL_law_194 (by decide) (fun _ => ?_) (fun q9 => absurd c_57 q9)
                    exact ev_sub [2, 3, 4, 5, 6] rfl (ev_L_law_p199 hO hP ih h)
                  · rw [if_neg c_57] at h
                    refine ev_if_eq (x := (lg_cmp (σ_50.AJ a_55 (Int32.toNatClampNeg 0)) (Int32.toInt64 v_45))) (tgt := 199) dL_law_194 (by decide) (fun q9 => absurd q9 c_57) (fun _ => ?_)
                    refine ev_iconst (v := 0) dL_law_197 (by decide) ?_
                    cases h
                    exact ev_iret rfl rfl dL_law_198
                · rw [if_neg c_54] at h
                  refine ev_if_ne (x := v_40) (tgt := 199) dL_law_184 (by decide) (fun _ => ?_) (fun q9 => absurd q9 c_54)
                  exact ev_sub [2, 3, 4, 5, 6] rfl (ev_L_law_p199 hO hP ih h)
              · rw [if_neg c_53] at h
                refine ev_icmp_eq (x := v_49) (y := v_40) (tgt := 182) dL_law_177 (by decide) (fun q9 => absurd q9 c_53) (fun _ => ?_)
                refine ev_iconst (v := 0) dL_law_180 (by decide) ?_
                cases h
                exact ev_iret rfl rfl dL_law_181
            · have z9 := x_call (M := mL_law) (M' := mX12_thrown) (pc := 172) (st := [va_rf (some a_44)]) (rest := []) (av := [va_rf (some a_44)]) (x_linkV (M := mL_law) (M' := mX12_thrown) (As := []) (index := 61) (C := RX12) (T := TX12) (xE_12 c_52) rfl wd_1012 wd_1013 wd_1011 xw_X12_thrown rfl (by decide) rfl rfl dL_law_172) (ev_X12_thrown hO hP h_51) xw_X12_thrown rfl wd_198 dL_law_172 (by decide) (by decide) (by simp [x_cat, x_catI, x_catJ])
              cases h
              exact x_callX z9 (evX_out rfl)
          · have z9 := x_call (M := mL_law) (M' := mX12_read) (pc := 166) (st := [.int (σ_41.AI a_1 (Int32.toNatClampNeg (v4 + 1))), va_rf (some a_44)]) (rest := []) (av := [va_rf (some a_44), .int (σ_41.AI a_1 (Int32.toNatClampNeg (v4 + 1)))]) (x_linkV (M := mL_law) (M' := mX12_read) (As := [.int (σ_41.AI a_1 (Int32.toNatClampNeg (v4 + 1)))]) (index := 60) (C := RX12) (T := TX12) (xE_12 c_48) rfl wd_1008 wd_1009 wd_1007 xw_X12_read rfl (by decide) rfl rfl dL_law_166) (ev_X12_read hO hP h_47) xw_X12_read rfl wd_198 dL_law_166 (by decide) (by decide) (by simp [x_cat, x_catI, x_catJ])
            cases h
            exact x_callX z9 (evX_out rfl)
        · have z9 := x_call (M := mL_law) (M' := mL_read) (pc := 154) (st := [va_rf v3, .int (σ.AI a_1 (Int32.toNatClampNeg (v4 + 1))), va_rf v1]) (rest := []) (av := [va_rf v1, .int (σ.AI a_1 (Int32.toNatClampNeg (v4 + 1))), va_rf v3]) (x_linkS (M := mL_law) (M' := mL_read) (As := [va_rf v1, .int (σ.AI a_1 (Int32.toNatClampNeg (v4 + 1))), va_rf v3]) (index := 55) wd_1003 wd_1004 wd_1005 xw_L_read rfl ⟨_, _, _, Or.inr ⟨_, wd_1002⟩⟩ (by decide) rfl rfl dL_law_154) (ev_L_read hO hP h_42) xw_L_read rfl wd_1005 dL_law_154 (by decide) (by decide) (by simp [x_cat, x_catI, x_catJ])
          cases h
          exact x_callX z9 (evX_out rfl)
      rw [if_neg c_38] at h
      by_cases c_61 : v_5 = 3
      · rw [if_pos c_61] at h
        refine ev_at (st' := .int 3 :: []) rfl (by rw [c_61]) ?_
        refine ev_tableIn (tgt := 202) (off := 163) dL_law_39 (by decide) (by decide) rfl (by decide) ?_
        refine ev_aload_n (j := 1) (x := v1) dL_law_202 rfl rfl ?_
        refine ev_aload_n (j := 0) (x := v0) dL_law_203 rfl rfl ?_
        refine ev_iload (j := 4) (x := v4) dL_law_204 rfl ?_
        refine ev_iconst (v := 1) dL_law_206 (by decide) ?_
        refine ev_iadd (x := v4) (y := 1) dL_law_207 ?_
        refine ev_at (st' := [.int (v4 + 1), va_rf (some a_1), va_rf v1]) rfl (by rw [ea_1]) ?_
        obtain ⟨c_62, h⟩ := x_chk_e h
        refine ev_sld c_62.1 c_62.2 dL_law_208 ?_
        refine ev_aload_n (j := 0) (x := v0) dL_law_209 rfl rfl ?_
        refine ev_iload (j := 4) (x := v4) dL_law_210 rfl ?_
        refine ev_iconst (v := 2) dL_law_212 (by decide) ?_
        refine ev_iadd (x := v4) (y := 2) dL_law_213 ?_
        refine ev_at (st' := [.int (v4 + 2), va_rf (some a_1), .int (σ.AI a_1 (Int32.toNatClampNeg (v4 + 1))), va_rf v1]) rfl (by rw [ea_1]) ?_
        obtain ⟨c_63, h⟩ := x_chk_e h
        refine ev_sld c_63.1 c_63.2 dL_law_214 ?_
        refine ev_aload_n (j := 3) (x := v3) dL_law_215 rfl rfl ?_
        rcases x_bind_e h with ⟨v_64, σ_65, h_66, h⟩ | ⟨E_85, σ_65, h_66, h⟩
        · have z9 := x_call (M := mL_law) (M' := mL_module) (pc := 216) (st := [va_rf v3, .int (σ.AI a_1 (Int32.toNatClampNeg (v4 + 2))), .int (σ.AI a_1 (Int32.toNatClampNeg (v4 + 1))), va_rf v1]) (rest := []) (av := [va_rf v1, .int (σ.AI a_1 (Int32.toNatClampNeg (v4 + 1))), .int (σ.AI a_1 (Int32.toNatClampNeg (v4 + 2))), va_rf v3]) (x_linkS (M := mL_law) (M' := mL_module) (As := [va_rf v1, .int (σ.AI a_1 (Int32.toNatClampNeg (v4 + 1))), .int (σ.AI a_1 (Int32.toNatClampNeg (v4 + 2))), va_rf v3]) (index := 65) wd_1015 wd_1016 wd_1005 xw_L_module rfl ⟨_, _, _, Or.inr ⟨_, wd_1014⟩⟩ (by decide) rfl rfl dL_law_216) (ev_L_module hO hP h_66) xw_L_module rfl wd_1005 dL_law_216 (by decide) (by decide) (by simp [x_cat, x_catI, x_catJ])
          refine x_callR z9 ?_
          refine ev_at (st' := [.int v_64]) rfl rfl ?_
          refine ev_istore (i := 5) (lv' := [(5, .int v_64), (0, va_rf v0), (1, va_rf v1), (2, va_rf v2), (3, va_rf v3), (4, .int v4)]) dL_law_219 (by decide) rfl ?_
          refine ev_aload_n (j := 3) (x := v2) dL_law_221 rfl rfl ?_
          refine ev_aload_n (j := 1) (x := v0) dL_law_222 rfl rfl ?_
          refine ev_iload (j := 5) (x := v4) dL_law_223 rfl ?_
          refine ev_iconst (v := 1) dL_law_225 (by decide) ?_
          refine ev_iadd (x := v4) (y := 1) dL_law_226 ?_
          refine ev_at (st' := [.int (v4 + 1), va_rf (some a_1), va_rf v2]) rfl (by rw [ea_1]) ?_
          obtain ⟨c_67, h⟩ := x_chk_e h
          refine ev_sld c_67.1 c_67.2 dL_law_227 ?_
          refine ev_aload_n (j := 1) (x := v0) dL_law_228 rfl rfl ?_
          refine ev_iload (j := 5) (x := v4) dL_law_229 rfl ?_
          refine ev_iconst (v := 2) dL_law_231 (by decide) ?_
          refine ev_iadd (x := v4) (y := 2) dL_law_232 ?_
          refine ev_at (st' := [.int (v4 + 2), va_rf (some a_1), .int (σ_65.AI a_1 (Int32.toNatClampNeg (v4 + 1))), va_rf v2]) rfl (by rw [ea_1]) ?_
          obtain ⟨c_68, h⟩ := x_chk_e h
          refine ev_sld c_68.1 c_68.2 dL_law_233 ?_
          obtain ⟨a_69, ea_69, h⟩ := x_some_e h
          refine ev_at (st' := [.int (σ_65.AI a_1 (Int32.toNatClampNeg (v4 + 2))), .int (σ_65.AI a_1 (Int32.toNatClampNeg (v4 + 1))), va_rf (some a_69)]) rfl (by rw [ea_69]) ?_
          obtain ⟨c_73, h⟩ := x_chk_e h
          rcases x_bind_e h with ⟨v_70, σ_71, h_72, h⟩ | ⟨E_84, σ_71, h_72, h⟩
          · have z9 := x_call (M := mL_law) (M' := mX12_module) (pc := 234) (st := [.int (σ_65.AI a_1 (Int32.toNatClampNeg (v4 + 2))), .int (σ_65.AI a_1 (Int32.toNatClampNeg (v4 + 1))), va_rf (some a_69)]) (rest := []) (av := [va_rf (some a_69), .int (σ_65.AI a_1 (Int32.toNatClampNeg (v4 + 1))), .int (σ_65.AI a_1 (Int32.toNatClampNeg (v4 + 2)))]) (x_linkV (M := mL_law) (M' := mX12_module) (As := [.int (σ_65.AI a_1 (Int32.toNatClampNeg (v4 + 1))), .int (σ_65.AI a_1 (Int32.toNatClampNeg (v4 + 2)))]) (index := 68) (C := RX12) (T := TX12) (xE_12 c_73) rfl wd_1019 wd_1020 wd_1018 xw_X12_module rfl (by decide) rfl rfl dL_law_234) (ev_X12_module hO hP h_72) xw_X12_module rfl wd_198 dL_law_234 (by decide) (by decide) (by simp [x_cat, x_catI, x_catJ])
            refine x_callR z9 ?_
            refine ev_at (st' := [.int v_70]) rfl rfl ?_
            refine ev_istore (i := 6) (lv' := [(6, .int v_70), (5, .int v_64), (0, va_rf v0), (1, va_rf v1), (2, va_rf v2), (3, va_rf v3), (4, .int v4)]) dL_law_237 (by decide) rfl ?_
            refine ev_aload_n (j := 4) (x := v2) dL_law_239 rfl rfl ?_
            refine ev_at (st' := [va_rf (some a_69)]) rfl (by rw [ea_69]) ?_
            obtain ⟨c_77, h⟩ := x_chk_e h
            rcases x_bind_e h with ⟨v_74, σ_75, h_76, h⟩ | ⟨E_83, σ_75, h_76, h⟩
            · have z9 := x_call (M := mL_law) (M' := mX12_thrown) (pc := 240) (st := [va_rf (some a_69)]) (rest := []) (av := [va_rf (some a_69)]) (x_linkV (M := mL_law) (M' := mX12_thrown) (As := []) (index := 61) (C := RX12) (T := TX12) (xE_12 c_77) rfl wd_1012 wd_1013 wd_1011 xw_X12_thrown rfl (by decide) rfl rfl dL_law_240) (ev_X12_thrown hO hP h_76) xw_X12_thrown rfl wd_198 dL_law_240 (by decide) (by decide) (by simp [x_cat, x_catI, x_catJ])
              refine x_callR z9 ?_
              refine ev_at (st' := [.int v_74]) rfl rfl ?_
              refine ev_iload (j := 1) (x := v_64) dL_law_243 rfl ?_
              by_cases c_78 : v_74 = v_64
              · rw [if_pos c_78] at h
                refine ev_icmp_eq (x := v_74) (y := v_64) (tgt := 250) dL_law_245 (by decide) (fun _ => ?_) (fun q9 => absurd c_78 q9)
                refine ev_iload (j := 1) (x := v_64) dL_law_250 rfl ?_
                by_cases c_79 : v_64 = 0
                · rw [if_pos c_79] at h
                  refine ev_if_ne (x := v_64) (tgt := 267) dL_law_252 (by decide) (fun q9 => absurd c_79 q9) (fun _ => ?_)
                  refine ev_aload_n (j := 5) (x := v3) dL_law_255 rfl rfl ?_
                  refine ev_iconst (v := 0) dL_law_256 (by decide) ?_
                  obtain ⟨a_80, ea_80, h⟩ := x_some_e h
                  refine ev_at (st' := [.int 0, va_rf (some a_80)]) rfl (by rw [ea_80]) ?_
                  obtain ⟨c_81, h⟩ := x_chk_e h
                  refine ev_lald_42 c_81.1 c_81.2 dL_law_257 ?_
                  refine ev_iload (j := 0) (x := v_70) dL_law_258 rfl ?_
                  refine ev_i2l (x := v_70) dL_law_260 ?_
                  refine ev_lcmp (x := (σ_75.AJ a_80 (Int32.toNatClampNeg 0))) (y := (Int32.toInt64 v_70)) dL_law_261 ?_
                  by_cases c_82 : (lg_cmp (σ_75.AJ a_80 (Int32.toNatClampNeg 0)) (Int32.toInt64 v_70)) = 0
                  · rw [if_pos c_82] at h
                    refine ev_if_eq (x := (lg_cmp (σ_75.AJ a_80 (Int32.toNatClampNeg 0)) (Int32.toInt64 v_70))) (tgt := 267) dL_law_262 (by decide) (fun _ => ?_) (fun q9 => absurd c_82 q9)
                    exact ev_sub [2, 3, 4, 5, 6] rfl (ev_L_law_p267 hO hP ih h)
                  · rw [if_neg c_82] at h
                    refine ev_if_eq (x := (lg_cmp (σ_75.AJ a_80 (Int32.toNatClampNeg 0)) (Int32.toInt64 v_70))) (tgt := 267) dL_law_262 (by decide) (fun q9 => absurd q9 c_82) (fun _ => ?_)
                    refine ev_iconst (v := 0) dL_law_265 (by decide) ?_
                    cases h
                    exact ev_iret rfl rfl dL_law_266
                · rw [if_neg c_79] at h
                  refine ev_if_ne (x := v_64) (tgt := 267) dL_law_252 (by decide) (fun _ => ?_) (fun q9 => absurd q9 c_79)
                  exact ev_sub [2, 3, 4, 5, 6] rfl (ev_L_law_p267 hO hP ih h)
              · rw [if_neg c_78] at h
                refine ev_icmp_eq (x := v_74) (y := v_64) (tgt := 250) dL_law_245 (by decide) (fun q9 => absurd q9 c_78) (fun _ => ?_)
                refine ev_iconst (v := 0) dL_law_248 (by decide) ?_
                cases h
                exact ev_iret rfl rfl dL_law_249
            · have z9 := x_call (M := mL_law) (M' := mX12_thrown) (pc := 240) (st := [va_rf (some a_69)]) (rest := []) (av := [va_rf (some a_69)]) (x_linkV (M := mL_law) (M' := mX12_thrown) (As := []) (index := 61) (C := RX12) (T := TX12) (xE_12 c_77) rfl wd_1012 wd_1013 wd_1011 xw_X12_thrown rfl (by decide) rfl rfl dL_law_240) (ev_X12_thrown hO hP h_76) xw_X12_thrown rfl wd_198 dL_law_240 (by decide) (by decide) (by simp [x_cat, x_catI, x_catJ])
              cases h
              exact x_callX z9 (evX_out rfl)
          · have z9 := x_call (M := mL_law) (M' := mX12_module) (pc := 234) (st := [.int (σ_65.AI a_1 (Int32.toNatClampNeg (v4 + 2))), .int (σ_65.AI a_1 (Int32.toNatClampNeg (v4 + 1))), va_rf (some a_69)]) (rest := []) (av := [va_rf (some a_69), .int (σ_65.AI a_1 (Int32.toNatClampNeg (v4 + 1))), .int (σ_65.AI a_1 (Int32.toNatClampNeg (v4 + 2)))]) (x_linkV (M := mL_law) (M' := mX12_module) (As := [.int (σ_65.AI a_1 (Int32.toNatClampNeg (v4 + 1))), .int (σ_65.AI a_1 (Int32.toNatClampNeg (v4 + 2)))]) (index := 68) (C := RX12) (T := TX12) (xE_12 c_73) rfl wd_1019 wd_1020 wd_1018 xw_X12_module rfl (by decide) rfl rfl dL_law_234) (ev_X12_module hO hP h_72) xw_X12_module rfl wd_198 dL_law_234 (by decide) (by decide) (by simp [x_cat, x_catI, x_catJ])
            cases h
            exact x_callX z9 (evX_out rfl)
        · have z9 := x_call (M := mL_law) (M' := mL_module) (pc := 216) (st := [va_rf v3, .int (σ.AI a_1 (Int32.toNatClampNeg (v4 + 2))), .int (σ.AI a_1 (Int32.toNatClampNeg (v4 + 1))), va_rf v1]) (rest := []) (av := [va_rf v1, .int (σ.AI a_1 (Int32.toNatClampNeg (v4 + 1))), .int (σ.AI a_1 (Int32.toNatClampNeg (v4 + 2))), va_rf v3]) (x_linkS (M := mL_law) (M' := mL_module) (As := [va_rf v1, .int (σ.AI a_1 (Int32.toNatClampNeg (v4 + 1))), .int (σ.AI a_1 (Int32.toNatClampNeg (v4 + 2))), va_rf v3]) (index := 65) wd_1015 wd_1016 wd_1005 xw_L_module rfl ⟨_, _, _, Or.inr ⟨_, wd_1014⟩⟩ (by decide) rfl rfl dL_law_216) (ev_L_module hO hP h_66) xw_L_module rfl wd_1005 dL_law_216 (by decide) (by decide) (by simp [x_cat, x_catI, x_catJ])
          cases h
          exact x_callX z9 (evX_out rfl)
      rw [if_neg c_61] at h
      by_cases c_86 : v_5 = 4
      · rw [if_pos c_86] at h
        refine ev_at (st' := .int 4 :: []) rfl (by rw [c_86]) ?_
        refine ev_tableIn (tgt := 270) (off := 231) dL_law_39 (by decide) (by decide) rfl (by decide) ?_
        refine ev_aload_n (j := 1) (x := v1) dL_law_270 rfl rfl ?_
        refine ev_aload_n (j := 0) (x := v0) dL_law_271 rfl rfl ?_
        refine ev_iload (j := 4) (x := v4) dL_law_272 rfl ?_
        refine ev_iconst (v := 1) dL_law_274 (by decide) ?_
        refine ev_iadd (x := v4) (y := 1) dL_law_275 ?_
        refine ev_at (st' := [.int (v4 + 1), va_rf (some a_1), va_rf v1]) rfl (by rw [ea_1]) ?_
        obtain ⟨c_87, h⟩ := x_chk_e h
        refine ev_sld c_87.1 c_87.2 dL_law_276 ?_
        refine ev_aload_n (j := 0) (x := v0) dL_law_277 rfl rfl ?_
        refine ev_iload (j := 4) (x := v4) dL_law_278 rfl ?_
        refine ev_iconst (v := 2) dL_law_280 (by decide) ?_
        refine ev_iadd (x := v4) (y := 2) dL_law_281 ?_
        refine ev_at (st' := [.int (v4 + 2), va_rf (some a_1), .int (σ.AI a_1 (Int32.toNatClampNeg (v4 + 1))), va_rf v1]) rfl (by rw [ea_1]) ?_
        obtain ⟨c_88, h⟩ := x_chk_e h
        refine ev_sld c_88.1 c_88.2 dL_law_282 ?_
        refine ev_aload_n (j := 0) (x := v0) dL_law_283 rfl rfl ?_
        refine ev_iload (j := 4) (x := v4) dL_law_284 rfl ?_
        refine ev_iconst (v := 3) dL_law_286 (by decide) ?_
        refine ev_iadd (x := v4) (y := 3) dL_law_287 ?_
        refine ev_at (st' := [.int (v4 + 3), va_rf (some a_1), .int (σ.AI a_1 (Int32.toNatClampNeg (v4 + 2))), .int (σ.AI a_1 (Int32.toNatClampNeg (v4 + 1))), va_rf v1]) rfl (by rw [ea_1]) ?_
        obtain ⟨c_89, h⟩ := x_chk_e h
        refine ev_sld c_89.1 c_89.2 dL_law_288 ?_
        refine ev_aload_n (j := 3) (x := v3) dL_law_289 rfl rfl ?_
        rcases x_bind_e h with ⟨v_90, σ_91, h_92, h⟩ | ⟨E_112, σ_91, h_92, h⟩
        · have z9 := x_call (M := mL_law) (M' := mL_net) (pc := 290) (st := [va_rf v3, .int (σ.AI a_1 (Int32.toNatClampNeg (v4 + 3))), .int (σ.AI a_1 (Int32.toNatClampNeg (v4 + 2))), .int (σ.AI a_1 (Int32.toNatClampNeg (v4 + 1))), va_rf v1]) (rest := []) (av := [va_rf v1, .int (σ.AI a_1 (Int32.toNatClampNeg (v4 + 1))), .int (σ.AI a_1 (Int32.toNatClampNeg (v4 + 2))), .int (σ.AI a_1 (Int32.toNatClampNeg (v4 + 3))), va_rf v3]) (x_linkS (M := mL_law) (M' := mL_net) (As := [va_rf v1, .int (σ.AI a_1 (Int32.toNatClampNeg (v4 + 1))), .int (σ.AI a_1 (Int32.toNatClampNeg (v4 + 2))), .int (σ.AI a_1 (Int32.toNatClampNeg (v4 + 3))), va_rf v3]) (index := 69) wd_1022 wd_1023 wd_1005 xw_L_net rfl ⟨_, _, _, Or.inr ⟨_, wd_1021⟩⟩ (by decide) rfl rfl dL_law_290) (ev_L_net hO hP h_92) xw_L_net rfl wd_1005 dL_law_290 (by decide) (by decide) (by simp [x_cat, x_catI, x_catJ])
          refine x_callR z9 ?_
          refine ev_at (st' := [.int v_90]) rfl rfl ?_
          refine ev_istore (i := 5) (lv' := [(5, .int v_90), (0, va_rf v0), (1, va_rf v1), (2, va_rf v2), (3, va_rf v3), (4, .int v4)]) dL_law_293 (by decide) rfl ?_
          refine ev_aload_n (j := 3) (x := v2) dL_law_295 rfl rfl ?_
          refine ev_aload_n (j := 1) (x := v0) dL_law_296 rfl rfl ?_
          refine ev_iload (j := 5) (x := v4) dL_law_297 rfl ?_
          refine ev_iconst (v := 1) dL_law_299 (by decide) ?_
          refine ev_iadd (x := v4) (y := 1) dL_law_300 ?_
          refine ev_at (st' := [.int (v4 + 1), va_rf (some a_1), va_rf v2]) rfl (by rw [ea_1]) ?_
          obtain ⟨c_93, h⟩ := x_chk_e h
          refine ev_sld c_93.1 c_93.2 dL_law_301 ?_
          refine ev_aload_n (j := 1) (x := v0) dL_law_302 rfl rfl ?_
          refine ev_iload (j := 5) (x := v4) dL_law_303 rfl ?_
          refine ev_iconst (v := 2) dL_law_305 (by decide) ?_
          refine ev_iadd (x := v4) (y := 2) dL_law_306 ?_
          refine ev_at (st' := [.int (v4 + 2), va_rf (some a_1), .int (σ_91.AI a_1 (Int32.toNatClampNeg (v4 + 1))), va_rf v2]) rfl (by rw [ea_1]) ?_
          obtain ⟨c_94, h⟩ := x_chk_e h
          refine ev_sld c_94.1 c_94.2 dL_law_307 ?_
          refine ev_aload_n (j := 1) (x := v0) dL_law_308 rfl rfl ?_
          refine ev_iload (j := 5) (x := v4) dL_law_309 rfl ?_
          refine ev_iconst (v := 3) dL_law_311 (by decide) ?_
          refine ev_iadd (x := v4) (y := 3) dL_law_312 ?_
          refine ev_at (st' := [.int (v4 + 3), va_rf (some a_1), .int (σ_91.AI a_1 (Int32.toNatClampNeg (v4 + 2))), .int (σ_91.AI a_1 (Int32.toNatClampNeg (v4 + 1))), va_rf v2]) rfl (by rw [ea_1]) ?_
          obtain ⟨c_95, h⟩ := x_chk_e h
          refine ev_sld c_95.1 c_95.2 dL_law_313 ?_
          obtain ⟨a_96, ea_96, h⟩ := x_some_e h
          refine ev_at (st' := [.int (σ_91.AI a_1 (Int32.toNatClampNeg (v4 + 3))), .int (σ_91.AI a_1 (Int32.toNatClampNeg (v4 + 2))), .int (σ_91.AI a_1 (Int32.toNatClampNeg (v4 + 1))), va_rf (some a_96)]) rfl (by rw [ea_96]) ?_
          obtain ⟨c_100, h⟩ := x_chk_e h
          rcases x_bind_e h with ⟨v_97, σ_98, h_99, h⟩ | ⟨E_111, σ_98, h_99, h⟩
          · have z9 := x_call (M := mL_law) (M' := mX12_net) (pc := 314) (st := [.int (σ_91.AI a_1 (Int32.toNatClampNeg (v4 + 3))), .int (σ_91.AI a_1 (Int32.toNatClampNeg (v4 + 2))), .int (σ_91.AI a_1 (Int32.toNatClampNeg (v4 + 1))), va_rf (some a_96)]) (rest := []) (av := [va_rf (some a_96), .int (σ_91.AI a_1 (Int32.toNatClampNeg (v4 + 1))), .int (σ_91.AI a_1 (Int32.toNatClampNeg (v4 + 2))), .int (σ_91.AI a_1 (Int32.toNatClampNeg (v4 + 3)))]) (x_linkV (M := mL_law) (M' := mX12_net) (As := [.int (σ_91.AI a_1 (Int32.toNatClampNeg (v4 + 1))), .int (σ_91.AI a_1 (Int32.toNatClampNeg (v4 + 2))), .int (σ_91.AI a_1 (Int32.toNatClampNeg (v4 + 3)))]) (index := 72) (C := RX12) (T := TX12) (xE_12 c_100) rfl wd_1026 wd_1027 wd_1025 xw_X12_net rfl (by decide) rfl rfl dL_law_314) (ev_X12_net hO hP h_99) xw_X12_net rfl wd_198 dL_law_314 (by decide) (by decide) (by simp [x_cat, x_catI, x_catJ])
            refine x_callR z9 ?_
            refine ev_at (st' := [.int v_97]) rfl rfl ?_
            refine ev_istore (i := 6) (lv' := [(6, .int v_97), (5, .int v_90), (0, va_rf v0), (1, va_rf v1), (2, va_rf v2), (3, va_rf v3), (4, .int v4)]) dL_law_317 (by decide) rfl ?_
            refine ev_aload_n (j := 4) (x := v2) dL_law_319 rfl rfl ?_
            refine ev_at (st' := [va_rf (some a_96)]) rfl (by rw [ea_96]) ?_
            obtain ⟨c_104, h⟩ := x_chk_e h
            rcases x_bind_e h with ⟨v_101, σ_102, h_103, h⟩ | ⟨E_110, σ_102, h_103, h⟩
            · have z9 := x_call (M := mL_law) (M' := mX12_thrown) (pc := 320) (st := [va_rf (some a_96)]) (rest := []) (av := [va_rf (some a_96)]) (x_linkV (M := mL_law) (M' := mX12_thrown) (As := []) (index := 61) (C := RX12) (T := TX12) (xE_12 c_104) rfl wd_1012 wd_1013 wd_1011 xw_X12_thrown rfl (by decide) rfl rfl dL_law_320) (ev_X12_thrown hO hP h_103) xw_X12_thrown rfl wd_198 dL_law_320 (by decide) (by decide) (by simp [x_cat, x_catI, x_catJ])
              refine x_callR z9 ?_
              refine ev_at (st' := [.int v_101]) rfl rfl ?_
              refine ev_iload (j := 1) (x := v_90) dL_law_323 rfl ?_
              by_cases c_105 : v_101 = v_90
              · rw [if_pos c_105] at h
                refine ev_icmp_eq (x := v_101) (y := v_90) (tgt := 330) dL_law_325 (by decide) (fun _ => ?_) (fun q9 => absurd c_105 q9)
                refine ev_iload (j := 1) (x := v_90) dL_law_330 rfl ?_
                by_cases c_106 : v_90 = 0
                · rw [if_pos c_106] at h
                  refine ev_if_ne (x := v_90) (tgt := 347) dL_law_332 (by decide) (fun q9 => absurd c_106 q9) (fun _ => ?_)
                  refine ev_aload_n (j := 5) (x := v3) dL_law_335 rfl rfl ?_
                  refine ev_iconst (v := 0) dL_law_336 (by decide) ?_
                  obtain ⟨a_107, ea_107, h⟩ := x_some_e h
                  refine ev_at (st' := [.int 0, va_rf (some a_107)]) rfl (by rw [ea_107]) ?_
                  obtain ⟨c_108, h⟩ := x_chk_e h
                  refine ev_lald_42 c_108.1 c_108.2 dL_law_337 ?_
                  refine ev_iload (j := 0) (x := v_97) dL_law_338 rfl ?_
                  refine ev_i2l (x := v_97) dL_law_340 ?_
                  refine ev_lcmp (x := (σ_102.AJ a_107 (Int32.toNatClampNeg 0))) (y := (Int32.toInt64 v_97)) dL_law_341 ?_
                  by_cases c_109 : (lg_cmp (σ_102.AJ a_107 (Int32.toNatClampNeg 0)) (Int32.toInt64 v_97)) = 0
                  · rw [if_pos c_109] at h
                    refine ev_if_eq (x := (lg_cmp (σ_102.AJ a_107 (Int32.toNatClampNeg 0)) (Int32.toInt64 v_97))) (tgt := 347) dL_law_342 (by decide) (fun _ => ?_) (fun q9 => absurd c_109 q9)
                    exact ev_sub [2, 3, 4, 5, 6] rfl (ev_L_law_p347 hO hP ih h)
                  · rw [if_neg c_109] at h
                    refine ev_if_eq (x := (lg_cmp (σ_102.AJ a_107 (Int32.toNatClampNeg 0)) (Int32.toInt64 v_97))) (tgt := 347) dL_law_342 (by decide) (fun q9 => absurd q9 c_109) (fun _ => ?_)
                    refine ev_iconst (v := 0) dL_law_345 (by decide) ?_
                    cases h
                    exact ev_iret rfl rfl dL_law_346
                · rw [if_neg c_106] at h
                  refine ev_if_ne (x := v_90) (tgt := 347) dL_law_332 (by decide) (fun _ => ?_) (fun q9 => absurd q9 c_106)
                  exact ev_sub [2, 3, 4, 5, 6] rfl (ev_L_law_p347 hO hP ih h)
              · rw [if_neg c_105] at h
                refine ev_icmp_eq (x := v_101) (y := v_90) (tgt := 330) dL_law_325 (by decide) (fun q9 => absurd q9 c_105) (fun _ => ?_)
                refine ev_iconst (v := 0) dL_law_328 (by decide) ?_
                cases h
                exact ev_iret rfl rfl dL_law_329
            · have z9 := x_call (M := mL_law) (M' := mX12_thrown) (pc := 320) (st := [va_rf (some a_96)]) (rest := []) (av := [va_rf (some a_96)]) (x_linkV (M := mL_law) (M' := mX12_thrown) (As := []) (index := 61) (C := RX12) (T := TX12) (xE_12 c_104) rfl wd_1012 wd_1013 wd_1011 xw_X12_thrown rfl (by decide) rfl rfl dL_law_320) (ev_X12_thrown hO hP h_103) xw_X12_thrown rfl wd_198 dL_law_320 (by decide) (by decide) (by simp [x_cat, x_catI, x_catJ])
              cases h
              exact x_callX z9 (evX_out rfl)
          · have z9 := x_call (M := mL_law) (M' := mX12_net) (pc := 314) (st := [.int (σ_91.AI a_1 (Int32.toNatClampNeg (v4 + 3))), .int (σ_91.AI a_1 (Int32.toNatClampNeg (v4 + 2))), .int (σ_91.AI a_1 (Int32.toNatClampNeg (v4 + 1))), va_rf (some a_96)]) (rest := []) (av := [va_rf (some a_96), .int (σ_91.AI a_1 (Int32.toNatClampNeg (v4 + 1))), .int (σ_91.AI a_1 (Int32.toNatClampNeg (v4 + 2))), .int (σ_91.AI a_1 (Int32.toNatClampNeg (v4 + 3)))]) (x_linkV (M := mL_law) (M' := mX12_net) (As := [.int (σ_91.AI a_1 (Int32.toNatClampNeg (v4 + 1))), .int (σ_91.AI a_1 (Int32.toNatClampNeg (v4 + 2))), .int (σ_91.AI a_1 (Int32.toNatClampNeg (v4 + 3)))]) (index := 72) (C := RX12) (T := TX12) (xE_12 c_100) rfl wd_1026 wd_1027 wd_1025 xw_X12_net rfl (by decide) rfl rfl dL_law_314) (ev_X12_net hO hP h_99) xw_X12_net rfl wd_198 dL_law_314 (by decide) (by decide) (by simp [x_cat, x_catI, x_catJ])
            cases h
            exact x_callX z9 (evX_out rfl)
        · have z9 := x_call (M := mL_law) (M' := mL_net) (pc := 290) (st := [va_rf v3, .int (σ.AI a_1 (Int32.toNatClampNeg (v4 + 3))), .int (σ.AI a_1 (Int32.toNatClampNeg (v4 + 2))), .int (σ.AI a_1 (Int32.toNatClampNeg (v4 + 1))), va_rf v1]) (rest := []) (av := [va_rf v1, .int (σ.AI a_1 (Int32.toNatClampNeg (v4 + 1))), .int (σ.AI a_1 (Int32.toNatClampNeg (v4 + 2))), .int (σ.AI a_1 (Int32.toNatClampNeg (v4 + 3))), va_rf v3]) (x_linkS (M := mL_law) (M' := mL_net) (As := [va_rf v1, .int (σ.AI a_1 (Int32.toNatClampNeg (v4 + 1))), .int (σ.AI a_1 (Int32.toNatClampNeg (v4 + 2))), .int (σ.AI a_1 (Int32.toNatClampNeg (v4 + 3))), va_rf v3]) (index := 69) wd_1022 wd_1023 wd_1005 xw_L_net rfl ⟨_, _, _, Or.inr ⟨_, wd_1021⟩⟩ (by decide) rfl rfl dL_law_290) (ev_L_net hO hP h_92) xw_L_net rfl wd_1005 dL_law_290 (by decide) (by decide) (by simp [x_cat, x_catI, x_catJ])
          cases h
          exact x_callX z9 (evX_out rfl)
      rw [if_neg c_86] at h
      by_cases c_113 : v_5 = 5
      · rw [if_pos c_113] at h
        refine ev_at (st' := .int 5 :: []) rfl (by rw [c_113]) ?_
        refine ev_tableIn (tgt := 350) (off := 311) dL_law_39 (by decide) (by decide) rfl (by decide) ?_
        refine ev_aload_n (j := 1) (x := v1) dL_law_350 rfl rfl ?_
        refine ev_aload_n (j := 0) (x := v0) dL_law_351 rfl rfl ?_
        refine ev_iload (j := 4) (x := v4) dL_law_352 rfl ?_
        refine ev_iconst (v := 1) dL_law_354 (by decide) ?_
        refine ev_iadd (x := v4) (y := 1) dL_law_355 ?_
        refine ev_at (st' := [.int (v4 + 1), va_rf (some a_1), va_rf v1]) rfl (by rw [ea_1]) ?_
        obtain ⟨c_114, h⟩ := x_chk_e h
        refine ev_sld c_114.1 c_114.2 dL_law_356 ?_
        refine ev_aload_n (j := 0) (x := v0) dL_law_357 rfl rfl ?_
        refine ev_iload (j := 4) (x := v4) dL_law_358 rfl ?_
        refine ev_iconst (v := 2) dL_law_360 (by decide) ?_
        refine ev_iadd (x := v4) (y := 2) dL_law_361 ?_
        refine ev_at (st' := [.int (v4 + 2), va_rf (some a_1), .int (σ.AI a_1 (Int32.toNatClampNeg (v4 + 1))), va_rf v1]) rfl (by rw [ea_1]) ?_
        obtain ⟨c_115, h⟩ := x_chk_e h
        refine ev_sld c_115.1 c_115.2 dL_law_362 ?_
        refine ev_aload_n (j := 0) (x := v0) dL_law_363 rfl rfl ?_
        refine ev_iload (j := 4) (x := v4) dL_law_364 rfl ?_
        refine ev_iconst (v := 3) dL_law_366 (by decide) ?_
        refine ev_iadd (x := v4) (y := 3) dL_law_367 ?_
        refine ev_at (st' := [.int (v4 + 3), va_rf (some a_1), .int (σ.AI a_1 (Int32.toNatClampNeg (v4 + 2))), .int (σ.AI a_1 (Int32.toNatClampNeg (v4 + 1))), va_rf v1]) rfl (by rw [ea_1]) ?_
        obtain ⟨c_116, h⟩ := x_chk_e h
        refine ev_sld c_116.1 c_116.2 dL_law_368 ?_
        refine ev_aload_n (j := 3) (x := v3) dL_law_369 rfl rfl ?_
        rcases x_bind_e h with ⟨v_117, σ_118, h_119, h⟩ | ⟨E_139, σ_118, h_119, h⟩
        · have z9 := x_call (M := mL_law) (M' := mL_instance) (pc := 370) (st := [va_rf v3, .int (σ.AI a_1 (Int32.toNatClampNeg (v4 + 3))), .int (σ.AI a_1 (Int32.toNatClampNeg (v4 + 2))), .int (σ.AI a_1 (Int32.toNatClampNeg (v4 + 1))), va_rf v1]) (rest := []) (av := [va_rf v1, .int (σ.AI a_1 (Int32.toNatClampNeg (v4 + 1))), .int (σ.AI a_1 (Int32.toNatClampNeg (v4 + 2))), .int (σ.AI a_1 (Int32.toNatClampNeg (v4 + 3))), va_rf v3]) (x_linkS (M := mL_law) (M' := mL_instance) (As := [va_rf v1, .int (σ.AI a_1 (Int32.toNatClampNeg (v4 + 1))), .int (σ.AI a_1 (Int32.toNatClampNeg (v4 + 2))), .int (σ.AI a_1 (Int32.toNatClampNeg (v4 + 3))), va_rf v3]) (index := 73) wd_1029 wd_1030 wd_1005 xw_L_instance rfl ⟨_, _, _, Or.inr ⟨_, wd_1028⟩⟩ (by decide) rfl rfl dL_law_370) (ev_L_instance hO hP h_119) xw_L_instance rfl wd_1005 dL_law_370 (by decide) (by decide) (by simp [x_cat, x_catI, x_catJ])
          refine x_callR z9 ?_
          refine ev_at (st' := [.int v_117]) rfl rfl ?_
          refine ev_istore (i := 5) (lv' := [(5, .int v_117), (0, va_rf v0), (1, va_rf v1), (2, va_rf v2), (3, va_rf v3), (4, .int v4)]) dL_law_373 (by decide) rfl ?_
          refine ev_aload_n (j := 3) (x := v2) dL_law_375 rfl rfl ?_
          refine ev_aload_n (j := 1) (x := v0) dL_law_376 rfl rfl ?_
          refine ev_iload (j := 5) (x := v4) dL_law_377 rfl ?_
          refine ev_iconst (v := 1) dL_law_379 (by decide) ?_
          refine ev_iadd (x := v4) (y := 1) dL_law_380 ?_
          refine ev_at (st' := [.int (v4 + 1), va_rf (some a_1), va_rf v2]) rfl (by rw [ea_1]) ?_
          obtain ⟨c_120, h⟩ := x_chk_e h
          refine ev_sld c_120.1 c_120.2 dL_law_381 ?_
          refine ev_aload_n (j := 1) (x := v0) dL_law_382 rfl rfl ?_
          refine ev_iload (j := 5) (x := v4) dL_law_383 rfl ?_
          refine ev_iconst (v := 2) dL_law_385 (by decide) ?_
          refine ev_iadd (x := v4) (y := 2) dL_law_386 ?_
          refine ev_at (st' := [.int (v4 + 2), va_rf (some a_1), .int (σ_118.AI a_1 (Int32.toNatClampNeg (v4 + 1))), va_rf v2]) rfl (by rw [ea_1]) ?_
          obtain ⟨c_121, h⟩ := x_chk_e h
          refine ev_sld c_121.1 c_121.2 dL_law_387 ?_
          refine ev_aload_n (j := 1) (x := v0) dL_law_388 rfl rfl ?_
          refine ev_iload (j := 5) (x := v4) dL_law_389 rfl ?_
          refine ev_iconst (v := 3) dL_law_391 (by decide) ?_
          refine ev_iadd (x := v4) (y := 3) dL_law_392 ?_
          refine ev_at (st' := [.int (v4 + 3), va_rf (some a_1), .int (σ_118.AI a_1 (Int32.toNatClampNeg (v4 + 2))), .int (σ_118.AI a_1 (Int32.toNatClampNeg (v4 + 1))), va_rf v2]) rfl (by rw [ea_1]) ?_
          obtain ⟨c_122, h⟩ := x_chk_e h
          refine ev_sld c_122.1 c_122.2 dL_law_393 ?_
          obtain ⟨a_123, ea_123, h⟩ := x_some_e h
          refine ev_at (st' := [.int (σ_118.AI a_1 (Int32.toNatClampNeg (v4 + 3))), .int (σ_118.AI a_1 (Int32.toNatClampNeg (v4 + 2))), .int (σ_118.AI a_1 (Int32.toNatClampNeg (v4 + 1))), va_rf (some a_123)]) rfl (by rw [ea_123]) ?_
          obtain ⟨c_127, h⟩ := x_chk_e h
          rcases x_bind_e h with ⟨v_124, σ_125, h_126, h⟩ | ⟨E_138, σ_125, h_126, h⟩
          · have z9 := x_call (M := mL_law) (M' := mX12_instance) (pc := 394) (st := [.int (σ_118.AI a_1 (Int32.toNatClampNeg (v4 + 3))), .int (σ_118.AI a_1 (Int32.toNatClampNeg (v4 + 2))), .int (σ_118.AI a_1 (Int32.toNatClampNeg (v4 + 1))), va_rf (some a_123)]) (rest := []) (av := [va_rf (some a_123), .int (σ_118.AI a_1 (Int32.toNatClampNeg (v4 + 1))), .int (σ_118.AI a_1 (Int32.toNatClampNeg (v4 + 2))), .int (σ_118.AI a_1 (Int32.toNatClampNeg (v4 + 3)))]) (x_linkV (M := mL_law) (M' := mX12_instance) (As := [.int (σ_118.AI a_1 (Int32.toNatClampNeg (v4 + 1))), .int (σ_118.AI a_1 (Int32.toNatClampNeg (v4 + 2))), .int (σ_118.AI a_1 (Int32.toNatClampNeg (v4 + 3)))]) (index := 75) (C := RX12) (T := TX12) (xE_12 c_127) rfl wd_1033 wd_1034 wd_1032 xw_X12_instance rfl (by decide) rfl rfl dL_law_394) (ev_X12_instance hO hP h_126) xw_X12_instance rfl wd_198 dL_law_394 (by decide) (by decide) (by simp [x_cat, x_catI, x_catJ])
            refine x_callR z9 ?_
            refine ev_at (st' := [.int v_124]) rfl rfl ?_
            refine ev_istore (i := 6) (lv' := [(6, .int v_124), (5, .int v_117), (0, va_rf v0), (1, va_rf v1), (2, va_rf v2), (3, va_rf v3), (4, .int v4)]) dL_law_397 (by decide) rfl ?_
            refine ev_aload_n (j := 4) (x := v2) dL_law_399 rfl rfl ?_
            refine ev_at (st' := [va_rf (some a_123)]) rfl (by rw [ea_123]) ?_
            obtain ⟨c_131, h⟩ := x_chk_e h
            rcases x_bind_e h with ⟨v_128, σ_129, h_130, h⟩ | ⟨E_137, σ_129, h_130, h⟩
            · have z9 := x_call (M := mL_law) (M' := mX12_thrown) (pc := 400) (st := [va_rf (some a_123)]) (rest := []) (av := [va_rf (some a_123)]) (x_linkV (M := mL_law) (M' := mX12_thrown) (As := []) (index := 61) (C := RX12) (T := TX12) (xE_12 c_131) rfl wd_1012 wd_1013 wd_1011 xw_X12_thrown rfl (by decide) rfl rfl dL_law_400) (ev_X12_thrown hO hP h_130) xw_X12_thrown rfl wd_198 dL_law_400 (by decide) (by decide) (by simp [x_cat, x_catI, x_catJ])
              refine x_callR z9 ?_
              refine ev_at (st' := [.int v_128]) rfl rfl ?_
              refine ev_iload (j := 1) (x := v_117) dL_law_403 rfl ?_
              by_cases c_132 : v_128 = v_117
              · rw [if_pos c_132] at h
                refine ev_icmp_eq (x := v_128) (y := v_117) (tgt := 410) dL_law_405 (by decide) (fun _ => ?_) (fun q9 => absurd c_132 q9)
                refine ev_iload (j := 1) (x := v_117) dL_law_410 rfl ?_
                by_cases c_133 : v_117 = 0
                · rw [if_pos c_133] at h
                  refine ev_if_ne (x := v_117) (tgt := 427) dL_law_412 (by decide) (fun q9 => absurd c_133 q9) (fun _ => ?_)
                  refine ev_aload_n (j := 5) (x := v3) dL_law_415 rfl rfl ?_
                  refine ev_iconst (v := 0) dL_law_416 (by decide) ?_
                  obtain ⟨a_134, ea_134, h⟩ := x_some_e h
                  refine ev_at (st' := [.int 0, va_rf (some a_134)]) rfl (by rw [ea_134]) ?_
                  obtain ⟨c_135, h⟩ := x_chk_e h
                  refine ev_lald_42 c_135.1 c_135.2 dL_law_417 ?_
                  refine ev_iload (j := 0) (x := v_124) dL_law_418 rfl ?_
                  refine ev_i2l (x := v_124) dL_law_420 ?_
                  refine ev_lcmp (x := (σ_129.AJ a_134 (Int32.toNatClampNeg 0))) (y := (Int32.toInt64 v_124)) dL_law_421 ?_
                  by_cases c_136 : (lg_cmp (σ_129.AJ a_134 (Int32.toNatClampNeg 0)) (Int32.toInt64 v_124)) = 0
                  · rw [if_pos c_136] at h
                    refine ev_if_eq (x := (lg_cmp (σ_129.AJ a_134 (Int32.toNatClampNeg 0)) (Int32.toInt64 v_124))) (tgt := 427) dL_law_422 (by decide) (fun _ => ?_) (fun q9 => absurd c_136 q9)
                    exact ev_sub [2, 3, 4, 5, 6] rfl (ev_L_law_p427 hO hP ih h)
                  · rw [if_neg c_136] at h
                    refine ev_if_eq (x := (lg_cmp (σ_129.AJ a_134 (Int32.toNatClampNeg 0)) (Int32.toInt64 v_124))) (tgt := 427) dL_law_422 (by decide) (fun q9 => absurd q9 c_136) (fun _ => ?_)
                    refine ev_iconst (v := 0) dL_law_425 (by decide) ?_
                    cases h
                    exact ev_iret rfl rfl dL_law_426
                · rw [if_neg c_133] at h
                  refine ev_if_ne (x := v_117) (tgt := 427) dL_law_412 (by decide) (fun _ => ?_) (fun q9 => absurd q9 c_133)
                  exact ev_sub [2, 3, 4, 5, 6] rfl (ev_L_law_p427 hO hP ih h)
              · rw [if_neg c_132] at h
                refine ev_icmp_eq (x := v_128) (y := v_117) (tgt := 410) dL_law_405 (by decide) (fun q9 => absurd q9 c_132) (fun _ => ?_)
                refine ev_iconst (v := 0) dL_law_408 (by decide) ?_
                cases h
                exact ev_iret rfl rfl dL_law_409
            · have z9 := x_call (M := mL_law) (M' := mX12_thrown) (pc := 400) (st := [va_rf (some a_123)]) (rest := []) (av := [va_rf (some a_123)]) (x_linkV (M := mL_law) (M' := mX12_thrown) (As := []) (index := 61) (C := RX12) (T := TX12) (xE_12 c_131) rfl wd_1012 wd_1013 wd_1011 xw_X12_thrown rfl (by decide) rfl rfl dL_law_400) (ev_X12_thrown hO hP h_130) xw_X12_thrown rfl wd_198 dL_law_400 (by decide) (by decide) (by simp [x_cat, x_catI, x_catJ])
              cases h
              exact x_callX z9 (evX_out rfl)
          · have z9 := x_call (M := mL_law) (M' := mX12_instance) (pc := 394) (st := [.int (σ_118.AI a_1 (Int32.toNatClampNeg (v4 + 3))), .int (σ_118.AI a_1 (Int32.toNatClampNeg (v4 + 2))), .int (σ_118.AI a_1 (Int32.toNatClampNeg (v4 + 1))), va_rf (some a_123)]) (rest := []) (av := [va_rf (some a_123), .int (σ_118.AI a_1 (Int32.toNatClampNeg (v4 + 1))), .int (σ_118.AI a_1 (Int32.toNatClampNeg (v4 + 2))), .int (σ_118.AI a_1 (Int32.toNatClampNeg (v4 + 3)))]) (x_linkV (M := mL_law) (M' := mX12_instance) (As := [.int (σ_118.AI a_1 (Int32.toNatClampNeg (v4 + 1))), .int (σ_118.AI a_1 (Int32.toNatClampNeg (v4 + 2))), .int (σ_118.AI a_1 (Int32.toNatClampNeg (v4 + 3)))]) (index := 75) (C := RX12) (T := TX12) (xE_12 c_127) rfl wd_1033 wd_1034 wd_1032 xw_X12_instance rfl (by decide) rfl rfl dL_law_394) (ev_X12_instance hO hP h_126) xw_X12_instance rfl wd_198 dL_law_394 (by decide) (by decide) (by simp [x_cat, x_catI, x_catJ])
            cases h
            exact x_callX z9 (evX_out rfl)
        · have z9 := x_call (M := mL_law) (M' := mL_instance) (pc := 370) (st := [va_rf v3, .int (σ.AI a_1 (Int32.toNatClampNeg (v4 + 3))), .int (σ.AI a_1 (Int32.toNatClampNeg (v4 + 2))), .int (σ.AI a_1 (Int32.toNatClampNeg (v4 + 1))), va_rf v1]) (rest := []) (av := [va_rf v1, .int (σ.AI a_1 (Int32.toNatClampNeg (v4 + 1))), .int (σ.AI a_1 (Int32.toNatClampNeg (v4 + 2))), .int (σ.AI a_1 (Int32.toNatClampNeg (v4 + 3))), va_rf v3]) (x_linkS (M := mL_law) (M' := mL_instance) (As := [va_rf v1, .int (σ.AI a_1 (Int32.toNatClampNeg (v4 + 1))), .int (σ.AI a_1 (Int32.toNatClampNeg (v4 + 2))), .int (σ.AI a_1 (Int32.toNatClampNeg (v4 + 3))), va_rf v3]) (index := 73) wd_1029 wd_1030 wd_1005 xw_L_instance rfl ⟨_, _, _, Or.inr ⟨_, wd_1028⟩⟩ (by decide) rfl rfl dL_law_370) (ev_L_instance hO hP h_119) xw_L_instance rfl wd_1005 dL_law_370 (by decide) (by decide) (by simp [x_cat, x_catI, x_catJ])
          cases h
          exact x_callX z9 (evX_out rfl)
      rw [if_neg c_113] at h
      by_cases c_140 : v_5 = 6
      · rw [if_pos c_140] at h
        refine ev_at (st' := .int 6 :: []) rfl (by rw [c_140]) ?_
        refine ev_tableIn (tgt := 430) (off := 391) dL_law_39 (by decide) (by decide) rfl (by decide) ?_
        refine ev_aload_n (j := 1) (x := v1) dL_law_430 rfl rfl ?_
        refine ev_aload_n (j := 0) (x := v0) dL_law_431 rfl rfl ?_
        refine ev_iload (j := 4) (x := v4) dL_law_432 rfl ?_
        refine ev_iconst (v := 1) dL_law_434 (by decide) ?_
        refine ev_iadd (x := v4) (y := 1) dL_law_435 ?_
        refine ev_at (st' := [.int (v4 + 1), va_rf (some a_1), va_rf v1]) rfl (by rw [ea_1]) ?_
        obtain ⟨c_141, h⟩ := x_chk_e h
        refine ev_sld c_141.1 c_141.2 dL_law_436 ?_
        refine ev_aload_n (j := 0) (x := v0) dL_law_437 rfl rfl ?_
        refine ev_iload (j := 4) (x := v4) dL_law_438 rfl ?_
        refine ev_iconst (v := 2) dL_law_440 (by decide) ?_
        refine ev_iadd (x := v4) (y := 2) dL_law_441 ?_
        refine ev_at (st' := [.int (v4 + 2), va_rf (some a_1), .int (σ.AI a_1 (Int32.toNatClampNeg (v4 + 1))), va_rf v1]) rfl (by rw [ea_1]) ?_
        obtain ⟨c_142, h⟩ := x_chk_e h
        refine ev_sld c_142.1 c_142.2 dL_law_442 ?_
        refine ev_aload_n (j := 0) (x := v0) dL_law_443 rfl rfl ?_
        refine ev_iload (j := 4) (x := v4) dL_law_444 rfl ?_
        refine ev_iconst (v := 3) dL_law_446 (by decide) ?_
        refine ev_iadd (x := v4) (y := 3) dL_law_447 ?_
        refine ev_at (st' := [.int (v4 + 3), va_rf (some a_1), .int (σ.AI a_1 (Int32.toNatClampNeg (v4 + 2))), .int (σ.AI a_1 (Int32.toNatClampNeg (v4 + 1))), va_rf v1]) rfl (by rw [ea_1]) ?_
        obtain ⟨c_143, h⟩ := x_chk_e h
        refine ev_sld c_143.1 c_143.2 dL_law_448 ?_
        refine ev_aload_n (j := 0) (x := v0) dL_law_449 rfl rfl ?_
        refine ev_iload (j := 4) (x := v4) dL_law_450 rfl ?_
        refine ev_iconst (v := 4) dL_law_452 (by decide) ?_
        refine ev_iadd (x := v4) (y := 4) dL_law_453 ?_
        refine ev_at (st' := [.int (v4 + 4), va_rf (some a_1), .int (σ.AI a_1 (Int32.toNatClampNeg (v4 + 3))), .int (σ.AI a_1 (Int32.toNatClampNeg (v4 + 2))), .int (σ.AI a_1 (Int32.toNatClampNeg (v4 + 1))), va_rf v1]) rfl (by rw [ea_1]) ?_
        obtain ⟨c_144, h⟩ := x_chk_e h
        refine ev_sld c_144.1 c_144.2 dL_law_454 ?_
        refine ev_aload_n (j := 3) (x := v3) dL_law_455 rfl rfl ?_
        rcases x_bind_e h with ⟨v_145, σ_146, h_147, h⟩ | ⟨E_168, σ_146, h_147, h⟩
        · have z9 := x_call (M := mL_law) (M' := mL_joined) (pc := 456) (st := [va_rf v3, .int (σ.AI a_1 (Int32.toNatClampNeg (v4 + 4))), .int (σ.AI a_1 (Int32.toNatClampNeg (v4 + 3))), .int (σ.AI a_1 (Int32.toNatClampNeg (v4 + 2))), .int (σ.AI a_1 (Int32.toNatClampNeg (v4 + 1))), va_rf v1]) (rest := []) (av := [va_rf v1, .int (σ.AI a_1 (Int32.toNatClampNeg (v4 + 1))), .int (σ.AI a_1 (Int32.toNatClampNeg (v4 + 2))), .int (σ.AI a_1 (Int32.toNatClampNeg (v4 + 3))), .int (σ.AI a_1 (Int32.toNatClampNeg (v4 + 4))), va_rf v3]) (x_linkS (M := mL_law) (M' := mL_joined) (As := [va_rf v1, .int (σ.AI a_1 (Int32.toNatClampNeg (v4 + 1))), .int (σ.AI a_1 (Int32.toNatClampNeg (v4 + 2))), .int (σ.AI a_1 (Int32.toNatClampNeg (v4 + 3))), .int (σ.AI a_1 (Int32.toNatClampNeg (v4 + 4))), va_rf v3]) (index := 76) wd_1036 wd_1037 wd_1005 xw_L_joined rfl ⟨_, _, _, Or.inr ⟨_, wd_1035⟩⟩ (by decide) rfl rfl dL_law_456) (ev_L_joined hO hP h_147) xw_L_joined rfl wd_1005 dL_law_456 (by decide) (by decide) (by simp [x_cat, x_catI, x_catJ])
          refine x_callR z9 ?_
          refine ev_at (st' := [.int v_145]) rfl rfl ?_
          refine ev_istore (i := 5) (lv' := [(5, .int v_145), (0, va_rf v0), (1, va_rf v1), (2, va_rf v2), (3, va_rf v3), (4, .int v4)]) dL_law_459 (by decide) rfl ?_
          refine ev_aload_n (j := 3) (x := v2) dL_law_461 rfl rfl ?_
          refine ev_aload_n (j := 1) (x := v0) dL_law_462 rfl rfl ?_
          refine ev_iload (j := 5) (x := v4) dL_law_463 rfl ?_
          refine ev_iconst (v := 1) dL_law_465 (by decide) ?_
          refine ev_iadd (x := v4) (y := 1) dL_law_466 ?_
          refine ev_at (st' := [.int (v4 + 1), va_rf (some a_1), va_rf v2]) rfl (by rw [ea_1]) ?_
          obtain ⟨c_148, h⟩ := x_chk_e h
          refine ev_sld c_148.1 c_148.2 dL_law_467 ?_
          refine ev_aload_n (j := 1) (x := v0) dL_law_468 rfl rfl ?_
          refine ev_iload (j := 5) (x := v4) dL_law_469 rfl ?_
          refine ev_iconst (v := 2) dL_law_471 (by decide) ?_
          refine ev_iadd (x := v4) (y := 2) dL_law_472 ?_
          refine ev_at (st' := [.int (v4 + 2), va_rf (some a_1), .int (σ_146.AI a_1 (Int32.toNatClampNeg (v4 + 1))), va_rf v2]) rfl (by rw [ea_1]) ?_
          obtain ⟨c_149, h⟩ := x_chk_e h
          refine ev_sld c_149.1 c_149.2 dL_law_473 ?_
          refine ev_aload_n (j := 1) (x := v0) dL_law_474 rfl rfl ?_
          refine ev_iload (j := 5) (x := v4) dL_law_475 rfl ?_
          refine ev_iconst (v := 3) dL_law_477 (by decide) ?_
          refine ev_iadd (x := v4) (y := 3) dL_law_478 ?_
          refine ev_at (st' := [.int (v4 + 3), va_rf (some a_1), .int (σ_146.AI a_1 (Int32.toNatClampNeg (v4 + 2))), .int (σ_146.AI a_1 (Int32.toNatClampNeg (v4 + 1))), va_rf v2]) rfl (by rw [ea_1]) ?_
          obtain ⟨c_150, h⟩ := x_chk_e h
          refine ev_sld c_150.1 c_150.2 dL_law_479 ?_
          refine ev_aload_n (j := 1) (x := v0) dL_law_480 rfl rfl ?_
          refine ev_iload (j := 5) (x := v4) dL_law_481 rfl ?_
          refine ev_iconst (v := 4) dL_law_483 (by decide) ?_
          refine ev_iadd (x := v4) (y := 4) dL_law_484 ?_
          refine ev_at (st' := [.int (v4 + 4), va_rf (some a_1), .int (σ_146.AI a_1 (Int32.toNatClampNeg (v4 + 3))), .int (σ_146.AI a_1 (Int32.toNatClampNeg (v4 + 2))), .int (σ_146.AI a_1 (Int32.toNatClampNeg (v4 + 1))), va_rf v2]) rfl (by rw [ea_1]) ?_
          obtain ⟨c_151, h⟩ := x_chk_e h
          refine ev_sld c_151.1 c_151.2 dL_law_485 ?_
          obtain ⟨a_152, ea_152, h⟩ := x_some_e h
          refine ev_at (st' := [.int (σ_146.AI a_1 (Int32.toNatClampNeg (v4 + 4))), .int (σ_146.AI a_1 (Int32.toNatClampNeg (v4 + 3))), .int (σ_146.AI a_1 (Int32.toNatClampNeg (v4 + 2))), .int (σ_146.AI a_1 (Int32.toNatClampNeg (v4 + 1))), va_rf (some a_152)]) rfl (by rw [ea_152]) ?_
          obtain ⟨c_156, h⟩ := x_chk_e h
          rcases x_bind_e h with ⟨v_153, σ_154, h_155, h⟩ | ⟨E_167, σ_154, h_155, h⟩
          · have z9 := x_call (M := mL_law) (M' := mX12_joined) (pc := 486) (st := [.int (σ_146.AI a_1 (Int32.toNatClampNeg (v4 + 4))), .int (σ_146.AI a_1 (Int32.toNatClampNeg (v4 + 3))), .int (σ_146.AI a_1 (Int32.toNatClampNeg (v4 + 2))), .int (σ_146.AI a_1 (Int32.toNatClampNeg (v4 + 1))), va_rf (some a_152)]) (rest := []) (av := [va_rf (some a_152), .int (σ_146.AI a_1 (Int32.toNatClampNeg (v4 + 1))), .int (σ_146.AI a_1 (Int32.toNatClampNeg (v4 + 2))), .int (σ_146.AI a_1 (Int32.toNatClampNeg (v4 + 3))), .int (σ_146.AI a_1 (Int32.toNatClampNeg (v4 + 4)))]) (x_linkV (M := mL_law) (M' := mX12_joined) (As := [.int (σ_146.AI a_1 (Int32.toNatClampNeg (v4 + 1))), .int (σ_146.AI a_1 (Int32.toNatClampNeg (v4 + 2))), .int (σ_146.AI a_1 (Int32.toNatClampNeg (v4 + 3))), .int (σ_146.AI a_1 (Int32.toNatClampNeg (v4 + 4)))]) (index := 79) (C := RX12) (T := TX12) (xE_12 c_156) rfl wd_1040 wd_1041 wd_1039 xw_X12_joined rfl (by decide) rfl rfl dL_law_486) (ev_X12_joined hO hP h_155) xw_X12_joined rfl wd_198 dL_law_486 (by decide) (by decide) (by simp [x_cat, x_catI, x_catJ])
            refine x_callR z9 ?_
            refine ev_at (st' := [.int v_153]) rfl rfl ?_
            refine ev_istore (i := 6) (lv' := [(6, .int v_153), (5, .int v_145), (0, va_rf v0), (1, va_rf v1), (2, va_rf v2), (3, va_rf v3), (4, .int v4)]) dL_law_489 (by decide) rfl ?_
            refine ev_aload_n (j := 4) (x := v2) dL_law_491 rfl rfl ?_
            refine ev_at (st' := [va_rf (some a_152)]) rfl (by rw [ea_152]) ?_
            obtain ⟨c_160, h⟩ := x_chk_e h
            rcases x_bind_e h with ⟨v_157, σ_158, h_159, h⟩ | ⟨E_166, σ_158, h_159, h⟩
            · have z9 := x_call (M := mL_law) (M' := mX12_thrown) (pc := 492) (st := [va_rf (some a_152)]) (rest := []) (av := [va_rf (some a_152)]) (x_linkV (M := mL_law) (M' := mX12_thrown) (As := []) (index := 61) (C := RX12) (T := TX12) (xE_12 c_160) rfl wd_1012 wd_1013 wd_1011 xw_X12_thrown rfl (by decide) rfl rfl dL_law_492) (ev_X12_thrown hO hP h_159) xw_X12_thrown rfl wd_198 dL_law_492 (by decide) (by decide) (by simp [x_cat, x_catI, x_catJ])
              refine x_callR z9 ?_
              refine ev_at (st' := [.int v_157]) rfl rfl ?_
              refine ev_iload (j := 1) (x := v_145) dL_law_495 rfl ?_
              by_cases c_161 : v_157 = v_145
              · rw [if_pos c_161] at h
                refine ev_icmp_eq (x := v_157) (y := v_145) (tgt := 502) dL_law_497 (by decide) (fun _ => ?_) (fun q9 => absurd c_161 q9)
                refine ev_iload (j := 1) (x := v_145) dL_law_502 rfl ?_
                by_cases c_162 : v_145 = 0
                · rw [if_pos c_162] at h
                  refine ev_if_ne (x := v_145) (tgt := 519) dL_law_504 (by decide) (fun q9 => absurd c_162 q9) (fun _ => ?_)
                  refine ev_aload_n (j := 5) (x := v3) dL_law_507 rfl rfl ?_
                  refine ev_iconst (v := 0) dL_law_508 (by decide) ?_
                  obtain ⟨a_163, ea_163, h⟩ := x_some_e h
                  refine ev_at (st' := [.int 0, va_rf (some a_163)]) rfl (by rw [ea_163]) ?_
                  obtain ⟨c_164, h⟩ := x_chk_e h
                  refine ev_lald_42 c_164.1 c_164.2 dL_law_509 ?_
                  refine ev_iload (j := 0) (x := v_153) dL_law_510 rfl ?_
                  refine ev_i2l (x := v_153) dL_law_512 ?_
                  refine ev_lcmp (x := (σ_158.AJ a_163 (Int32.toNatClampNeg 0))) (y := (Int32.toInt64 v_153)) dL_law_513 ?_
                  by_cases c_165 : (lg_cmp (σ_158.AJ a_163 (Int32.toNatClampNeg 0)) (Int32.toInt64 v_153)) = 0
                  · rw [if_pos c_165] at h
                    refine ev_if_eq (x := (lg_cmp (σ_158.AJ a_163 (Int32.toNatClampNeg 0)) (Int32.toInt64 v_153))) (tgt := 519) dL_law_514 (by decide) (fun _ => ?_) (fun q9 => absurd c_165 q9)
                    exact ev_sub [2, 3, 4, 5, 6] rfl (ev_L_law_p519 hO hP ih h)
                  · rw [if_neg c_165] at h
                    refine ev_if_eq (x := (lg_cmp (σ_158.AJ a_163 (Int32.toNatClampNeg 0)) (Int32.toInt64 v_153))) (tgt := 519) dL_law_514 (by decide) (fun q9 => absurd q9 c_165) (fun _ => ?_)
                    refine ev_iconst (v := 0) dL_law_517 (by decide) ?_
                    cases h
                    exact ev_iret rfl rfl dL_law_518
                · rw [if_neg c_162] at h
                  refine ev_if_ne (x := v_145) (tgt := 519) dL_law_504 (by decide) (fun _ => ?_) (fun q9 => absurd q9 c_162)
                  exact ev_sub [2, 3, 4, 5, 6] rfl (ev_L_law_p519 hO hP ih h)
              · rw [if_neg c_161] at h
                refine ev_icmp_eq (x := v_157) (y := v_145) (tgt := 502) dL_law_497 (by decide) (fun q9 => absurd q9 c_161) (fun _ => ?_)
                refine ev_iconst (v := 0) dL_law_500 (by decide) ?_
                cases h
                exact ev_iret rfl rfl dL_law_501
            · have z9 := x_call (M := mL_law) (M' := mX12_thrown) (pc := 492) (st := [va_rf (some a_152)]) (rest := []) (av := [va_rf (some a_152)]) (x_linkV (M := mL_law) (M' := mX12_thrown) (As := []) (index := 61) (C := RX12) (T := TX12) (xE_12 c_160) rfl wd_1012 wd_1013 wd_1011 xw_X12_thrown rfl (by decide) rfl rfl dL_law_492) (ev_X12_thrown hO hP h_159) xw_X12_thrown rfl wd_198 dL_law_492 (by decide) (by decide) (by simp [x_cat, x_catI, x_catJ])
              cases h
              exact x_callX z9 (evX_out rfl)
          · have z9 := x_call (M := mL_law) (M' := mX12_joined) (pc := 486) (st := [.int (σ_146.AI a_1 (Int32.toNatClampNeg (v4 + 4))), .int (σ_146.AI a_1 (Int32.toNatClampNeg (v4 + 3))), .int (σ_146.AI a_1 (Int32.toNatClampNeg (v4 + 2))), .int (σ_146.AI a_1 (Int32.toNatClampNeg (v4 + 1))), va_rf (some a_152)]) (rest := []) (av := [va_rf (some a_152), .int (σ_146.AI a_1 (Int32.toNatClampNeg (v4 + 1))), .int (σ_146.AI a_1 (Int32.toNatClampNeg (v4 + 2))), .int (σ_146.AI a_1 (Int32.toNatClampNeg (v4 + 3))), .int (σ_146.AI a_1 (Int32.toNatClampNeg (v4 + 4)))]) (x_linkV (M := mL_law) (M' := mX12_joined) (As := [.int (σ_146.AI a_1 (Int32.toNatClampNeg (v4 + 1))), .int (σ_146.AI a_1 (Int32.toNatClampNeg (v4 + 2))), .int (σ_146.AI a_1 (Int32.toNatClampNeg (v4 + 3))), .int (σ_146.AI a_1 (Int32.toNatClampNeg (v4 + 4)))]) (index := 79) (C := RX12) (T := TX12) (xE_12 c_156) rfl wd_1040 wd_1041 wd_1039 xw_X12_joined rfl (by decide) rfl rfl dL_law_486) (ev_X12_joined hO hP h_155) xw_X12_joined rfl wd_198 dL_law_486 (by decide) (by decide) (by simp [x_cat, x_catI, x_catJ])
            cases h
            exact x_callX z9 (evX_out rfl)
        · have z9 := x_call (M := mL_law) (M' := mL_joined) (pc := 456) (st := [va_rf v3, .int (σ.AI a_1 (Int32.toNatClampNeg (v4 + 4))), .int (σ.AI a_1 (Int32.toNatClampNeg (v4 + 3))), .int (σ.AI a_1 (Int32.toNatClampNeg (v4 + 2))), .int (σ.AI a_1 (Int32.toNatClampNeg (v4 + 1))), va_rf v1]) (rest := []) (av := [va_rf v1, .int (σ.AI a_1 (Int32.toNatClampNeg (v4 + 1))), .int (σ.AI a_1 (Int32.toNatClampNeg (v4 + 2))), .int (σ.AI a_1 (Int32.toNatClampNeg (v4 + 3))), .int (σ.AI a_1 (Int32.toNatClampNeg (v4 + 4))), va_rf v3]) (x_linkS (M := mL_law) (M' := mL_joined) (As := [va_rf v1, .int (σ.AI a_1 (Int32.toNatClampNeg (v4 + 1))), .int (σ.AI a_1 (Int32.toNatClampNeg (v4 + 2))), .int (σ.AI a_1 (Int32.toNatClampNeg (v4 + 3))), .int (σ.AI a_1 (Int32.toNatClampNeg (v4 + 4))), va_rf v3]) (index := 76) wd_1036 wd_1037 wd_1005 xw_L_joined rfl ⟨_, _, _, Or.inr ⟨_, wd_1035⟩⟩ (by decide) rfl rfl dL_law_456) (ev_L_joined hO hP h_147) xw_L_joined rfl wd_1005 dL_law_456 (by decide) (by decide) (by simp [x_cat, x_catI, x_catJ])
          cases h
          exact x_callX z9 (evX_out rfl)
      rw [if_neg c_140] at h
      by_cases c_169 : v_5 = 7
      · rw [if_pos c_169] at h
        refine ev_at (st' := .int 7 :: []) rfl (by rw [c_169]) ?_
        refine ev_tableIn (tgt := 522) (off := 483) dL_law_39 (by decide) (by decide) rfl (by decide) ?_
        refine ev_aload_n (j := 1) (x := v1) dL_law_522 rfl rfl ?_
        refine ev_aload_n (j := 0) (x := v0) dL_law_523 rfl rfl ?_
        refine ev_iload (j := 4) (x := v4) dL_law_524 rfl ?_
        refine ev_iconst (v := 1) dL_law_526 (by decide) ?_
        refine ev_iadd (x := v4) (y := 1) dL_law_527 ?_
        refine ev_at (st' := [.int (v4 + 1), va_rf (some a_1), va_rf v1]) rfl (by rw [ea_1]) ?_
        obtain ⟨c_170, h⟩ := x_chk_e h
        refine ev_sld c_170.1 c_170.2 dL_law_528 ?_
        refine ev_aload_n (j := 0) (x := v0) dL_law_529 rfl rfl ?_
        refine ev_iload (j := 4) (x := v4) dL_law_530 rfl ?_
        refine ev_iconst (v := 2) dL_law_532 (by decide) ?_
        refine ev_iadd (x := v4) (y := 2) dL_law_533 ?_
        refine ev_at (st' := [.int (v4 + 2), va_rf (some a_1), .int (σ.AI a_1 (Int32.toNatClampNeg (v4 + 1))), va_rf v1]) rfl (by rw [ea_1]) ?_
        obtain ⟨c_171, h⟩ := x_chk_e h
        refine ev_sld c_171.1 c_171.2 dL_law_534 ?_
        refine ev_aload_n (j := 0) (x := v0) dL_law_535 rfl rfl ?_
        refine ev_iload (j := 4) (x := v4) dL_law_536 rfl ?_
        refine ev_iconst (v := 3) dL_law_538 (by decide) ?_
        refine ev_iadd (x := v4) (y := 3) dL_law_539 ?_
        refine ev_at (st' := [.int (v4 + 3), va_rf (some a_1), .int (σ.AI a_1 (Int32.toNatClampNeg (v4 + 2))), .int (σ.AI a_1 (Int32.toNatClampNeg (v4 + 1))), va_rf v1]) rfl (by rw [ea_1]) ?_
        obtain ⟨c_172, h⟩ := x_chk_e h
        refine ev_sld c_172.1 c_172.2 dL_law_540 ?_
        refine ev_aload_n (j := 0) (x := v0) dL_law_541 rfl rfl ?_
        refine ev_iload (j := 4) (x := v4) dL_law_542 rfl ?_
        refine ev_iconst (v := 4) dL_law_544 (by decide) ?_
        refine ev_iadd (x := v4) (y := 4) dL_law_545 ?_
        refine ev_at (st' := [.int (v4 + 4), va_rf (some a_1), .int (σ.AI a_1 (Int32.toNatClampNeg (v4 + 3))), .int (σ.AI a_1 (Int32.toNatClampNeg (v4 + 2))), .int (σ.AI a_1 (Int32.toNatClampNeg (v4 + 1))), va_rf v1]) rfl (by rw [ea_1]) ?_
        obtain ⟨c_173, h⟩ := x_chk_e h
        refine ev_sld c_173.1 c_173.2 dL_law_546 ?_
        refine ev_aload_n (j := 3) (x := v3) dL_law_547 rfl rfl ?_
        rcases x_bind_e h with ⟨v_174, σ_175, h_176, h⟩ | ⟨E_197, σ_175, h_176, h⟩
        · have z9 := x_call (M := mL_law) (M' := mL_assign) (pc := 548) (st := [va_rf v3, .int (σ.AI a_1 (Int32.toNatClampNeg (v4 + 4))), .int (σ.AI a_1 (Int32.toNatClampNeg (v4 + 3))), .int (σ.AI a_1 (Int32.toNatClampNeg (v4 + 2))), .int (σ.AI a_1 (Int32.toNatClampNeg (v4 + 1))), va_rf v1]) (rest := []) (av := [va_rf v1, .int (σ.AI a_1 (Int32.toNatClampNeg (v4 + 1))), .int (σ.AI a_1 (Int32.toNatClampNeg (v4 + 2))), .int (σ.AI a_1 (Int32.toNatClampNeg (v4 + 3))), .int (σ.AI a_1 (Int32.toNatClampNeg (v4 + 4))), va_rf v3]) (x_linkS (M := mL_law) (M' := mL_assign) (As := [va_rf v1, .int (σ.AI a_1 (Int32.toNatClampNeg (v4 + 1))), .int (σ.AI a_1 (Int32.toNatClampNeg (v4 + 2))), .int (σ.AI a_1 (Int32.toNatClampNeg (v4 + 3))), .int (σ.AI a_1 (Int32.toNatClampNeg (v4 + 4))), va_rf v3]) (index := 80) wd_1043 wd_1044 wd_1005 xw_L_assign rfl ⟨_, _, _, Or.inr ⟨_, wd_1042⟩⟩ (by decide) rfl rfl dL_law_548) (ev_L_assign hO hP h_176) xw_L_assign rfl wd_1005 dL_law_548 (by decide) (by decide) (by simp [x_cat, x_catI, x_catJ])
          refine x_callR z9 ?_
          refine ev_at (st' := [.int v_174]) rfl rfl ?_
          refine ev_istore (i := 5) (lv' := [(5, .int v_174), (0, va_rf v0), (1, va_rf v1), (2, va_rf v2), (3, va_rf v3), (4, .int v4)]) dL_law_551 (by decide) rfl ?_
          refine ev_aload_n (j := 3) (x := v2) dL_law_553 rfl rfl ?_
          refine ev_aload_n (j := 1) (x := v0) dL_law_554 rfl rfl ?_
          refine ev_iload (j := 5) (x := v4) dL_law_555 rfl ?_
          refine ev_iconst (v := 1) dL_law_557 (by decide) ?_
          refine ev_iadd (x := v4) (y := 1) dL_law_558 ?_
          refine ev_at (st' := [.int (v4 + 1), va_rf (some a_1), va_rf v2]) rfl (by rw [ea_1]) ?_
          obtain ⟨c_177, h⟩ := x_chk_e h
          refine ev_sld c_177.1 c_177.2 dL_law_559 ?_
          refine ev_aload_n (j := 1) (x := v0) dL_law_560 rfl rfl ?_
          refine ev_iload (j := 5) (x := v4) dL_law_561 rfl ?_
          refine ev_iconst (v := 2) dL_law_563 (by decide) ?_
          refine ev_iadd (x := v4) (y := 2) dL_law_564 ?_
          refine ev_at (st' := [.int (v4 + 2), va_rf (some a_1), .int (σ_175.AI a_1 (Int32.toNatClampNeg (v4 + 1))), va_rf v2]) rfl (by rw [ea_1]) ?_
          obtain ⟨c_178, h⟩ := x_chk_e h
          refine ev_sld c_178.1 c_178.2 dL_law_565 ?_
          refine ev_aload_n (j := 1) (x := v0) dL_law_566 rfl rfl ?_
          refine ev_iload (j := 5) (x := v4) dL_law_567 rfl ?_
          refine ev_iconst (v := 3) dL_law_569 (by decide) ?_
          refine ev_iadd (x := v4) (y := 3) dL_law_570 ?_
          refine ev_at (st' := [.int (v4 + 3), va_rf (some a_1), .int (σ_175.AI a_1 (Int32.toNatClampNeg (v4 + 2))), .int (σ_175.AI a_1 (Int32.toNatClampNeg (v4 + 1))), va_rf v2]) rfl (by rw [ea_1]) ?_
          obtain ⟨c_179, h⟩ := x_chk_e h
          refine ev_sld c_179.1 c_179.2 dL_law_571 ?_
          refine ev_aload_n (j := 1) (x := v0) dL_law_572 rfl rfl ?_
          refine ev_iload (j := 5) (x := v4) dL_law_573 rfl ?_
          refine ev_iconst (v := 4) dL_law_575 (by decide) ?_
          refine ev_iadd (x := v4) (y := 4) dL_law_576 ?_
          refine ev_at (st' := [.int (v4 + 4), va_rf (some a_1), .int (σ_175.AI a_1 (Int32.toNatClampNeg (v4 + 3))), .int (σ_175.AI a_1 (Int32.toNatClampNeg (v4 + 2))), .int (σ_175.AI a_1 (Int32.toNatClampNeg (v4 + 1))), va_rf v2]) rfl (by rw [ea_1]) ?_
          obtain ⟨c_180, h⟩ := x_chk_e h
          refine ev_sld c_180.1 c_180.2 dL_law_577 ?_
          obtain ⟨a_181, ea_181, h⟩ := x_some_e h
          refine ev_at (st' := [.int (σ_175.AI a_1 (Int32.toNatClampNeg (v4 + 4))), .int (σ_175.AI a_1 (Int32.toNatClampNeg (v4 + 3))), .int (σ_175.AI a_1 (Int32.toNatClampNeg (v4 + 2))), .int (σ_175.AI a_1 (Int32.toNatClampNeg (v4 + 1))), va_rf (some a_181)]) rfl (by rw [ea_181]) ?_
          obtain ⟨c_185, h⟩ := x_chk_e h
          rcases x_bind_e h with ⟨v_182, σ_183, h_184, h⟩ | ⟨E_196, σ_183, h_184, h⟩
          · have z9 := x_call (M := mL_law) (M' := mX12_assign) (pc := 578) (st := [.int (σ_175.AI a_1 (Int32.toNatClampNeg (v4 + 4))), .int (σ_175.AI a_1 (Int32.toNatClampNeg (v4 + 3))), .int (σ_175.AI a_1 (Int32.toNatClampNeg (v4 + 2))), .int (σ_175.AI a_1 (Int32.toNatClampNeg (v4 + 1))), va_rf (some a_181)]) (rest := []) (av := [va_rf (some a_181), .int (σ_175.AI a_1 (Int32.toNatClampNeg (v4 + 1))), .int (σ_175.AI a_1 (Int32.toNatClampNeg (v4 + 2))), .int (σ_175.AI a_1 (Int32.toNatClampNeg (v4 + 3))), .int (σ_175.AI a_1 (Int32.toNatClampNeg (v4 + 4)))]) (x_linkV (M := mL_law) (M' := mX12_assign) (As := [.int (σ_175.AI a_1 (Int32.toNatClampNeg (v4 + 1))), .int (σ_175.AI a_1 (Int32.toNatClampNeg (v4 + 2))), .int (σ_175.AI a_1 (Int32.toNatClampNeg (v4 + 3))), .int (σ_175.AI a_1 (Int32.toNatClampNeg (v4 + 4)))]) (index := 82) (C := RX12) (T := TX12) (xE_12 c_185) rfl wd_1047 wd_1048 wd_1046 xw_X12_assign rfl (by decide) rfl rfl dL_law_578) (ev_X12_assign hO hP h_184) xw_X12_assign rfl wd_198 dL_law_578 (by decide) (by decide) (by simp [x_cat, x_catI, x_catJ])
            refine x_callR z9 ?_
            refine ev_at (st' := [.int v_182]) rfl rfl ?_
            refine ev_istore (i := 6) (lv' := [(6, .int v_182), (5, .int v_174), (0, va_rf v0), (1, va_rf v1), (2, va_rf v2), (3, va_rf v3), (4, .int v4)]) dL_law_581 (by decide) rfl ?_
            refine ev_aload_n (j := 4) (x := v2) dL_law_583 rfl rfl ?_
            refine ev_at (st' := [va_rf (some a_181)]) rfl (by rw [ea_181]) ?_
            obtain ⟨c_189, h⟩ := x_chk_e h
            rcases x_bind_e h with ⟨v_186, σ_187, h_188, h⟩ | ⟨E_195, σ_187, h_188, h⟩
            · have z9 := x_call (M := mL_law) (M' := mX12_thrown) (pc := 584) (st := [va_rf (some a_181)]) (rest := []) (av := [va_rf (some a_181)]) (x_linkV (M := mL_law) (M' := mX12_thrown) (As := []) (index := 61) (C := RX12) (T := TX12) (xE_12 c_189) rfl wd_1012 wd_1013 wd_1011 xw_X12_thrown rfl (by decide) rfl rfl dL_law_584) (ev_X12_thrown hO hP h_188) xw_X12_thrown rfl wd_198 dL_law_584 (by decide) (by decide) (by simp [x_cat, x_catI, x_catJ])
              refine x_callR z9 ?_
              refine ev_at (st' := [.int v_186]) rfl rfl ?_
              refine ev_iload (j := 1) (x := v_174) dL_law_587 rfl ?_
              by_cases c_190 : v_186 = v_174
              · rw [if_pos c_190] at h
                refine ev_icmp_eq (x := v_186) (y := v_174) (tgt := 594) dL_law_589 (by decide) (fun _ => ?_) (fun q9 => absurd c_190 q9)
                refine ev_iload (j := 1) (x := v_174) dL_law_594 rfl ?_
                by_cases c_191 : v_174 = 0
                · rw [if_pos c_191] at h
                  refine ev_if_ne (x := v_174) (tgt := 611) dL_law_596 (by decide) (fun q9 => absurd c_191 q9) (fun _ => ?_)
                  refine ev_aload_n (j := 5) (x := v3) dL_law_599 rfl rfl ?_
                  refine ev_iconst (v := 0) dL_law_600 (by decide) ?_
                  obtain ⟨a_192, ea_192, h⟩ := x_some_e h
                  refine ev_at (st' := [.int 0, va_rf (some a_192)]) rfl (by rw [ea_192]) ?_
                  obtain ⟨c_193, h⟩ := x_chk_e h
                  refine ev_lald_42 c_193.1 c_193.2 dL_law_601 ?_
                  refine ev_iload (j := 0) (x := v_182) dL_law_602 rfl ?_
                  refine ev_i2l (x := v_182) dL_law_604 ?_
                  refine ev_lcmp (x := (σ_187.AJ a_192 (Int32.toNatClampNeg 0))) (y := (Int32.toInt64 v_182)) dL_law_605 ?_
                  by_cases c_194 : (lg_cmp (σ_187.AJ a_192 (Int32.toNatClampNeg 0)) (Int32.toInt64 v_182)) = 0
                  · rw [if_pos c_194] at h
                    refine ev_if_eq (x := (lg_cmp (σ_187.AJ a_192 (Int32.toNatClampNeg 0)) (Int32.toInt64 v_182))) (tgt := 611) dL_law_606 (by decide) (fun _ => ?_) (fun q9 => absurd c_194 q9)
                    exact ev_sub [2, 3, 4, 5, 6] rfl (ev_L_law_p611 hO hP ih h)
                  · rw [if_neg c_194] at h
                    refine ev_if_eq (x := (lg_cmp (σ_187.AJ a_192 (Int32.toNatClampNeg 0)) (Int32.toInt64 v_182))) (tgt := 611) dL_law_606 (by decide) (fun q9 => absurd q9 c_194) (fun _ => ?_)
                    refine ev_iconst (v := 0) dL_law_609 (by decide) ?_
                    cases h
                    exact ev_iret rfl rfl dL_law_610
                · rw [if_neg c_191] at h
                  refine ev_if_ne (x := v_174) (tgt := 611) dL_law_596 (by decide) (fun _ => ?_) (fun q9 => absurd q9 c_191)
                  exact ev_sub [2, 3, 4, 5, 6] rfl (ev_L_law_p611 hO hP ih h)
              · rw [if_neg c_190] at h
                refine ev_icmp_eq (x := v_186) (y := v_174) (tgt := 594) dL_law_589 (by decide) (fun q9 => absurd q9 c_190) (fun _ => ?_)
                refine ev_iconst (v := 0) dL_law_592 (by decide) ?_
                cases h
                exact ev_iret rfl rfl dL_law_593
            · have z9 := x_call (M := mL_law) (M' := mX12_thrown) (pc := 584) (st := [va_rf (some a_181)]) (rest := []) (av := [va_rf (some a_181)]) (x_linkV (M := mL_law) (M' := mX12_thrown) (As := []) (index := 61) (C := RX12) (T := TX12) (xE_12 c_189) rfl wd_1012 wd_1013 wd_1011 xw_X12_thrown rfl (by decide) rfl rfl dL_law_584) (ev_X12_thrown hO hP h_188) xw_X12_thrown rfl wd_198 dL_law_584 (by decide) (by decide) (by simp [x_cat, x_catI, x_catJ])
              cases h
              exact x_callX z9 (evX_out rfl)
          · have z9 := x_call (M := mL_law) (M' := mX12_assign) (pc := 578) (st := [.int (σ_175.AI a_1 (Int32.toNatClampNeg (v4 + 4))), .int (σ_175.AI a_1 (Int32.toNatClampNeg (v4 + 3))), .int (σ_175.AI a_1 (Int32.toNatClampNeg (v4 + 2))), .int (σ_175.AI a_1 (Int32.toNatClampNeg (v4 + 1))), va_rf (some a_181)]) (rest := []) (av := [va_rf (some a_181), .int (σ_175.AI a_1 (Int32.toNatClampNeg (v4 + 1))), .int (σ_175.AI a_1 (Int32.toNatClampNeg (v4 + 2))), .int (σ_175.AI a_1 (Int32.toNatClampNeg (v4 + 3))), .int (σ_175.AI a_1 (Int32.toNatClampNeg (v4 + 4)))]) (x_linkV (M := mL_law) (M' := mX12_assign) (As := [.int (σ_175.AI a_1 (Int32.toNatClampNeg (v4 + 1))), .int (σ_175.AI a_1 (Int32.toNatClampNeg (v4 + 2))), .int (σ_175.AI a_1 (Int32.toNatClampNeg (v4 + 3))), .int (σ_175.AI a_1 (Int32.toNatClampNeg (v4 + 4)))]) (index := 82) (C := RX12) (T := TX12) (xE_12 c_185) rfl wd_1047 wd_1048 wd_1046 xw_X12_assign rfl (by decide) rfl rfl dL_law_578) (ev_X12_assign hO hP h_184) xw_X12_assign rfl wd_198 dL_law_578 (by decide) (by decide) (by simp [x_cat, x_catI, x_catJ])
            cases h
            exact x_callX z9 (evX_out rfl)
        · have z9 := x_call (M := mL_law) (M' := mL_assign) (pc := 548) (st := [va_rf v3, .int (σ.AI a_1 (Int32.toNatClampNeg (v4 + 4))), .int (σ.AI a_1 (Int32.toNatClampNeg (v4 + 3))), .int (σ.AI a_1 (Int32.toNatClampNeg (v4 + 2))), .int (σ.AI a_1 (Int32.toNatClampNeg (v4 + 1))), va_rf v1]) (rest := []) (av := [va_rf v1, .int (σ.AI a_1 (Int32.toNatClampNeg (v4 + 1))), .int (σ.AI a_1 (Int32.toNatClampNeg (v4 + 2))), .int (σ.AI a_1 (Int32.toNatClampNeg (v4 + 3))), .int (σ.AI a_1 (Int32.toNatClampNeg (v4 + 4))), va_rf v3]) (x_linkS (M := mL_law) (M' := mL_assign) (As := [va_rf v1, .int (σ.AI a_1 (Int32.toNatClampNeg (v4 + 1))), .int (σ.AI a_1 (Int32.toNatClampNeg (v4 + 2))), .int (σ.AI a_1 (Int32.toNatClampNeg (v4 + 3))), .int (σ.AI a_1 (Int32.toNatClampNeg (v4 + 4))), va_rf v3]) (index := 80) wd_1043 wd_1044 wd_1005 xw_L_assign rfl ⟨_, _, _, Or.inr ⟨_, wd_1042⟩⟩ (by decide) rfl rfl dL_law_548) (ev_L_assign hO hP h_176) xw_L_assign rfl wd_1005 dL_law_548 (by decide) (by decide) (by simp [x_cat, x_catI, x_catJ])
          cases h
          exact x_callX z9 (evX_out rfl)
      rw [if_neg c_169] at h
      by_cases c_198 : v_5 = 8
      · rw [if_pos c_198] at h
        refine ev_at (st' := .int 8 :: []) rfl (by rw [c_198]) ?_
        refine ev_tableIn (tgt := 614) (off := 575) dL_law_39 (by decide) (by decide) rfl (by decide) ?_
        refine ev_aload_n (j := 1) (x := v1) dL_law_614 rfl rfl ?_
        refine ev_aload_n (j := 0) (x := v0) dL_law_615 rfl rfl ?_
        refine ev_iload (j := 4) (x := v4) dL_law_616 rfl ?_
        refine ev_iconst (v := 1) dL_law_618 (by decide) ?_
        refine ev_iadd (x := v4) (y := 1) dL_law_619 ?_
        refine ev_at (st' := [.int (v4 + 1), va_rf (some a_1), va_rf v1]) rfl (by rw [ea_1]) ?_
        obtain ⟨c_199, h⟩ := x_chk_e h
        refine ev_sld c_199.1 c_199.2 dL_law_620 ?_
        refine ev_aload_n (j := 0) (x := v0) dL_law_621 rfl rfl ?_
        refine ev_iload (j := 4) (x := v4) dL_law_622 rfl ?_
        refine ev_iconst (v := 2) dL_law_624 (by decide) ?_
        refine ev_iadd (x := v4) (y := 2) dL_law_625 ?_
        refine ev_at (st' := [.int (v4 + 2), va_rf (some a_1), .int (σ.AI a_1 (Int32.toNatClampNeg (v4 + 1))), va_rf v1]) rfl (by rw [ea_1]) ?_
        obtain ⟨c_200, h⟩ := x_chk_e h
        refine ev_sld c_200.1 c_200.2 dL_law_626 ?_
        refine ev_aload_n (j := 0) (x := v0) dL_law_627 rfl rfl ?_
        refine ev_iload (j := 4) (x := v4) dL_law_628 rfl ?_
        refine ev_iconst (v := 3) dL_law_630 (by decide) ?_
        refine ev_iadd (x := v4) (y := 3) dL_law_631 ?_
        refine ev_at (st' := [.int (v4 + 3), va_rf (some a_1), .int (σ.AI a_1 (Int32.toNatClampNeg (v4 + 2))), .int (σ.AI a_1 (Int32.toNatClampNeg (v4 + 1))), va_rf v1]) rfl (by rw [ea_1]) ?_
        obtain ⟨c_201, h⟩ := x_chk_e h
        refine ev_sld c_201.1 c_201.2 dL_law_632 ?_
        refine ev_aload_n (j := 0) (x := v0) dL_law_633 rfl rfl ?_
        refine ev_iload (j := 4) (x := v4) dL_law_634 rfl ?_
        refine ev_iconst (v := 4) dL_law_636 (by decide) ?_
        refine ev_iadd (x := v4) (y := 4) dL_law_637 ?_
        refine ev_at (st' := [.int (v4 + 4), va_rf (some a_1), .int (σ.AI a_1 (Int32.toNatClampNeg (v4 + 3))), .int (σ.AI a_1 (Int32.toNatClampNeg (v4 + 2))), .int (σ.AI a_1 (Int32.toNatClampNeg (v4 + 1))), va_rf v1]) rfl (by rw [ea_1]) ?_
        obtain ⟨c_202, h⟩ := x_chk_e h
        refine ev_sld c_202.1 c_202.2 dL_law_638 ?_
        refine ev_aload_n (j := 3) (x := v3) dL_law_639 rfl rfl ?_
        rcases x_bind_e h with ⟨v_203, σ_204, h_205, h⟩ | ⟨E_226, σ_204, h_205, h⟩
        · have z9 := x_call (M := mL_law) (M' := mL_letter) (pc := 640) (st := [va_rf v3, .int (σ.AI a_1 (Int32.toNatClampNeg (v4 + 4))), .int (σ.AI a_1 (Int32.toNatClampNeg (v4 + 3))), .int (σ.AI a_1 (Int32.toNatClampNeg (v4 + 2))), .int (σ.AI a_1 (Int32.toNatClampNeg (v4 + 1))), va_rf v1]) (rest := []) (av := [va_rf v1, .int (σ.AI a_1 (Int32.toNatClampNeg (v4 + 1))), .int (σ.AI a_1 (Int32.toNatClampNeg (v4 + 2))), .int (σ.AI a_1 (Int32.toNatClampNeg (v4 + 3))), .int (σ.AI a_1 (Int32.toNatClampNeg (v4 + 4))), va_rf v3]) (x_linkS (M := mL_law) (M' := mL_letter) (As := [va_rf v1, .int (σ.AI a_1 (Int32.toNatClampNeg (v4 + 1))), .int (σ.AI a_1 (Int32.toNatClampNeg (v4 + 2))), .int (σ.AI a_1 (Int32.toNatClampNeg (v4 + 3))), .int (σ.AI a_1 (Int32.toNatClampNeg (v4 + 4))), va_rf v3]) (index := 83) wd_1050 wd_1051 wd_1005 xw_L_letter rfl ⟨_, _, _, Or.inr ⟨_, wd_1049⟩⟩ (by decide) rfl rfl dL_law_640) (ev_L_letter hO hP h_205) xw_L_letter rfl wd_1005 dL_law_640 (by decide) (by decide) (by simp [x_cat, x_catI, x_catJ])
          refine x_callR z9 ?_
          refine ev_at (st' := [.int v_203]) rfl rfl ?_
          refine ev_istore (i := 5) (lv' := [(5, .int v_203), (0, va_rf v0), (1, va_rf v1), (2, va_rf v2), (3, va_rf v3), (4, .int v4)]) dL_law_643 (by decide) rfl ?_
          refine ev_aload_n (j := 3) (x := v2) dL_law_645 rfl rfl ?_
          refine ev_aload_n (j := 1) (x := v0) dL_law_646 rfl rfl ?_
          refine ev_iload (j := 5) (x := v4) dL_law_647 rfl ?_
          refine ev_iconst (v := 1) dL_law_649 (by decide) ?_
          refine ev_iadd (x := v4) (y := 1) dL_law_650 ?_
          refine ev_at (st' := [.int (v4 + 1), va_rf (some a_1), va_rf v2]) rfl (by rw [ea_1]) ?_
          obtain ⟨c_206, h⟩ := x_chk_e h
          refine ev_sld c_206.1 c_206.2 dL_law_651 ?_
          refine ev_aload_n (j := 1) (x := v0) dL_law_652 rfl rfl ?_
          refine ev_iload (j := 5) (x := v4) dL_law_653 rfl ?_
          refine ev_iconst (v := 2) dL_law_655 (by decide) ?_
          refine ev_iadd (x := v4) (y := 2) dL_law_656 ?_
          refine ev_at (st' := [.int (v4 + 2), va_rf (some a_1), .int (σ_204.AI a_1 (Int32.toNatClampNeg (v4 + 1))), va_rf v2]) rfl (by rw [ea_1]) ?_
          obtain ⟨c_207, h⟩ := x_chk_e h
          refine ev_sld c_207.1 c_207.2 dL_law_657 ?_
          refine ev_aload_n (j := 1) (x := v0) dL_law_658 rfl rfl ?_
          refine ev_iload (j := 5) (x := v4) dL_law_659 rfl ?_
          refine ev_iconst (v := 3) dL_law_661 (by decide) ?_
          refine ev_iadd (x := v4) (y := 3) dL_law_662 ?_
          refine ev_at (st' := [.int (v4 + 3), va_rf (some a_1), .int (σ_204.AI a_1 (Int32.toNatClampNeg (v4 + 2))), .int (σ_204.AI a_1 (Int32.toNatClampNeg (v4 + 1))), va_rf v2]) rfl (by rw [ea_1]) ?_
          obtain ⟨c_208, h⟩ := x_chk_e h
          refine ev_sld c_208.1 c_208.2 dL_law_663 ?_
          refine ev_aload_n (j := 1) (x := v0) dL_law_664 rfl rfl ?_
          refine ev_iload (j := 5) (x := v4) dL_law_665 rfl ?_
          refine ev_iconst (v := 4) dL_law_667 (by decide) ?_
          refine ev_iadd (x := v4) (y := 4) dL_law_668 ?_
          refine ev_at (st' := [.int (v4 + 4), va_rf (some a_1), .int (σ_204.AI a_1 (Int32.toNatClampNeg (v4 + 3))), .int (σ_204.AI a_1 (Int32.toNatClampNeg (v4 + 2))), .int (σ_204.AI a_1 (Int32.toNatClampNeg (v4 + 1))), va_rf v2]) rfl (by rw [ea_1]) ?_
          obtain ⟨c_209, h⟩ := x_chk_e h
          refine ev_sld c_209.1 c_209.2 dL_law_669 ?_
          obtain ⟨a_210, ea_210, h⟩ := x_some_e h
          refine ev_at (st' := [.int (σ_204.AI a_1 (Int32.toNatClampNeg (v4 + 4))), .int (σ_204.AI a_1 (Int32.toNatClampNeg (v4 + 3))), .int (σ_204.AI a_1 (Int32.toNatClampNeg (v4 + 2))), .int (σ_204.AI a_1 (Int32.toNatClampNeg (v4 + 1))), va_rf (some a_210)]) rfl (by rw [ea_210]) ?_
          obtain ⟨c_214, h⟩ := x_chk_e h
          rcases x_bind_e h with ⟨v_211, σ_212, h_213, h⟩ | ⟨E_225, σ_212, h_213, h⟩
          · have z9 := x_call (M := mL_law) (M' := mX12_letter) (pc := 670) (st := [.int (σ_204.AI a_1 (Int32.toNatClampNeg (v4 + 4))), .int (σ_204.AI a_1 (Int32.toNatClampNeg (v4 + 3))), .int (σ_204.AI a_1 (Int32.toNatClampNeg (v4 + 2))), .int (σ_204.AI a_1 (Int32.toNatClampNeg (v4 + 1))), va_rf (some a_210)]) (rest := []) (av := [va_rf (some a_210), .int (σ_204.AI a_1 (Int32.toNatClampNeg (v4 + 1))), .int (σ_204.AI a_1 (Int32.toNatClampNeg (v4 + 2))), .int (σ_204.AI a_1 (Int32.toNatClampNeg (v4 + 3))), .int (σ_204.AI a_1 (Int32.toNatClampNeg (v4 + 4)))]) (x_linkV (M := mL_law) (M' := mX12_letter) (As := [.int (σ_204.AI a_1 (Int32.toNatClampNeg (v4 + 1))), .int (σ_204.AI a_1 (Int32.toNatClampNeg (v4 + 2))), .int (σ_204.AI a_1 (Int32.toNatClampNeg (v4 + 3))), .int (σ_204.AI a_1 (Int32.toNatClampNeg (v4 + 4)))]) (index := 85) (C := RX12) (T := TX12) (xE_12 c_214) rfl wd_1054 wd_1055 wd_1053 xw_X12_letter rfl (by decide) rfl rfl dL_law_670) (ev_X12_letter hO hP h_213) xw_X12_letter rfl wd_198 dL_law_670 (by decide) (by decide) (by simp [x_cat, x_catI, x_catJ])
            refine x_callR z9 ?_
            refine ev_at (st' := [.int v_211]) rfl rfl ?_
            refine ev_istore (i := 6) (lv' := [(6, .int v_211), (5, .int v_203), (0, va_rf v0), (1, va_rf v1), (2, va_rf v2), (3, va_rf v3), (4, .int v4)]) dL_law_673 (by decide) rfl ?_
            refine ev_aload_n (j := 4) (x := v2) dL_law_675 rfl rfl ?_
            refine ev_at (st' := [va_rf (some a_210)]) rfl (by rw [ea_210]) ?_
            obtain ⟨c_218, h⟩ := x_chk_e h
            rcases x_bind_e h with ⟨v_215, σ_216, h_217, h⟩ | ⟨E_224, σ_216, h_217, h⟩
            · have z9 := x_call (M := mL_law) (M' := mX12_thrown) (pc := 676) (st := [va_rf (some a_210)]) (rest := []) (av := [va_rf (some a_210)]) (x_linkV (M := mL_law) (M' := mX12_thrown) (As := []) (index := 61) (C := RX12) (T := TX12) (xE_12 c_218) rfl wd_1012 wd_1013 wd_1011 xw_X12_thrown rfl (by decide) rfl rfl dL_law_676) (ev_X12_thrown hO hP h_217) xw_X12_thrown rfl wd_198 dL_law_676 (by decide) (by decide) (by simp [x_cat, x_catI, x_catJ])
              refine x_callR z9 ?_
              refine ev_at (st' := [.int v_215]) rfl rfl ?_
              refine ev_iload (j := 1) (x := v_203) dL_law_679 rfl ?_
              by_cases c_219 : v_215 = v_203
              · rw [if_pos c_219] at h
                refine ev_icmp_eq (x := v_215) (y := v_203) (tgt := 686) dL_law_681 (by decide) (fun _ => ?_) (fun q9 => absurd c_219 q9)
                refine ev_iload (j := 1) (x := v_203) dL_law_686 rfl ?_
                by_cases c_220 : v_203 = 0
                · rw [if_pos c_220] at h
                  refine ev_if_ne (x := v_203) (tgt := 703) dL_law_688 (by decide) (fun q9 => absurd c_220 q9) (fun _ => ?_)
                  refine ev_aload_n (j := 5) (x := v3) dL_law_691 rfl rfl ?_
                  refine ev_iconst (v := 0) dL_law_692 (by decide) ?_
                  obtain ⟨a_221, ea_221, h⟩ := x_some_e h
                  refine ev_at (st' := [.int 0, va_rf (some a_221)]) rfl (by rw [ea_221]) ?_
                  obtain ⟨c_222, h⟩ := x_chk_e h
                  refine ev_lald_42 c_222.1 c_222.2 dL_law_693 ?_
                  refine ev_iload (j := 0) (x := v_211) dL_law_694 rfl ?_
                  refine ev_i2l (x := v_211) dL_law_696 ?_
                  refine ev_lcmp (x := (σ_216.AJ a_221 (Int32.toNatClampNeg 0))) (y := (Int32.toInt64 v_211)) dL_law_697 ?_
                  by_cases c_223 : (lg_cmp (σ_216.AJ a_221 (Int32.toNatClampNeg 0)) (Int32.toInt64 v_211)) = 0
                  · rw [if_pos c_223] at h
                    refine ev_if_eq (x := (lg_cmp (σ_216.AJ a_221 (Int32.toNatClampNeg 0)) (Int32.toInt64 v_211))) (tgt := 703) dL_law_698 (by decide) (fun _ => ?_) (fun q9 => absurd c_223 q9)
                    exact ev_sub [2, 3, 4, 5, 6] rfl (ev_L_law_p703 hO hP ih h)
                  · rw [if_neg c_223] at h
                    refine ev_if_eq (x := (lg_cmp (σ_216.AJ a_221 (Int32.toNatClampNeg 0)) (Int32.toInt64 v_211))) (tgt := 703) dL_law_698 (by decide) (fun q9 => absurd q9 c_223) (fun _ => ?_)
                    refine ev_iconst (v := 0) dL_law_701 (by decide) ?_
                    cases h
                    exact ev_iret rfl rfl dL_law_702
                · rw [if_neg c_220] at h
                  refine ev_if_ne (x := v_203) (tgt := 703) dL_law_688 (by decide) (fun _ => ?_) (fun q9 => absurd q9 c_220)
                  exact ev_sub [2, 3, 4, 5, 6] rfl (ev_L_law_p703 hO hP ih h)
              · rw [if_neg c_219] at h
                refine ev_icmp_eq (x := v_215) (y := v_203) (tgt := 686) dL_law_681 (by decide) (fun q9 => absurd q9 c_219) (fun _ => ?_)
                refine ev_iconst (v := 0) dL_law_684 (by decide) ?_
                cases h
                exact ev_iret rfl rfl dL_law_685
            · have z9 := x_call (M := mL_law) (M' := mX12_thrown) (pc := 676) (st := [va_rf (some a_210)]) (rest := []) (av := [va_rf (some a_210)]) (x_linkV (M := mL_law) (M' := mX12_thrown) (As := []) (index := 61) (C := RX12) (T := TX12) (xE_12 c_218) rfl wd_1012 wd_1013 wd_1011 xw_X12_thrown rfl (by decide) rfl rfl dL_law_676) (ev_X12_thrown hO hP h_217) xw_X12_thrown rfl wd_198 dL_law_676 (by decide) (by decide) (by simp [x_cat, x_catI, x_catJ])
              cases h
              exact x_callX z9 (evX_out rfl)
          · have z9 := x_call (M := mL_law) (M' := mX12_letter) (pc := 670) (st := [.int (σ_204.AI a_1 (Int32.toNatClampNeg (v4 + 4))), .int (σ_204.AI a_1 (Int32.toNatClampNeg (v4 + 3))), .int (σ_204.AI a_1 (Int32.toNatClampNeg (v4 + 2))), .int (σ_204.AI a_1 (Int32.toNatClampNeg (v4 + 1))), va_rf (some a_210)]) (rest := []) (av := [va_rf (some a_210), .int (σ_204.AI a_1 (Int32.toNatClampNeg (v4 + 1))), .int (σ_204.AI a_1 (Int32.toNatClampNeg (v4 + 2))), .int (σ_204.AI a_1 (Int32.toNatClampNeg (v4 + 3))), .int (σ_204.AI a_1 (Int32.toNatClampNeg (v4 + 4)))]) (x_linkV (M := mL_law) (M' := mX12_letter) (As := [.int (σ_204.AI a_1 (Int32.toNatClampNeg (v4 + 1))), .int (σ_204.AI a_1 (Int32.toNatClampNeg (v4 + 2))), .int (σ_204.AI a_1 (Int32.toNatClampNeg (v4 + 3))), .int (σ_204.AI a_1 (Int32.toNatClampNeg (v4 + 4)))]) (index := 85) (C := RX12) (T := TX12) (xE_12 c_214) rfl wd_1054 wd_1055 wd_1053 xw_X12_letter rfl (by decide) rfl rfl dL_law_670) (ev_X12_letter hO hP h_213) xw_X12_letter rfl wd_198 dL_law_670 (by decide) (by decide) (by simp [x_cat, x_catI, x_catJ])
            cases h
            exact x_callX z9 (evX_out rfl)
        · have z9 := x_call (M := mL_law) (M' := mL_letter) (pc := 640) (st := [va_rf v3, .int (σ.AI a_1 (Int32.toNatClampNeg (v4 + 4))), .int (σ.AI a_1 (Int32.toNatClampNeg (v4 + 3))), .int (σ.AI a_1 (Int32.toNatClampNeg (v4 + 2))), .int (σ.AI a_1 (Int32.toNatClampNeg (v4 + 1))), va_rf v1]) (rest := []) (av := [va_rf v1, .int (σ.AI a_1 (Int32.toNatClampNeg (v4 + 1))), .int (σ.AI a_1 (Int32.toNatClampNeg (v4 + 2))), .int (σ.AI a_1 (Int32.toNatClampNeg (v4 + 3))), .int (σ.AI a_1 (Int32.toNatClampNeg (v4 + 4))), va_rf v3]) (x_linkS (M := mL_law) (M' := mL_letter) (As := [va_rf v1, .int (σ.AI a_1 (Int32.toNatClampNeg (v4 + 1))), .int (σ.AI a_1 (Int32.toNatClampNeg (v4 + 2))), .int (σ.AI a_1 (Int32.toNatClampNeg (v4 + 3))), .int (σ.AI a_1 (Int32.toNatClampNeg (v4 + 4))), va_rf v3]) (index := 83) wd_1050 wd_1051 wd_1005 xw_L_letter rfl ⟨_, _, _, Or.inr ⟨_, wd_1049⟩⟩ (by decide) rfl rfl dL_law_640) (ev_L_letter hO hP h_205) xw_L_letter rfl wd_1005 dL_law_640 (by decide) (by decide) (by simp [x_cat, x_catI, x_catJ])
          cases h
          exact x_callX z9 (evX_out rfl)
      rw [if_neg c_198] at h
      by_cases c_227 : v_5 = 9
      · rw [if_pos c_227] at h
        refine ev_at (st' := .int 9 :: []) rfl (by rw [c_227]) ?_
        refine ev_tableIn (tgt := 706) (off := 667) dL_law_39 (by decide) (by decide) rfl (by decide) ?_
        refine ev_aload_n (j := 1) (x := v1) dL_law_706 rfl rfl ?_
        refine ev_aload_n (j := 0) (x := v0) dL_law_707 rfl rfl ?_
        refine ev_iload (j := 4) (x := v4) dL_law_708 rfl ?_
        refine ev_iconst (v := 1) dL_law_710 (by decide) ?_
        refine ev_iadd (x := v4) (y := 1) dL_law_711 ?_
        refine ev_at (st' := [.int (v4 + 1), va_rf (some a_1), va_rf v1]) rfl (by rw [ea_1]) ?_
        obtain ⟨c_228, h⟩ := x_chk_e h
        refine ev_sld c_228.1 c_228.2 dL_law_712 ?_
        refine ev_aload_n (j := 0) (x := v0) dL_law_713 rfl rfl ?_
        refine ev_iload (j := 4) (x := v4) dL_law_714 rfl ?_
        refine ev_iconst (v := 2) dL_law_716 (by decide) ?_
        refine ev_iadd (x := v4) (y := 2) dL_law_717 ?_
        refine ev_at (st' := [.int (v4 + 2), va_rf (some a_1), .int (σ.AI a_1 (Int32.toNatClampNeg (v4 + 1))), va_rf v1]) rfl (by rw [ea_1]) ?_
        obtain ⟨c_229, h⟩ := x_chk_e h
        refine ev_sld c_229.1 c_229.2 dL_law_718 ?_
        refine ev_aload_n (j := 3) (x := v3) dL_law_719 rfl rfl ?_
        rcases x_bind_e h with ⟨v_230, σ_231, h_232, h⟩ | ⟨E_251, σ_231, h_232, h⟩
        · have z9 := x_call (M := mL_law) (M' := mL_write) (pc := 720) (st := [va_rf v3, .int (σ.AI a_1 (Int32.toNatClampNeg (v4 + 2))), .int (σ.AI a_1 (Int32.toNatClampNeg (v4 + 1))), va_rf v1]) (rest := []) (av := [va_rf v1, .int (σ.AI a_1 (Int32.toNatClampNeg (v4 + 1))), .int (σ.AI a_1 (Int32.toNatClampNeg (v4 + 2))), va_rf v3]) (x_linkS (M := mL_law) (M' := mL_write) (As := [va_rf v1, .int (σ.AI a_1 (Int32.toNatClampNeg (v4 + 1))), .int (σ.AI a_1 (Int32.toNatClampNeg (v4 + 2))), va_rf v3]) (index := 86) wd_1057 wd_1058 wd_1005 xw_L_write rfl ⟨_, _, _, Or.inr ⟨_, wd_1056⟩⟩ (by decide) rfl rfl dL_law_720) (ev_L_write hO hP h_232) xw_L_write rfl wd_1005 dL_law_720 (by decide) (by decide) (by simp [x_cat, x_catI, x_catJ])
          refine x_callR z9 ?_
          refine ev_at (st' := [.int v_230]) rfl rfl ?_
          refine ev_istore (i := 5) (lv' := [(5, .int v_230), (0, va_rf v0), (1, va_rf v1), (2, va_rf v2), (3, va_rf v3), (4, .int v4)]) dL_law_723 (by decide) rfl ?_
          refine ev_aload_n (j := 3) (x := v2) dL_law_725 rfl rfl ?_
          refine ev_aload_n (j := 1) (x := v0) dL_law_726 rfl rfl ?_
          refine ev_iload (j := 5) (x := v4) dL_law_727 rfl ?_
          refine ev_iconst (v := 1) dL_law_729 (by decide) ?_
          refine ev_iadd (x := v4) (y := 1) dL_law_730 ?_
          refine ev_at (st' := [.int (v4 + 1), va_rf (some a_1), va_rf v2]) rfl (by rw [ea_1]) ?_
          obtain ⟨c_233, h⟩ := x_chk_e h
          refine ev_sld c_233.1 c_233.2 dL_law_731 ?_
          refine ev_aload_n (j := 1) (x := v0) dL_law_732 rfl rfl ?_
          refine ev_iload (j := 5) (x := v4) dL_law_733 rfl ?_
          refine ev_iconst (v := 2) dL_law_735 (by decide) ?_
          refine ev_iadd (x := v4) (y := 2) dL_law_736 ?_
          refine ev_at (st' := [.int (v4 + 2), va_rf (some a_1), .int (σ_231.AI a_1 (Int32.toNatClampNeg (v4 + 1))), va_rf v2]) rfl (by rw [ea_1]) ?_
          obtain ⟨c_234, h⟩ := x_chk_e h
          refine ev_sld c_234.1 c_234.2 dL_law_737 ?_
          obtain ⟨a_235, ea_235, h⟩ := x_some_e h
          refine ev_at (st' := [.int (σ_231.AI a_1 (Int32.toNatClampNeg (v4 + 2))), .int (σ_231.AI a_1 (Int32.toNatClampNeg (v4 + 1))), va_rf (some a_235)]) rfl (by rw [ea_235]) ?_
          obtain ⟨c_239, h⟩ := x_chk_e h
          rcases x_bind_e h with ⟨v_236, σ_237, h_238, h⟩ | ⟨E_250, σ_237, h_238, h⟩
          · have z9 := x_call (M := mL_law) (M' := mX12_write) (pc := 738) (st := [.int (σ_231.AI a_1 (Int32.toNatClampNeg (v4 + 2))), .int (σ_231.AI a_1 (Int32.toNatClampNeg (v4 + 1))), va_rf (some a_235)]) (rest := []) (av := [va_rf (some a_235), .int (σ_231.AI a_1 (Int32.toNatClampNeg (v4 + 1))), .int (σ_231.AI a_1 (Int32.toNatClampNeg (v4 + 2)))]) (x_linkV (M := mL_law) (M' := mX12_write) (As := [.int (σ_231.AI a_1 (Int32.toNatClampNeg (v4 + 1))), .int (σ_231.AI a_1 (Int32.toNatClampNeg (v4 + 2)))]) (index := 88) (C := RX12) (T := TX12) (xE_12 c_239) rfl wd_1061 wd_1062 wd_1060 xw_X12_write rfl (by decide) rfl rfl dL_law_738) (ev_X12_write hO hP h_238) xw_X12_write rfl wd_198 dL_law_738 (by decide) (by decide) (by simp [x_cat, x_catI, x_catJ])
            refine x_callR z9 ?_
            refine ev_at (st' := [.int v_236]) rfl rfl ?_
            refine ev_istore (i := 6) (lv' := [(6, .int v_236), (5, .int v_230), (0, va_rf v0), (1, va_rf v1), (2, va_rf v2), (3, va_rf v3), (4, .int v4)]) dL_law_741 (by decide) rfl ?_
            refine ev_aload_n (j := 4) (x := v2) dL_law_743 rfl rfl ?_
            refine ev_at (st' := [va_rf (some a_235)]) rfl (by rw [ea_235]) ?_
            obtain ⟨c_243, h⟩ := x_chk_e h
            rcases x_bind_e h with ⟨v_240, σ_241, h_242, h⟩ | ⟨E_249, σ_241, h_242, h⟩
            · have z9 := x_call (M := mL_law) (M' := mX12_thrown) (pc := 744) (st := [va_rf (some a_235)]) (rest := []) (av := [va_rf (some a_235)]) (x_linkV (M := mL_law) (M' := mX12_thrown) (As := []) (index := 61) (C := RX12) (T := TX12) (xE_12 c_243) rfl wd_1012 wd_1013 wd_1011 xw_X12_thrown rfl (by decide) rfl rfl dL_law_744) (ev_X12_thrown hO hP h_242) xw_X12_thrown rfl wd_198 dL_law_744 (by decide) (by decide) (by simp [x_cat, x_catI, x_catJ])
              refine x_callR z9 ?_
              refine ev_at (st' := [.int v_240]) rfl rfl ?_
              refine ev_iload (j := 1) (x := v_230) dL_law_747 rfl ?_
              by_cases c_244 : v_240 = v_230
              · rw [if_pos c_244] at h
                refine ev_icmp_eq (x := v_240) (y := v_230) (tgt := 754) dL_law_749 (by decide) (fun _ => ?_) (fun q9 => absurd c_244 q9)
                refine ev_iload (j := 1) (x := v_230) dL_law_754 rfl ?_
                by_cases c_245 : v_230 = 0
                · rw [if_pos c_245] at h
                  refine ev_if_ne (x := v_230) (tgt := 771) dL_law_756 (by decide) (fun q9 => absurd c_245 q9) (fun _ => ?_)
                  refine ev_aload_n (j := 5) (x := v3) dL_law_759 rfl rfl ?_
                  refine ev_iconst (v := 0) dL_law_760 (by decide) ?_
                  obtain ⟨a_246, ea_246, h⟩ := x_some_e h
                  refine ev_at (st' := [.int 0, va_rf (some a_246)]) rfl (by rw [ea_246]) ?_
                  obtain ⟨c_247, h⟩ := x_chk_e h
                  refine ev_lald_42 c_247.1 c_247.2 dL_law_761 ?_
                  refine ev_iload (j := 0) (x := v_236) dL_law_762 rfl ?_
                  refine ev_i2l (x := v_236) dL_law_764 ?_
                  refine ev_lcmp (x := (σ_241.AJ a_246 (Int32.toNatClampNeg 0))) (y := (Int32.toInt64 v_236)) dL_law_765 ?_
                  by_cases c_248 : (lg_cmp (σ_241.AJ a_246 (Int32.toNatClampNeg 0)) (Int32.toInt64 v_236)) = 0
                  · rw [if_pos c_248] at h
                    refine ev_if_eq (x := (lg_cmp (σ_241.AJ a_246 (Int32.toNatClampNeg 0)) (Int32.toInt64 v_236))) (tgt := 771) dL_law_766 (by decide) (fun _ => ?_) (fun q9 => absurd c_248 q9)
                    exact ev_sub [2, 3, 4, 5, 6] rfl (ev_L_law_p771 hO hP ih h)
                  · rw [if_neg c_248] at h
                    refine ev_if_eq (x := (lg_cmp (σ_241.AJ a_246 (Int32.toNatClampNeg 0)) (Int32.toInt64 v_236))) (tgt := 771) dL_law_766 (by decide) (fun q9 => absurd q9 c_248) (fun _ => ?_)
                    refine ev_iconst (v := 0) dL_law_769 (by decide) ?_
                    cases h
                    exact ev_iret rfl rfl dL_law_770
                · rw [if_neg c_245] at h
                  refine ev_if_ne (x := v_230) (tgt := 771) dL_law_756 (by decide) (fun _ => ?_) (fun q9 => absurd q9 c_245)
                  exact ev_sub [2, 3, 4, 5, 6] rfl (ev_L_law_p771 hO hP ih h)
              · rw [if_neg c_244] at h
                refine ev_icmp_eq (x := v_240) (y := v_230) (tgt := 754) dL_law_749 (by decide) (fun q9 => absurd q9 c_244) (fun _ => ?_)
                refine ev_iconst (v := 0) dL_law_752 (by decide) ?_
                cases h
                exact ev_iret rfl rfl dL_law_753
            · have z9 := x_call (M := mL_law) (M' := mX12_thrown) (pc := 744) (st := [va_rf (some a_235)]) (rest := []) (av := [va_rf (some a_235)]) (x_linkV (M := mL_law) (M' := mX12_thrown) (As := []) (index := 61) (C := RX12) (T := TX12) (xE_12 c_243) rfl wd_1012 wd_1013 wd_1011 xw_X12_thrown rfl (by decide) rfl rfl dL_law_744) (ev_X12_thrown hO hP h_242) xw_X12_thrown rfl wd_198 dL_law_744 (by decide) (by decide) (by simp [x_cat, x_catI, x_catJ])
              cases h
              exact x_callX z9 (evX_out rfl)
          · have z9 := x_call (M := mL_law) (M' := mX12_write) (pc := 738) (st := [.int (σ_231.AI a_1 (Int32.toNatClampNeg (v4 + 2))), .int (σ_231.AI a_1 (Int32.toNatClampNeg (v4 + 1))), va_rf (some a_235)]) (rest := []) (av := [va_rf (some a_235), .int (σ_231.AI a_1 (Int32.toNatClampNeg (v4 + 1))), .int (σ_231.AI a_1 (Int32.toNatClampNeg (v4 + 2)))]) (x_linkV (M := mL_law) (M' := mX12_write) (As := [.int (σ_231.AI a_1 (Int32.toNatClampNeg (v4 + 1))), .int (σ_231.AI a_1 (Int32.toNatClampNeg (v4 + 2)))]) (index := 88) (C := RX12) (T := TX12) (xE_12 c_239) rfl wd_1061 wd_1062 wd_1060 xw_X12_write rfl (by decide) rfl rfl dL_law_738) (ev_X12_write hO hP h_238) xw_X12_write rfl wd_198 dL_law_738 (by decide) (by decide) (by simp [x_cat, x_catI, x_catJ])
            cases h
            exact x_callX z9 (evX_out rfl)
        · have z9 := x_call (M := mL_law) (M' := mL_write) (pc := 720) (st := [va_rf v3, .int (σ.AI a_1 (Int32.toNatClampNeg (v4 + 2))), .int (σ.AI a_1 (Int32.toNatClampNeg (v4 + 1))), va_rf v1]) (rest := []) (av := [va_rf v1, .int (σ.AI a_1 (Int32.toNatClampNeg (v4 + 1))), .int (σ.AI a_1 (Int32.toNatClampNeg (v4 + 2))), va_rf v3]) (x_linkS (M := mL_law) (M' := mL_write) (As := [va_rf v1, .int (σ.AI a_1 (Int32.toNatClampNeg (v4 + 1))), .int (σ.AI a_1 (Int32.toNatClampNeg (v4 + 2))), va_rf v3]) (index := 86) wd_1057 wd_1058 wd_1005 xw_L_write rfl ⟨_, _, _, Or.inr ⟨_, wd_1056⟩⟩ (by decide) rfl rfl dL_law_720) (ev_L_write hO hP h_232) xw_L_write rfl wd_1005 dL_law_720 (by decide) (by decide) (by simp [x_cat, x_catI, x_catJ])
          cases h
          exact x_callX z9 (evX_out rfl)
      rw [if_neg c_227] at h
      by_cases c_252 : v_5 = 10
      · rw [if_pos c_252] at h
        refine ev_at (st' := .int 10 :: []) rfl (by rw [c_252]) ?_
        refine ev_tableIn (tgt := 774) (off := 735) dL_law_39 (by decide) (by decide) rfl (by decide) ?_
        refine ev_aload_n (j := 1) (x := v1) dL_law_774 rfl rfl ?_
        refine ev_aload_n (j := 0) (x := v0) dL_law_775 rfl rfl ?_
        refine ev_iload (j := 4) (x := v4) dL_law_776 rfl ?_
        refine ev_iconst (v := 1) dL_law_778 (by decide) ?_
        refine ev_iadd (x := v4) (y := 1) dL_law_779 ?_
        refine ev_at (st' := [.int (v4 + 1), va_rf (some a_1), va_rf v1]) rfl (by rw [ea_1]) ?_
        obtain ⟨c_253, h⟩ := x_chk_e h
        refine ev_sld c_253.1 c_253.2 dL_law_780 ?_
        refine ev_aload_n (j := 3) (x := v3) dL_law_781 rfl rfl ?_
        rcases x_bind_e h with ⟨v_254, σ_255, h_256, h⟩ | ⟨E_274, σ_255, h_256, h⟩
        · have z9 := x_call (M := mL_law) (M' := mL_count) (pc := 782) (st := [va_rf v3, .int (σ.AI a_1 (Int32.toNatClampNeg (v4 + 1))), va_rf v1]) (rest := []) (av := [va_rf v1, .int (σ.AI a_1 (Int32.toNatClampNeg (v4 + 1))), va_rf v3]) (x_linkS (M := mL_law) (M' := mL_count) (As := [va_rf v1, .int (σ.AI a_1 (Int32.toNatClampNeg (v4 + 1))), va_rf v3]) (index := 89) wd_1064 wd_1065 wd_1005 xw_L_count rfl ⟨_, _, _, Or.inr ⟨_, wd_1063⟩⟩ (by decide) rfl rfl dL_law_782) (ev_L_count hO hP h_256) xw_L_count rfl wd_1005 dL_law_782 (by decide) (by decide) (by simp [x_cat, x_catI, x_catJ])
          refine x_callR z9 ?_
          refine ev_at (st' := [.int v_254]) rfl rfl ?_
          refine ev_istore (i := 5) (lv' := [(5, .int v_254), (0, va_rf v0), (1, va_rf v1), (2, va_rf v2), (3, va_rf v3), (4, .int v4)]) dL_law_785 (by decide) rfl ?_
          refine ev_aload_n (j := 3) (x := v2) dL_law_787 rfl rfl ?_
          refine ev_aload_n (j := 1) (x := v0) dL_law_788 rfl rfl ?_
          refine ev_iload (j := 5) (x := v4) dL_law_789 rfl ?_
          refine ev_iconst (v := 1) dL_law_791 (by decide) ?_
          refine ev_iadd (x := v4) (y := 1) dL_law_792 ?_
          refine ev_at (st' := [.int (v4 + 1), va_rf (some a_1), va_rf v2]) rfl (by rw [ea_1]) ?_
          obtain ⟨c_257, h⟩ := x_chk_e h
          refine ev_sld c_257.1 c_257.2 dL_law_793 ?_
          obtain ⟨a_258, ea_258, h⟩ := x_some_e h
          refine ev_at (st' := [.int (σ_255.AI a_1 (Int32.toNatClampNeg (v4 + 1))), va_rf (some a_258)]) rfl (by rw [ea_258]) ?_
          obtain ⟨c_262, h⟩ := x_chk_e h
          rcases x_bind_e h with ⟨v_259, σ_260, h_261, h⟩ | ⟨E_273, σ_260, h_261, h⟩
          · have z9 := x_call (M := mL_law) (M' := mX12_count) (pc := 794) (st := [.int (σ_255.AI a_1 (Int32.toNatClampNeg (v4 + 1))), va_rf (some a_258)]) (rest := []) (av := [va_rf (some a_258), .int (σ_255.AI a_1 (Int32.toNatClampNeg (v4 + 1)))]) (x_linkV (M := mL_law) (M' := mX12_count) (As := [.int (σ_255.AI a_1 (Int32.toNatClampNeg (v4 + 1)))]) (index := 91) (C := RX12) (T := TX12) (xE_12 c_262) rfl wd_1068 wd_1069 wd_1067 xw_X12_count rfl (by decide) rfl rfl dL_law_794) (ev_X12_count hO hP h_261) xw_X12_count rfl wd_198 dL_law_794 (by decide) (by decide) (by simp [x_cat, x_catI, x_catJ])
            refine x_callR z9 ?_
            refine ev_at (st' := [.int v_259]) rfl rfl ?_
            refine ev_istore (i := 6) (lv' := [(6, .int v_259), (5, .int v_254), (0, va_rf v0), (1, va_rf v1), (2, va_rf v2), (3, va_rf v3), (4, .int v4)]) dL_law_797 (by decide) rfl ?_
            refine ev_aload_n (j := 4) (x := v2) dL_law_799 rfl rfl ?_
            refine ev_at (st' := [va_rf (some a_258)]) rfl (by rw [ea_258]) ?_
            obtain ⟨c_266, h⟩ := x_chk_e h
            rcases x_bind_e h with ⟨v_263, σ_264, h_265, h⟩ | ⟨E_272, σ_264, h_265, h⟩
            · have z9 := x_call (M := mL_law) (M' := mX12_thrown) (pc := 800) (st := [va_rf (some a_258)]) (rest := []) (av := [va_rf (some a_258)]) (x_linkV (M := mL_law) (M' := mX12_thrown) (As := []) (index := 61) (C := RX12) (T := TX12) (xE_12 c_266) rfl wd_1012 wd_1013 wd_1011 xw_X12_thrown rfl (by decide) rfl rfl dL_law_800) (ev_X12_thrown hO hP h_265) xw_X12_thrown rfl wd_198 dL_law_800 (by decide) (by decide) (by simp [x_cat, x_catI, x_catJ])
              refine x_callR z9 ?_
              refine ev_at (st' := [.int v_263]) rfl rfl ?_
              refine ev_iload (j := 1) (x := v_254) dL_law_803 rfl ?_
              by_cases c_267 : v_263 = v_254
              · rw [if_pos c_267] at h
                refine ev_icmp_eq (x := v_263) (y := v_254) (tgt := 810) dL_law_805 (by decide) (fun _ => ?_) (fun q9 => absurd c_267 q9)
                refine ev_iload (j := 1) (x := v_254) dL_law_810 rfl ?_
                by_cases c_268 : v_254 = 0
                · rw [if_pos c_268] at h
                  refine ev_if_ne (x := v_254) (tgt := 827) dL_law_812 (by decide) (fun q9 => absurd c_268 q9) (fun _ => ?_)
                  refine ev_aload_n (j := 5) (x := v3) dL_law_815 rfl rfl ?_
                  refine ev_iconst (v := 0) dL_law_816 (by decide) ?_
                  obtain ⟨a_269, ea_269, h⟩ := x_some_e h
                  refine ev_at (st' := [.int 0, va_rf (some a_269)]) rfl (by rw [ea_269]) ?_
                  obtain ⟨c_270, h⟩ := x_chk_e h
                  refine ev_lald_42 c_270.1 c_270.2 dL_law_817 ?_
                  refine ev_iload (j := 0) (x := v_259) dL_law_818 rfl ?_
                  refine ev_i2l (x := v_259) dL_law_820 ?_
                  refine ev_lcmp (x := (σ_264.AJ a_269 (Int32.toNatClampNeg 0))) (y := (Int32.toInt64 v_259)) dL_law_821 ?_
                  by_cases c_271 : (lg_cmp (σ_264.AJ a_269 (Int32.toNatClampNeg 0)) (Int32.toInt64 v_259)) = 0
                  · rw [if_pos c_271] at h
                    refine ev_if_eq (x := (lg_cmp (σ_264.AJ a_269 (Int32.toNatClampNeg 0)) (Int32.toInt64 v_259))) (tgt := 827) dL_law_822 (by decide) (fun _ => ?_) (fun q9 => absurd c_271 q9)
                    exact ev_sub [2, 3, 4, 5, 6] rfl (ev_L_law_p827 hO hP ih h)
                  · rw [if_neg c_271] at h
                    refine ev_if_eq (x := (lg_cmp (σ_264.AJ a_269 (Int32.toNatClampNeg 0)) (Int32.toInt64 v_259))) (tgt := 827) dL_law_822 (by decide) (fun q9 => absurd q9 c_271) (fun _ => ?_)
                    refine ev_iconst (v := 0) dL_law_825 (by decide) ?_
                    cases h
                    exact ev_iret rfl rfl dL_law_826
                · rw [if_neg c_268] at h
                  refine ev_if_ne (x := v_254) (tgt := 827) dL_law_812 (by decide) (fun _ => ?_) (fun q9 => absurd q9 c_268)
                  exact ev_sub [2, 3, 4, 5, 6] rfl (ev_L_law_p827 hO hP ih h)
              · rw [if_neg c_267] at h
                refine ev_icmp_eq (x := v_263) (y := v_254) (tgt := 810) dL_law_805 (by decide) (fun q9 => absurd q9 c_267) (fun _ => ?_)
                refine ev_iconst (v := 0) dL_law_808 (by decide) ?_
                cases h
                exact ev_iret rfl rfl dL_law_809
            · have z9 := x_call (M := mL_law) (M' := mX12_thrown) (pc := 800) (st := [va_rf (some a_258)]) (rest := []) (av := [va_rf (some a_258)]) (x_linkV (M := mL_law) (M' := mX12_thrown) (As := []) (index := 61) (C := RX12) (T := TX12) (xE_12 c_266) rfl wd_1012 wd_1013 wd_1011 xw_X12_thrown rfl (by decide) rfl rfl dL_law_800) (ev_X12_thrown hO hP h_265) xw_X12_thrown rfl wd_198 dL_law_800 (by decide) (by decide) (by simp [x_cat, x_catI, x_catJ])
              cases h
              exact x_callX z9 (evX_out rfl)
          · have z9 := x_call (M := mL_law) (M' := mX12_count) (pc := 794) (st := [.int (σ_255.AI a_1 (Int32.toNatClampNeg (v4 + 1))), va_rf (some a_258)]) (rest := []) (av := [va_rf (some a_258), .int (σ_255.AI a_1 (Int32.toNatClampNeg (v4 + 1)))]) (x_linkV (M := mL_law) (M' := mX12_count) (As := [.int (σ_255.AI a_1 (Int32.toNatClampNeg (v4 + 1)))]) (index := 91) (C := RX12) (T := TX12) (xE_12 c_262) rfl wd_1068 wd_1069 wd_1067 xw_X12_count rfl (by decide) rfl rfl dL_law_794) (ev_X12_count hO hP h_261) xw_X12_count rfl wd_198 dL_law_794 (by decide) (by decide) (by simp [x_cat, x_catI, x_catJ])
            cases h
            exact x_callX z9 (evX_out rfl)
        · have z9 := x_call (M := mL_law) (M' := mL_count) (pc := 782) (st := [va_rf v3, .int (σ.AI a_1 (Int32.toNatClampNeg (v4 + 1))), va_rf v1]) (rest := []) (av := [va_rf v1, .int (σ.AI a_1 (Int32.toNatClampNeg (v4 + 1))), va_rf v3]) (x_linkS (M := mL_law) (M' := mL_count) (As := [va_rf v1, .int (σ.AI a_1 (Int32.toNatClampNeg (v4 + 1))), va_rf v3]) (index := 89) wd_1064 wd_1065 wd_1005 xw_L_count rfl ⟨_, _, _, Or.inr ⟨_, wd_1063⟩⟩ (by decide) rfl rfl dL_law_782) (ev_L_count hO hP h_256) xw_L_count rfl wd_1005 dL_law_782 (by decide) (by decide) (by simp [x_cat, x_catI, x_catJ])
          cases h
          exact x_callX z9 (evX_out rfl)
      rw [if_neg c_252] at h
      refine ev_tableOut (tgt := 830) dL_law_39 (x_sw 10 (fun k9 h9 => by match k9, h9 with | 0, _ => exact c_6 | 1, _ => exact c_22 | 2, _ => exact c_38 | 3, _ => exact c_61 | 4, _ => exact c_86 | 5, _ => exact c_113 | 6, _ => exact c_140 | 7, _ => exact c_169 | 8, _ => exact c_198 | 9, _ => exact c_227 | 10, _ => exact c_252 | k9 + 11, h9 => omega)) (by decide) ?_
      exact ev_sub [0, 1, 2, 3, 4] rfl (ev_L_law_p830 hO hP ih h)
set_option maxHeartbeats 4000000 in
set_option maxRecDepth 100000 in
theorem ev_L_law {l : Launch} {G : xG} (hO : x_OK l G) {P : xP} (hP : x_PG P G) {v0 : Option Nat} {σ σ' : xS} {rr : Int32 ⊕ String} (h : dm_L_law P v0 σ = some (rr, σ')) : Ev l G mL_law 0 [(0, va_rf v0)] [] σ (xrI rr) σ' := by
  unfold dm_L_law at h
  obtain ⟨c_1, h⟩ := x_chk_e h
  obtain ⟨σ_2, eσ_2, h⟩ := x_let_e h
  refine ev_new (C := RX11) (T := TX11) (N := 5) (ci := 10) inX11 tyX11 tyX11_ok rfl (by decide) wd_976 wd_977 wd_5 (hP.2.1 ▸ c_1.1) (hP.2.2.1 ▸ c_1.2) (nE_11 _ _) nF_11 dL_law_0 (eσ_2 ▸ ?_)
  refine ev_dup dL_law_3 (x_cat _) ?_
  rcases x_bind_e h with ⟨v_3, σ_4, h_5, h⟩ | ⟨E_14, σ_4, h_5, h⟩
  · have z9 := x_call (M := mL_law) (M' := mX11_init) (pc := 4) (st := [va_rf (some σ.sz), va_rf (some σ.sz)]) (rest := [va_rf (some σ.sz)]) (av := [va_rf (some σ.sz)]) (x_linkI (M := mL_law) (M' := mX11_init) (As := []) (index := 42) (b := σ.sz) rfl wd_979 wd_980 wd_978 (by decide) rfl rfl dL_law_4) (ev_X11_init hO hP h_5) xw_X11_init rfl wd_5 dL_law_4 (by decide) (by decide) (by simp [x_cat, x_catI, x_catJ])
    refine x_callR z9 ?_
    refine ev_at (st' := [va_rf (some σ.sz)]) rfl rfl ?_
    refine ev_astore_n (i := 1) (lv' := [(1, va_rf (some σ.sz)), (0, va_rf v0)]) dL_law_7 rfl (by decide) (by simp [x_cat, x_catI, x_catJ]) ?_
    obtain ⟨c_6, h⟩ := x_chk_e h
    obtain ⟨σ_7, eσ_7, h⟩ := x_let_e h
    refine ev_new (C := RX12) (T := TX12) (N := 45) (ci := 11) inX12 tyX12 tyX12_ok rfl (by decide) wd_981 wd_982 wd_198 (hP.2.1 ▸ c_6.1) (hP.2.2.1 ▸ c_6.2) (nE_12 _ _) nF_12 dL_law_8 (eσ_7 ▸ ?_)
    refine ev_dup dL_law_11 (x_cat _) ?_
    rcases x_bind_e h with ⟨v_8, σ_9, h_10, h⟩ | ⟨E_13, σ_9, h_10, h⟩
    · have z9 := x_call (M := mL_law) (M' := mX12_init) (pc := 12) (st := [va_rf (some σ_4.sz), va_rf (some σ_4.sz)]) (rest := [va_rf (some σ_4.sz)]) (av := [va_rf (some σ_4.sz)]) (x_linkI (M := mL_law) (M' := mX12_init) (As := []) (index := 45) (b := σ_4.sz) rfl wd_984 wd_985 wd_983 (by decide) rfl rfl dL_law_12) (ev_X12_init hO hP h_10) xw_X12_init rfl wd_198 dL_law_12 (by decide) (by decide) (by simp [x_cat, x_catI, x_catJ])
      refine x_callR z9 ?_
      refine ev_at (st' := [va_rf (some σ_4.sz)]) rfl rfl ?_
      refine ev_astore_n (i := 2) (lv' := [(2, va_rf (some σ_4.sz)), (1, va_rf (some σ.sz)), (0, va_rf v0)]) dL_law_15 rfl (by decide) (by simp [x_cat, x_catI, x_catJ]) ?_
      refine ev_iconst (v := 1) dL_law_16 (by decide) ?_
      obtain ⟨c_11, h⟩ := x_chk_e h
      obtain ⟨σ_12, eσ_12, h⟩ := x_let_e h
      refine ev_newaJ (k := 42) (by decide) wd_93 c_11.1 c_11.2.1 (hP.2.1 ▸ c_11.2.2.1) (hP.2.2.1 ▸ c_11.2.2.2) dL_law_17 (eσ_12 ▸ ?_)
      refine ev_astore_n (i := 3) (lv' := [(3, va_rf (some σ_9.sz)), (2, va_rf (some σ_4.sz)), (1, va_rf (some σ.sz)), (0, va_rf v0)]) dL_law_19 rfl (by decide) (by simp [x_cat, x_catI, x_catJ]) ?_
      refine ev_iconst (v := 0) dL_law_20 (by decide) ?_
      refine ev_istore (i := 4) (lv' := [(4, .int 0), (3, va_rf (some σ_9.sz)), (2, va_rf (some σ_4.sz)), (1, va_rf (some σ.sz)), (0, va_rf v0)]) dL_law_21 (by decide) (by simp [x_cat, x_catI, x_catJ]) ?_
      exact ev_sub [4, 3, 2, 1, 0] rfl (ev_L_law_L23 hO hP P.N h)
    · have z9 := x_call (M := mL_law) (M' := mX12_init) (pc := 12) (st := [va_rf (some σ_4.sz), va_rf (some σ_4.sz)]) (rest := [va_rf (some σ_4.sz)]) (av := [va_rf (some σ_4.sz)]) (x_linkI (M := mL_law) (M' := mX12_init) (As := []) (index := 45) (b := σ_4.sz) rfl wd_984 wd_985 wd_983 (by decide) rfl rfl dL_law_12) (ev_X12_init hO hP h_10) xw_X12_init rfl wd_198 dL_law_12 (by decide) (by decide) (by simp [x_cat, x_catI, x_catJ])
      cases h
      exact x_callX z9 (evX_out rfl)
  · have z9 := x_call (M := mL_law) (M' := mX11_init) (pc := 4) (st := [va_rf (some σ.sz), va_rf (some σ.sz)]) (rest := [va_rf (some σ.sz)]) (av := [va_rf (some σ.sz)]) (x_linkI (M := mL_law) (M' := mX11_init) (As := []) (index := 42) (b := σ.sz) rfl wd_979 wd_980 wd_978 (by decide) rfl rfl dL_law_4) (ev_X11_init hO hP h_5) xw_X11_init rfl wd_5 dL_law_4 (by decide) (by decide) (by simp [x_cat, x_catI, x_catJ])
    cases h
    exact x_callX z9 (evX_out rfl)
