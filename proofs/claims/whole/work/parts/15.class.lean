/-! ===== class rows ===== -/
theorem inX0 : ∀ w ∈ u_ws RX0 TX0 2, w ∈ wG := by decide +kernel
theorem nE_1 (cy : Nat → ClassId) (σ : xS) : xE cy (σ.newO 1 2) σ.sz = some (.inr (0, [va_rf none, .int 0])) := by rw [xE_1 (σ := σ.newO 1 2) (by simp [K_newO, va_up])]; simp [I_newO, J_newO, R_newO]
theorem nF_1 : ∀ j, j < 2 → defaultValue (tyX0 j) = vp_V [va_rf none, .int 0] j := by decide +kernel
theorem inX1 : ∀ w ∈ u_ws RX1 TX1 7, w ∈ wG := by decide +kernel
theorem nE_2 (cy : Nat → ClassId) (σ : xS) : xE cy (σ.newO 2 7) σ.sz = some (.inr (1, [.long 0, .long 0, .int 0, .int 0, va_rf none, .int 0, va_rf none])) := by rw [xE_2 (σ := σ.newO 2 7) (by simp [K_newO, va_up])]; simp [I_newO, J_newO, R_newO]
theorem nF_2 : ∀ j, j < 7 → defaultValue (tyX1 j) = vp_V [.long 0, .long 0, .int 0, .int 0, va_rf none, .int 0, va_rf none] j := by decide +kernel
theorem inX2 : ∀ w ∈ u_ws RX2 TX2 3, w ∈ wG := by decide +kernel
theorem nE_3 (cy : Nat → ClassId) (σ : xS) : xE cy (σ.newO 3 3) σ.sz = some (.inr (2, [.long 0, .int 0, va_rf none])) := by rw [xE_3 (σ := σ.newO 3 3) (by simp [K_newO, va_up])]; simp [I_newO, J_newO, R_newO]
theorem nF_3 : ∀ j, j < 3 → defaultValue (tyX2 j) = vp_V [.long 0, .int 0, va_rf none] j := by decide +kernel
theorem inX3 : ∀ w ∈ u_ws RX3 TX3 3, w ∈ wG := by decide +kernel
theorem nE_4 (cy : Nat → ClassId) (σ : xS) : xE cy (σ.newO 4 3) σ.sz = some (.inr (3, [va_rf none, va_rf none, va_rf none])) := by rw [xE_4 (σ := σ.newO 4 3) (by simp [K_newO, va_up])]; simp [I_newO, J_newO, R_newO]
theorem nF_4 : ∀ j, j < 3 → defaultValue (tyX3 j) = vp_V [va_rf none, va_rf none, va_rf none] j := by decide +kernel
theorem inX4 : ∀ w ∈ u_ws RX4 TX4 4, w ∈ wG := by decide +kernel
theorem nE_5 (cy : Nat → ClassId) (σ : xS) : xE cy (σ.newO 5 4) σ.sz = some (.inr (4, [.long 0, .int 0, .int 0, .int 0])) := by rw [xE_5 (σ := σ.newO 5 4) (by simp [K_newO, va_up])]; simp [I_newO, J_newO, R_newO]
theorem nF_5 : ∀ j, j < 4 → defaultValue (tyX4 j) = vp_V [.long 0, .int 0, .int 0, .int 0] j := by decide +kernel
theorem inX5 : ∀ w ∈ u_ws RX5 TX5 13, w ∈ wG := by decide +kernel
theorem nE_6 (cy : Nat → ClassId) (σ : xS) : xE cy (σ.newO 6 13) σ.sz = some (.inr (5, [.int 0, .long 0, .int 0, va_rf none, .int 0, .int 0, .int 0, va_rf none, va_rf none, .int 0, va_rf none, .int 0, .int 0])) := by rw [xE_6 (σ := σ.newO 6 13) (by simp [K_newO, va_up])]; simp [I_newO, J_newO, R_newO]
theorem nF_6 : ∀ j, j < 13 → defaultValue (tyX5 j) = vp_V [.int 0, .long 0, .int 0, va_rf none, .int 0, .int 0, .int 0, va_rf none, va_rf none, .int 0, va_rf none, .int 0, .int 0] j := by decide +kernel
theorem inX6 : ∀ w ∈ u_ws RX6 TX6 6, w ∈ wG := by decide +kernel
theorem nE_7 (cy : Nat → ClassId) (σ : xS) : xE cy (σ.newO 7 6) σ.sz = some (.inr (6, [.int 0, .int 0, va_rf none, .int 0, .int 0, .int 0])) := by rw [xE_7 (σ := σ.newO 7 6) (by simp [K_newO, va_up])]; simp [I_newO, J_newO, R_newO]
theorem nF_7 : ∀ j, j < 6 → defaultValue (tyX6 j) = vp_V [.int 0, .int 0, va_rf none, .int 0, .int 0, .int 0] j := by decide +kernel
theorem inX7 : ∀ w ∈ u_ws RX7 TX7 3, w ∈ wG := by decide +kernel
theorem nE_8 (cy : Nat → ClassId) (σ : xS) : xE cy (σ.newO 8 3) σ.sz = some (.inr (7, [.int 0, .int 0, .int 0])) := by rw [xE_8 (σ := σ.newO 8 3) (by simp [K_newO, va_up])]; simp [I_newO, J_newO, R_newO]
theorem nF_8 : ∀ j, j < 3 → defaultValue (tyX7 j) = vp_V [.int 0, .int 0, .int 0] j := by decide +kernel
theorem inX9 : ∀ w ∈ u_ws RX9 TX9 3, w ∈ wG := by decide +kernel
theorem nE_9 (cy : Nat → ClassId) (σ : xS) : xE cy (σ.newO 9 3) σ.sz = some (.inr (8, [va_rf none, va_rf none, va_rf none])) := by rw [xE_9 (σ := σ.newO 9 3) (by simp [K_newO, va_up])]; simp [I_newO, J_newO, R_newO]
theorem nF_9 : ∀ j, j < 3 → defaultValue (tyX9 j) = vp_V [va_rf none, va_rf none, va_rf none] j := by decide +kernel
theorem inX10 : ∀ w ∈ u_ws RX10 TX10 7, w ∈ wG := by decide +kernel
theorem nE_10 (cy : Nat → ClassId) (σ : xS) : xE cy (σ.newO 10 7) σ.sz = some (.inr (9, [va_rf none, .int 0, va_rf none, va_rf none, va_rf none, .int 0, .int 0])) := by rw [xE_10 (σ := σ.newO 10 7) (by simp [K_newO, va_up])]; simp [I_newO, J_newO, R_newO]
theorem nF_10 : ∀ j, j < 7 → defaultValue (tyX10 j) = vp_V [va_rf none, .int 0, va_rf none, va_rf none, va_rf none, .int 0, .int 0] j := by decide +kernel
theorem inX11 : ∀ w ∈ u_ws RX11 TX11 5, w ∈ wG := by decide +kernel
theorem nE_11 (cy : Nat → ClassId) (σ : xS) : xE cy (σ.newO 11 5) σ.sz = some (.inr (10, [va_rf none, va_rf none, va_rf none, va_rf none, va_rf none])) := by rw [xE_11 (σ := σ.newO 11 5) (by simp [K_newO, va_up])]; simp [I_newO, J_newO, R_newO]
theorem nF_11 : ∀ j, j < 5 → defaultValue (tyX11 j) = vp_V [va_rf none, va_rf none, va_rf none, va_rf none, va_rf none] j := by decide +kernel
theorem inX12 : ∀ w ∈ u_ws RX12 TX12 45, w ∈ wG := by decide +kernel
theorem nE_12 (cy : Nat → ClassId) (σ : xS) : xE cy (σ.newO 12 45) σ.sz = some (.inr (11, [.int 0, va_rf none, .int 0, .int 0, va_rf none, va_rf none, va_rf none, va_rf none, va_rf none, va_rf none, va_rf none, va_rf none, va_rf none, va_rf none, va_rf none, va_rf none, va_rf none, va_rf none, va_rf none, va_rf none, va_rf none, va_rf none, va_rf none, va_rf none, va_rf none, va_rf none, va_rf none, va_rf none, va_rf none, va_rf none, va_rf none, va_rf none, va_rf none, va_rf none, .int 0, .int 0, .int 0, .int 0, .int 0, .int 0, .int 0, .int 0, .int 0, .int 0, .int 0])) := by rw [xE_12 (σ := σ.newO 12 45) (by simp [K_newO, va_up])]; simp [I_newO, J_newO, R_newO]
theorem nF_12 : ∀ j, j < 45 → defaultValue (tyX12 j) = vp_V [.int 0, va_rf none, .int 0, .int 0, va_rf none, va_rf none, va_rf none, va_rf none, va_rf none, va_rf none, va_rf none, va_rf none, va_rf none, va_rf none, va_rf none, va_rf none, va_rf none, va_rf none, va_rf none, va_rf none, va_rf none, va_rf none, va_rf none, va_rf none, va_rf none, va_rf none, va_rf none, va_rf none, va_rf none, va_rf none, va_rf none, va_rf none, va_rf none, va_rf none, .int 0, .int 0, .int 0, .int 0, .int 0, .int 0, .int 0, .int 0, .int 0, .int 0, .int 0] j := by decide +kernel
def x_ex : List String := ["java/lang/RuntimeException", "java/lang/Exception"]
theorem x_exf : ∀ n ∈ x_ex, Bundle.fit n = true := by decide +kernel
theorem th_X11_101_103 : ∀ w ∈ Cond.classLink RX11 101 "java/lang/IndexOutOfBoundsException" :: Cond.initialized "java/lang/IndexOutOfBoundsException" :: vx_at0 RX11 103 "java/lang/IndexOutOfBoundsException" x_ex, w ∈ lw_tbl ∧ x_cw w = true ∧ vx_ot w = true := by decide +kernel
theorem th_X10_91_93 : ∀ w ∈ Cond.classLink RX10 91 "java/lang/IllegalStateException" :: Cond.initialized "java/lang/IllegalStateException" :: vx_at0 RX10 93 "java/lang/IllegalStateException" x_ex, w ∈ lw_tbl ∧ x_cw w = true ∧ vx_ot w = true := by decide +kernel
