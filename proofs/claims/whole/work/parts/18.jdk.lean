section XMATH
variable {l : Launch} {G : xG} {M : xM} {pc index : Nat} {lv : List (Nat × Value)} {st : List Value} {σ σ' : xS} {r : xR}
theorem ev_mmax {x y : Int32} (hl : Cond.methodLink M.y.cls index Lib.Math.max.name ∈ wG) (hs : Cond.static Lib.Math.max.name ∈ wG) (hi : Cond.initialized "java/lang/Math" ∈ wG) (hw : Cond.code Lib.Math.max.name Lib.Math.max.code 2 (some .int) ∈ wG) (hd : decode M.code pc = .ok (.invokestatic index, 3)) (hf : 1 ≤ M.fr) (hlo : (st.map fun v => v.category).sum + 13 ≤ M.lo) (h : Ev l G M (pc + 3) lv (.int (if x < y then y else x) :: st) σ r σ') : Ev l G M pc lv (.int y :: .int x :: st) σ r σ' := by
  intro p e R s m args below meth c H locs ls C0 hl9 hH hS
  obtain ⟨hx, hb, hml, hrt, hown, hlk, -, htb, hW, ⟨hF1, hF2⟩, ⟨hRc, hRs⟩, hO, -⟩ := id C0
  have hts := x_hts (args := args) hO hW
  have hh := hH
  obtain ⟨k1, k2, -, -, -, -, -, k8, k9⟩ := hh
  refine x_grow fun g1 g2 => ?_
  exact va_mmax hx hb (hml.trans hl9.1.symm) hown (hts _ hl) (hts _ hs) (hts _ hi) (hts _ hw) (Nat.le_trans hf hF1) (Nat.le_trans hlo hF2) (by omega) (by omega) hd (h p e R s m args below meth c H locs ls C0 hl9 hH hS)
theorem ev_mmin {x y : Int32} (hl : Cond.methodLink M.y.cls index Lib.Math.min.name ∈ wG) (hs : Cond.static Lib.Math.min.name ∈ wG) (hi : Cond.initialized "java/lang/Math" ∈ wG) (hw : Cond.code Lib.Math.min.name Lib.Math.min.code 2 (some .int) ∈ wG) (hd : decode M.code pc = .ok (.invokestatic index, 3)) (hf : 1 ≤ M.fr) (hlo : (st.map fun v => v.category).sum + 13 ≤ M.lo) (h : Ev l G M (pc + 3) lv (.int (if y < x then y else x) :: st) σ r σ') : Ev l G M pc lv (.int y :: .int x :: st) σ r σ' := by
  intro p e R s m args below meth c H locs ls C0 hl9 hH hS
  obtain ⟨hx, hb, hml, hrt, hown, hlk, -, htb, hW, ⟨hF1, hF2⟩, ⟨hRc, hRs⟩, hO, -⟩ := id C0
  have hts := x_hts (args := args) hO hW
  have hh := hH
  obtain ⟨k1, k2, -, -, -, -, -, k8, k9⟩ := hh
  refine x_grow fun g1 g2 => ?_
  exact va_mmin hx hb (hml.trans hl9.1.symm) hown (hts _ hl) (hts _ hs) (hts _ hi) (hts _ hw) (Nat.le_trans hf hF1) (Nat.le_trans hlo hF2) (by omega) (by omega) hd (h p e R s m args below meth c H locs ls C0 hl9 hH hS)
end XMATH
theorem ev_J0_length_8abf5 {l : Launch} {G : xG} (hO : x_OK l G) {P : xP} (hP : x_PG P G) {a0 : Nat} {σ σ' : xS} {rr : Int32 ⊕ String} (h : dm_J0_length_8abf5 P a0 σ = some (rr, σ')) : EvM l G mJ0_length_8abf5 [va_rf (some a0)] σ (xrI rr) σ' := sorry
theorem ev_J0_charAt_5068e {l : Launch} {G : xG} (hO : x_OK l G) {P : xP} (hP : x_PG P G) {a0 : Nat} {v1 : Int32} {σ σ' : xS} {rr : Int32 ⊕ String} (h : dm_J0_charAt_5068e P a0 v1 σ = some (rr, σ')) : EvM l G mJ0_charAt_5068e [va_rf (some a0), .int v1] σ (xrI rr) σ' := sorry
