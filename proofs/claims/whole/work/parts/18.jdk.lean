section XMATH
variable {l : Launch} {G : xG} {M : xM} {pc index : Nat} {lv : List (Nat × Value)} {st : List Value} {σ σ' : xS} {r : xR}
theorem ev_mmax {x y : Int32} (hl : Cond.methodLink M.y.cls index Lib.Math.max.name ∈ wG) (hs : Cond.static Lib.Math.max.name ∈ wG) (hi : Cond.initialized "java/lang/Math" ∈ wG) (hw : Cond.code Lib.Math.max.name Lib.Math.max.code 2 (some .int) ∈ wG) (hd : decode M.code pc = .ok (.invokestatic index, 3)) (hf : 1 ≤ M.fr) (hlo : (st.map fun v => v.category).sum + 13 ≤ M.lo) (h : Ev l G M (pc + 3) lv (.int (if x < y then y else x) :: st) σ r σ') : Ev l G M pc lv (.int y :: .int x :: st) σ r σ' := by
  intro p e R s m args below meth c H locs ls C0 hl9 hH hS
  obtain ⟨hx, hb, hml, hrt, hown, hlk, -, htb, hW, ⟨hF1, hF2⟩, ⟨hRc, hRs⟩, hO, -⟩ := id C0
  have hts := x_hts (args := args) hO hW
  have hh := hH
  obtain ⟨k1, k2, -, -, -, -, -, k8, k9⟩ := hh
  refine x_grow fun g1 g2 => ?_
  exact va_mmax hx hb (hml.trans hl9.1.symm) hown (hts _ hl) (hts _ hs) (hts _ hi) (hts _ hw) (Nat.le_trans hf hF1) (Nat.le_trans hlo hF2) (by omega) (by omega) hd (h p e R s m args below meth c H locs ls C0 hl9 hH hS)
theorem ev_mmin {x y : Int32} (hl : Cond.methodLink M.y.cls index Lib.Math.min.name ∈ wG) (hs : Cond.static Lib.Math.min.name ∈ wG) (hi : Cond.initialized "java/lang/Math" ∈ wG) (hw : Cond.code Lib.Math.min.name Lib.Math.min.code 2 (some .int) ∈ wG) (hd : decode M.code pc = .ok (.invokestatic index, 3)) (hf : 1 ≤ M.fr) (hlo : (st.map fun v => v.category).sum + 13 ≤ M.lo) (h : Ev l G M (pc + 3) lv (.int (if y < x then y else x) :: st) σ r σ') : Ev l G M pc lv (.int y :: .int x :: st) σ r σ' := by
  intro p e R s m args below meth c H locs ls C0 hl9 hH hS
  obtain ⟨hx, hb, hml, hrt, hown, hlk, -, htb, hW, ⟨hF1, hF2⟩, ⟨hRc, hRs⟩, hO, -⟩ := id C0
  have hts := x_hts (args := args) hO hW
  have hh := hH
  obtain ⟨k1, k2, -, -, -, -, -, k8, k9⟩ := hh
  refine x_grow fun g1 g2 => ?_
  exact va_mmin hx hb (hml.trans hl9.1.symm) hown (hts _ hl) (hts _ hs) (hts _ hi) (hts _ hw) (Nat.le_trans hf hF1) (Nat.le_trans hlo hF2) (by omega) (by omega) hd (h p e R s m args below meth c H locs ls C0 hl9 hH hS)
end XMATH
theorem jw_value_t : (Jvm.Cond.fieldLink "java/lang/String" (9 : Nat) "java/lang/String" "value" "[B") ∈ lw_tbl := List.mem_append_right _ (List.mem_append_right _ (List.mem_append_right _ (List.mem_append_right _ (List.mem_append_right _ (List.mem_append_right _ (List.mem_append_right _ (List.mem_of_getElem? (i := 114) rfl)))))))
theorem jw_value : (Jvm.Cond.fieldLink "java/lang/String" (9 : Nat) "java/lang/String" "value" "[B") ∈ wG := wG_in jw_value_t rfl
theorem jw_coder_t : (Jvm.Cond.fieldLink "java/lang/String" (15 : Nat) "java/lang/String" "coder" "B") ∈ lw_tbl := List.mem_append_right _ (List.mem_append_right _ (List.mem_append_right _ (List.mem_append_right _ (List.mem_append_right _ (List.mem_append_right _ (List.mem_append_right _ (List.mem_of_getElem? (i := 115) rfl)))))))
theorem jw_coder : (Jvm.Cond.fieldLink "java/lang/String" (15 : Nat) "java/lang/String" "coder" "B") ∈ wG := wG_in jw_coder_t rfl
theorem jw_cs_t : (Jvm.Cond.fieldLink "java/lang/String" (38 : Nat) "java/lang/String" "COMPACT_STRINGS" "Z") ∈ lw_tbl := List.mem_append_right _ (List.mem_append_right _ (List.mem_append_left _ (List.mem_of_getElem? (i := 49) rfl)))
theorem jw_cs : (Jvm.Cond.fieldLink "java/lang/String" (38 : Nat) "java/lang/String" "COMPACT_STRINGS" "Z") ∈ wG := wG_in jw_cs_t rfl
theorem jw_fmt_t : (Jvm.Cond.fieldLink "java/lang/String" (1053 : Nat) "jdk/internal/util/Preconditions" "SIOOBE_FORMATTER" "Ljava/util/function/BiFunction;") ∈ lw_tbl := List.mem_append_right _ (List.mem_append_right _ (List.mem_append_left _ (List.mem_of_getElem? (i := 65) rfl)))
theorem jw_fmt : (Jvm.Cond.fieldLink "java/lang/String" (1053 : Nat) "jdk/internal/util/Preconditions" "SIOOBE_FORMATTER" "Ljava/util/function/BiFunction;") ∈ wG := wG_in jw_fmt_t rfl
theorem jl_cod_t : (Jvm.Cond.methodLink "java/lang/String" (335 : Nat) ({ cls := "java/lang/String", name := "coder", desc := "()B" } : Jvm.MethodName)) ∈ lw_tbl := List.mem_append_right _ (List.mem_append_right _ (List.mem_append_left _ (List.mem_of_getElem? (i := 45) rfl)))
theorem jl_cod : (Jvm.Cond.methodLink "java/lang/String" (335 : Nat) ({ cls := "java/lang/String", name := "coder", desc := "()B" } : Jvm.MethodName)) ∈ wG := wG_in jl_cod_t rfl
theorem jl_lat_t : (Jvm.Cond.methodLink "java/lang/String" (492 : Nat) ({ cls := "java/lang/String", name := "isLatin1", desc := "()Z" } : Jvm.MethodName)) ∈ lw_tbl := List.mem_append_right _ (List.mem_append_right _ (List.mem_append_left _ (List.mem_of_getElem? (i := 55) rfl)))
theorem jl_lat : (Jvm.Cond.methodLink "java/lang/String" (492 : Nat) ({ cls := "java/lang/String", name := "isLatin1", desc := "()Z" } : Jvm.MethodName)) ∈ wG := wG_in jl_lat_t rfl
theorem jl_1_t : (Jvm.Cond.methodLink "java/lang/String" (495 : Nat) ({ cls := "java/lang/StringLatin1", name := "charAt", desc := "([BI)C" } : Jvm.MethodName)) ∈ lw_tbl := List.mem_append_right _ (List.mem_append_right _ (List.mem_append_left _ (List.mem_of_getElem? (i := 59) rfl)))
theorem jl_1 : (Jvm.Cond.methodLink "java/lang/String" (495 : Nat) ({ cls := "java/lang/StringLatin1", name := "charAt", desc := "([BI)C" } : Jvm.MethodName)) ∈ wG := wG_in jl_1_t rfl
theorem jl_ck_t : (Jvm.Cond.methodLink "java/lang/StringLatin1" (9 : Nat) ({ cls := "java/lang/String", name := "checkIndex", desc := "(II)V" } : Jvm.MethodName)) ∈ lw_tbl := List.mem_append_right _ (List.mem_append_right _ (List.mem_append_left _ (List.mem_of_getElem? (i := 62) rfl)))
theorem jl_ck : (Jvm.Cond.methodLink "java/lang/StringLatin1" (9 : Nat) ({ cls := "java/lang/String", name := "checkIndex", desc := "(II)V" } : Jvm.MethodName)) ∈ wG := wG_in jl_ck_t rfl
theorem jl_3_t : (Jvm.Cond.methodLink "java/lang/String" (1059 : Nat) ({ cls := "jdk/internal/util/Preconditions", name := "checkIndex", desc := "(IILjava/util/function/BiFunction;)I" } : Jvm.MethodName)) ∈ lw_tbl := List.mem_append_right _ (List.mem_append_right _ (List.mem_append_left _ (List.mem_of_getElem? (i := 67) rfl)))
theorem jl_3 : (Jvm.Cond.methodLink "java/lang/String" (1059 : Nat) ({ cls := "jdk/internal/util/Preconditions", name := "checkIndex", desc := "(IILjava/util/function/BiFunction;)I" } : Jvm.MethodName)) ∈ wG := wG_in jl_3_t rfl
theorem ji_cod_t : (Jvm.Cond.instanceMethod ({ cls := "java/lang/String", name := "coder", desc := "()B" } : Jvm.MethodName)) ∈ lw_tbl := List.mem_append_right _ (List.mem_append_right _ (List.mem_append_left _ (List.mem_of_getElem? (i := 46) rfl)))
theorem ji_cod : (Jvm.Cond.instanceMethod ({ cls := "java/lang/String", name := "coder", desc := "()B" } : Jvm.MethodName)) ∈ wG := wG_in ji_cod_t rfl
theorem ji_lat_t : (Jvm.Cond.instanceMethod ({ cls := "java/lang/String", name := "isLatin1", desc := "()Z" } : Jvm.MethodName)) ∈ lw_tbl := List.mem_append_right _ (List.mem_append_right _ (List.mem_append_left _ (List.mem_of_getElem? (i := 56) rfl)))
theorem ji_lat : (Jvm.Cond.instanceMethod ({ cls := "java/lang/String", name := "isLatin1", desc := "()Z" } : Jvm.MethodName)) ∈ wG := wG_in ji_lat_t rfl
theorem js_cod_t : (Jvm.Cond.selects "java/lang/String" ({ cls := "java/lang/String", name := "coder", desc := "()B" } : Jvm.MethodName) ({ cls := "java/lang/String", name := "coder", desc := "()B" } : Jvm.MethodName)) ∈ lw_tbl := List.mem_append_right _ (List.mem_append_right _ (List.mem_append_left _ (List.mem_of_getElem? (i := 47) rfl)))
theorem js_cod : (Jvm.Cond.selects "java/lang/String" ({ cls := "java/lang/String", name := "coder", desc := "()B" } : Jvm.MethodName) ({ cls := "java/lang/String", name := "coder", desc := "()B" } : Jvm.MethodName)) ∈ wG := wG_in js_cod_t rfl
theorem js_lat_t : (Jvm.Cond.selects "java/lang/String" ({ cls := "java/lang/String", name := "isLatin1", desc := "()Z" } : Jvm.MethodName) ({ cls := "java/lang/String", name := "isLatin1", desc := "()Z" } : Jvm.MethodName)) ∈ lw_tbl := List.mem_append_right _ (List.mem_append_right _ (List.mem_append_left _ (List.mem_of_getElem? (i := 57) rfl)))
theorem js_lat : (Jvm.Cond.selects "java/lang/String" ({ cls := "java/lang/String", name := "isLatin1", desc := "()Z" } : Jvm.MethodName) ({ cls := "java/lang/String", name := "isLatin1", desc := "()Z" } : Jvm.MethodName)) ∈ wG := wG_in js_lat_t rfl
theorem jt_1_t : (Jvm.Cond.static ({ cls := "java/lang/StringLatin1", name := "charAt", desc := "([BI)C" } : Jvm.MethodName)) ∈ lw_tbl := List.mem_append_right _ (List.mem_append_right _ (List.mem_append_left _ (List.mem_of_getElem? (i := 60) rfl)))
theorem jt_1 : (Jvm.Cond.static ({ cls := "java/lang/StringLatin1", name := "charAt", desc := "([BI)C" } : Jvm.MethodName)) ∈ wG := wG_in jt_1_t rfl
theorem jt_ck_t : (Jvm.Cond.static ({ cls := "java/lang/String", name := "checkIndex", desc := "(II)V" } : Jvm.MethodName)) ∈ lw_tbl := List.mem_append_right _ (List.mem_append_right _ (List.mem_append_left _ (List.mem_of_getElem? (i := 63) rfl)))
theorem jt_ck : (Jvm.Cond.static ({ cls := "java/lang/String", name := "checkIndex", desc := "(II)V" } : Jvm.MethodName)) ∈ wG := wG_in jt_ck_t rfl
theorem jt_3_t : (Jvm.Cond.static ({ cls := "jdk/internal/util/Preconditions", name := "checkIndex", desc := "(IILjava/util/function/BiFunction;)I" } : Jvm.MethodName)) ∈ lw_tbl := List.mem_append_right _ (List.mem_append_right _ (List.mem_append_left _ (List.mem_of_getElem? (i := 68) rfl)))
theorem jt_3 : (Jvm.Cond.static ({ cls := "jdk/internal/util/Preconditions", name := "checkIndex", desc := "(IILjava/util/function/BiFunction;)I" } : Jvm.MethodName)) ∈ wG := wG_in jt_3_t rfl
theorem jn_S_t : (Jvm.Cond.initialized "java/lang/String") ∈ lw_tbl := List.mem_append_right _ (List.mem_append_left _ (List.mem_of_getElem? (i := 13) rfl))
theorem jn_S : (Jvm.Cond.initialized "java/lang/String") ∈ wG := wG_in jn_S_t rfl
theorem jn_1_t : (Jvm.Cond.initialized "java/lang/StringLatin1") ∈ lw_tbl := List.mem_append_right _ (List.mem_append_left _ (List.mem_of_getElem? (i := 14) rfl))
theorem jn_1 : (Jvm.Cond.initialized "java/lang/StringLatin1") ∈ wG := wG_in jn_1_t rfl
theorem jn_3_t : (Jvm.Cond.initialized "jdk/internal/util/Preconditions") ∈ lw_tbl := List.mem_append_right _ (List.mem_append_left _ (List.mem_of_getElem? (i := 15) rfl))
theorem jn_3 : (Jvm.Cond.initialized "jdk/internal/util/Preconditions") ∈ wG := wG_in jn_3_t rfl
theorem jc_cod_t : (Jvm.Cond.code ({ cls := "java/lang/String", name := "coder", desc := "()B" } : Jvm.MethodName) prog_20_method_152_code (1 : Nat) (Option.some Jvm.ClassFile.FieldType.byte)) ∈ lw_tbl := List.mem_append_right _ (List.mem_append_right _ (List.mem_append_left _ (List.mem_of_getElem? (i := 48) rfl)))
theorem jc_cod : (Jvm.Cond.code ({ cls := "java/lang/String", name := "coder", desc := "()B" } : Jvm.MethodName) prog_20_method_152_code (1 : Nat) (Option.some Jvm.ClassFile.FieldType.byte)) ∈ wG := wG_in jc_cod_t rfl
theorem jc_lat_t : (Jvm.Cond.code ({ cls := "java/lang/String", name := "isLatin1", desc := "()Z" } : Jvm.MethodName) prog_20_method_154_code (1 : Nat) (Option.some Jvm.ClassFile.FieldType.boolean)) ∈ lw_tbl := List.mem_append_right _ (List.mem_append_right _ (List.mem_append_left _ (List.mem_of_getElem? (i := 58) rfl)))
theorem jc_lat : (Jvm.Cond.code ({ cls := "java/lang/String", name := "isLatin1", desc := "()Z" } : Jvm.MethodName) prog_20_method_154_code (1 : Nat) (Option.some Jvm.ClassFile.FieldType.boolean)) ∈ wG := wG_in jc_lat_t rfl
theorem jc_1_t : (Jvm.Cond.code ({ cls := "java/lang/StringLatin1", name := "charAt", desc := "([BI)C" } : Jvm.MethodName) prog_21_method_2_code (2 : Nat) (Option.some Jvm.ClassFile.FieldType.char)) ∈ lw_tbl := List.mem_append_right _ (List.mem_append_right _ (List.mem_append_left _ (List.mem_of_getElem? (i := 61) rfl)))
theorem jc_1 : (Jvm.Cond.code ({ cls := "java/lang/StringLatin1", name := "charAt", desc := "([BI)C" } : Jvm.MethodName) prog_21_method_2_code (2 : Nat) (Option.some Jvm.ClassFile.FieldType.char)) ∈ wG := wG_in jc_1_t rfl
theorem jc_ck_t : (Jvm.Cond.code ({ cls := "java/lang/String", name := "checkIndex", desc := "(II)V" } : Jvm.MethodName) prog_20_method_155_code (2 : Nat) (Option.none : Option Jvm.ClassFile.FieldType)) ∈ lw_tbl := List.mem_append_right _ (List.mem_append_right _ (List.mem_append_left _ (List.mem_of_getElem? (i := 64) rfl)))
theorem jc_ck : (Jvm.Cond.code ({ cls := "java/lang/String", name := "checkIndex", desc := "(II)V" } : Jvm.MethodName) prog_20_method_155_code (2 : Nat) (Option.none : Option Jvm.ClassFile.FieldType)) ∈ wG := wG_in jc_ck_t rfl
theorem jc_3_t : (Jvm.Cond.code ({ cls := "jdk/internal/util/Preconditions", name := "checkIndex", desc := "(IILjava/util/function/BiFunction;)I" } : Jvm.MethodName) prog_24_method_11_code (3 : Nat) (Option.some Jvm.ClassFile.FieldType.int)) ∈ lw_tbl := List.mem_append_right _ (List.mem_append_right _ (List.mem_append_left _ (List.mem_of_getElem? (i := 69) rfl)))
theorem jc_3 : (Jvm.Cond.code ({ cls := "jdk/internal/util/Preconditions", name := "checkIndex", desc := "(IILjava/util/function/BiFunction;)I" } : Jvm.MethodName) prog_24_method_11_code (3 : Nat) (Option.some Jvm.ClassFile.FieldType.int)) ∈ wG := wG_in jc_3_t rfl
def mJ0_coder_7d493 : xM := (yJ0_coder_7d493, cJ0_coder_7d493, 1, (some .byte), [], 0, 0)
def mJ0_isLatin1_aae02 : xM := (yJ0_isLatin1_aae02, cJ0_isLatin1_aae02, 1, (some .boolean), [], 0, 0)
def mJ3_checkIndex_8e157 : xM := (yJ3_checkIndex_8e157, cJ3_checkIndex_8e157, 3, (some .int), [], 0, 0)
def mJ0_checkIndex_df160 : xM := (yJ0_checkIndex_df160, cJ0_checkIndex_df160, 2, none, [], 1, 22)
def mJ1_charAt_3b067 : xM := (yJ1_charAt_3b067, cJ1_charAt_3b067, 2, (some .char), [], 2, 43)
section XJ
variable {l : Launch} {G : xG} {M : xM} {pc index : Nat} {lv : List (Nat × Value)} {st : List Value} {σ σ' : xS} {r : xR} {P : xP} {a0 : Nat}
theorem x_below {s : State} (hbe : ∀ q : Nat, q < G.base → s.heap[q]? = G.s0.heap[q]?) : ∀ a : Nat, a < G.s0.heap.size → ¬ G.A a → s.heap[a]? = G.s0.heap[a]? := fun a _ hA => hbe a (Nat.not_le.mp hA)
theorem ev_getS {o n d ref : String} {v : Value} {q : Nat} (hF : va_OF o n d v q G.A G.s0 G.s0.heap) (hl : Cond.fieldLink M.y.cls index ref n d ∈ wG) (ho : o = ref) (hd : decode M.code pc = .ok (.getfield index, 3)) (h : Ev l G M (pc + 3) lv (v :: st) σ r σ') : Ev l G M pc lv (va_rf (some q) :: st) σ r σ' := by
  intro p e R s m args below meth c H locs ls C0 hl9 hH hS
  obtain ⟨hx, hb, hml, hrt, hown, hlk, -, htb, hW, -, -, hO, hbs, hbe⟩ := id C0
  exact vk_getf hx hb (va_OF.moved hW.alike (hF.kept (x_below hbe))) hS hown (x_hts hO hW _ hl) (fun x hx9 => by rw [← ho]; exact hx9) hd (h p e R s m args below meth c H locs ls C0 hl9 hH hS)
theorem ev_gets {o n d ref : String} {v : Value} (hF : va_Z o n d v G.A G.s0 G.s0.heap) (hl : Cond.fieldLink M.y.cls index ref n d ∈ wG) (ho : o = ref) (hd : decode M.code pc = .ok (.getstatic index, 3)) (h : Ev l G M (pc + 3) lv (v :: st) σ r σ') : Ev l G M pc lv st σ r σ' := by
  intro p e R s m args below meth c H locs ls C0 hl9 hH hS
  obtain ⟨hx, hb, hml, hrt, hown, hlk, -, htb, hW, -, -, hO, hbs, hbe⟩ := id C0
  exact va_gets hx hb (va_Z.moved hW.alike (hF.kept (x_below hbe))) hS hown (x_hts hO hW _ hl) (fun x hx9 => by rw [← ho]; exact hx9) hd (h p e R s m args below meth c H locs ls C0 hl9 hH hS)
theorem ev_tlen {q n : Nat} {f : Nat → Value} (hT : va_T .byte q n f G.A G.s0 G.s0.heap) (hd : decode M.code pc = .ok (.arraylength, 1)) (h : Ev l G M (pc + 1) lv (.int (Int32.ofNat n) :: st) σ r σ') : Ev l G M pc lv (va_rf (some q) :: st) σ r σ' := by
  intro p e R s m args below meth c H locs ls C0 hl9 hH hS
  obtain ⟨hx, hb, hml, hrt, hown, hlk, -, htb, hW, -, -, hO, hbs, hbe⟩ := id C0
  exact va_tlen hx hb (va_T.moved hW.alike (hT.kept (x_below hbe))) hS rfl hd (h p e R s m args below meth c H locs ls C0 hl9 hH hS)
theorem ev_tb {q n : Nat} {f : Nat → Value} {i : Int32} (hT : va_T .byte q n f G.A G.s0 G.s0.heap) (hi : vp_in i n) (hd : decode M.code pc = .ok (.baload, 1)) (h : Ev l G M (pc + 1) lv (f i.toNatClampNeg :: st) σ r σ') : Ev l G M pc lv (.int i :: va_rf (some q) :: st) σ r σ' := by
  intro p e R s m args below meth c H locs ls C0 hl9 hH hS
  obtain ⟨hx, hb, hml, hrt, hown, hlk, -, htb, hW, -, -, hO, hbs, hbe⟩ := id C0
  exact va_tb hx hb (va_T.moved hW.alike (hT.kept (x_below hbe))) hS hi rfl hd (h p e R s m args below meth c H locs ls C0 hl9 hH hS)
/-- the String's own words, where the heap holds the state -/
theorem ev_strG (hK : σ.K a0 = 13) (h : x_str G a0 (σ.L a0) (σ.AI a0) → Ev l G M pc lv st σ r σ') : Ev l G M pc lv st σ r σ' :=
  fun p e R s m args below meth c H locs ls C0 hl9 hH hS => h (hH.2.2.2.2.2.1 a0 hK) p e R s m args below meth c H locs ls C0 hl9 hH hS
theorem ev_coder (hO : x_OK l G) (hP : x_PG P G) (hK : σ.K a0 = 13) : EvM l G mJ0_coder_7d493 [va_rf (some a0)] σ (.inl (some (.int 0))) σ := by
  refine evM_of hO (by decide +kernel) (x_lenI (by simp [x_cat, mJ0_coder_7d493, xM.maxL])) ?_
  show Ev l G mJ0_coder_7d493 0 [(0, va_rf (some a0))] [] σ (.inl (some (.int 0))) σ
  refine ev_strG hK (fun hs => ?_)
  obtain ⟨v, b, h1, h2, h3, h4, h5, h6⟩ := hs
  refine ev_gets hP.1.1 jw_cs rfl dJ0_coder_7d493_0 ?_
  refine ev_if_eq (x := 1) (tgt := 13) dJ0_coder_7d493_3 (by decide) (fun q => absurd q (by decide)) (fun _ => ?_)
  refine ev_aload_n (j := 0) (x := some a0) dJ0_coder_7d493_6 rfl rfl ?_
  refine ev_getS h2 jw_coder rfl dJ0_coder_7d493_7 ?_
  refine ev_goto (tgt := 14) dJ0_coder_7d493_10 (by decide) ?_
  exact ev_iret rfl rfl dJ0_coder_7d493_14
theorem ev_latin (hO : x_OK l G) (hP : x_PG P G) (hK : σ.K a0 = 13) : EvM l G mJ0_isLatin1_aae02 [va_rf (some a0)] σ (.inl (some (.int 1))) σ := by
  refine evM_of hO (by decide +kernel) (x_lenI (by simp [x_cat, mJ0_isLatin1_aae02, xM.maxL])) ?_
  show Ev l G mJ0_isLatin1_aae02 0 [(0, va_rf (some a0))] [] σ (.inl (some (.int 1))) σ
  refine ev_strG hK (fun hs => ?_)
  obtain ⟨v, b, h1, h2, h3, h4, h5, h6⟩ := hs
  refine ev_gets hP.1.1 jw_cs rfl dJ0_isLatin1_aae02_0 ?_
  refine ev_if_eq (x := 1) (tgt := 17) dJ0_isLatin1_aae02_3 (by decide) (fun q => absurd q (by decide)) (fun _ => ?_)
  refine ev_aload_n (j := 0) (x := some a0) dJ0_isLatin1_aae02_6 rfl rfl ?_
  refine ev_getS h2 jw_coder rfl dJ0_isLatin1_aae02_7 ?_
  refine ev_if_ne (x := 0) (tgt := 17) dJ0_isLatin1_aae02_10 (by decide) (fun q => absurd rfl q) (fun _ => ?_)
  refine ev_iconst (v := 1) dJ0_isLatin1_aae02_13 (by decide) ?_
  refine ev_goto (tgt := 18) dJ0_isLatin1_aae02_14 (by decide) ?_
  exact ev_iret rfl rfl dJ0_isLatin1_aae02_18
theorem ev_J3ck (hO : x_OK l G) {i n : Int32} {q : Option Nat} (h0 : ¬ i < 0) (h1 : i < n) : EvM l G mJ3_checkIndex_8e157 [.int i, .int n, va_rf q] σ (.inl (some (.int i))) σ := by
  refine evM_of hO (by decide +kernel) (x_lenI (by simp [x_cat, x_catI, mJ3_checkIndex_8e157, xM.maxL])) ?_
  refine Eq.mp (congrArg (fun z => Ev l G mJ3_checkIndex_8e157 0 z [] σ (.inl (some (.int i))) σ) (show [(0, .int i), (1, .int n), (2, va_rf q)] = lv_args 0 [.int i, .int n, va_rf q] by simp [lv_args, x_cat, x_catI])) ?_
  refine ev_iload_n (j := 0) (x := i) dJ3_checkIndex_8e157_0 rfl rfl ?_
  refine ev_if_lt (x := i) (tgt := 9) dJ3_checkIndex_8e157_1 (by decide) (fun z => absurd z h0) (fun _ => ?_)
  refine ev_iload_n (j := 0) (x := i) dJ3_checkIndex_8e157_4 rfl rfl ?_
  refine ev_iload_n (j := 1) (x := n) dJ3_checkIndex_8e157_5 rfl rfl ?_
  refine ev_icmp_lt (x := i) (y := n) (tgt := 16) dJ3_checkIndex_8e157_6 (by decide) (fun _ => ?_) (fun z => absurd h1 z)
  refine ev_iload_n (j := 0) (x := i) dJ3_checkIndex_8e157_16 rfl rfl ?_
  exact ev_iret rfl rfl dJ3_checkIndex_8e157_17
theorem ev_J0ck (hO : x_OK l G) (hP : x_PG P G) {i n : Int32} (h0 : ¬ i < 0) (h1 : i < n) : EvM l G mJ0_checkIndex_df160 [.int i, .int n] σ (.inl none) σ := by
  refine evM_of hO (by decide +kernel) (x_lenI (by simp [x_cat, x_catI, mJ0_checkIndex_df160, xM.maxL])) ?_
  refine Eq.mp (congrArg (fun z => Ev l G mJ0_checkIndex_df160 0 z [] σ (.inl none) σ) (show [(0, .int i), (1, .int n)] = lv_args 0 [.int i, .int n] by simp [lv_args, x_cat, x_catI])) ?_
  refine ev_iload_n (j := 0) (x := i) dJ0_checkIndex_df160_0 rfl rfl ?_
  refine ev_iload_n (j := 1) (x := n) dJ0_checkIndex_df160_1 rfl rfl ?_
  have key : ∀ q : Option Nat, Ev l G mJ0_checkIndex_df160 5 [(0, .int i), (1, .int n)] [va_rf q, .int n, .int i] σ (.inl none) σ := by
    intro q
    refine x_callR (x_call (M := mJ0_checkIndex_df160) (M' := mJ3_checkIndex_8e157) (pc := 5) (st := [va_rf q, .int n, .int i]) (rest := []) (av := [.int i, .int n, va_rf q]) (x_linkS (M := mJ0_checkIndex_df160) (M' := mJ3_checkIndex_8e157) (As := [.int i, .int n, va_rf q]) (index := 1059) jl_3 jt_3 jn_3 jc_3_t rfl ⟨_, _, _, Or.inl jc_3⟩ (by decide) rfl rfl dJ0_checkIndex_df160_5) (ev_J3ck hO h0 h1) jc_3_t rfl jn_3 dJ0_checkIndex_df160_5 (by decide) (by decide) (by simp)) ?_
    refine ev_at (st' := [.int i]) rfl rfl ?_
    refine ev_pop dJ0_checkIndex_df160_8 rfl ?_
    exact ev_vret rfl dJ0_checkIndex_df160_9
  rcases hP.1.2 with h9 | ⟨t, h9⟩
  · exact ev_gets h9 jw_fmt rfl dJ0_checkIndex_df160_2 (key none)
  · exact ev_gets h9 jw_fmt rfl dJ0_checkIndex_df160_2 (key (some t))
theorem x_byteC (b : Int32) : ((b &&& 255).toUInt32 % 65536).toInt32 = b &&& 255 := sc_c2 b
theorem ev_J1 (hO : x_OK l G) (hP : x_PG P G) {q n : Nat} {b : Nat → Int32} {i : Int32} (hT : va_T .byte q n (fun j => .int (b j)) G.A G.s0 G.s0.heap) (hi : vp_in i n) (hn : n < 2 ^ 31) : EvM l G mJ1_charAt_3b067 [va_rf (some q), .int i] σ (.inl (some (.int (b i.toNatClampNeg &&& 255)))) σ := by
  obtain ⟨k, hk, rfl⟩ := vp_in_of hi hn
  refine evM_of hO (by decide +kernel) (x_lenI (by simp [x_cat, x_catI, mJ1_charAt_3b067, xM.maxL])) ?_
  refine Eq.mp (congrArg (fun z => Ev l G mJ1_charAt_3b067 0 z [] σ (.inl (some (.int (b (nI k).toNatClampNeg &&& 255)))) σ) (show [(0, va_rf (some q)), (1, .int (nI k))] = lv_args 0 [va_rf (some q), .int (nI k)] by simp [lv_args, x_cat, x_catI])) ?_
  refine ev_iload_n (j := 1) (x := nI k) dJ1_charAt_3b067_0 rfl rfl ?_
  refine ev_aload_n (j := 0) (x := some q) dJ1_charAt_3b067_1 rfl rfl ?_
  refine ev_tlen hT dJ1_charAt_3b067_2 ?_
  refine x_callR (x_call (M := mJ1_charAt_3b067) (M' := mJ0_checkIndex_df160) (pc := 3) (st := [.int (Int32.ofNat n), .int (nI k)]) (rest := []) (av := [.int (nI k), .int (Int32.ofNat n)]) (x_linkS (M := mJ1_charAt_3b067) (M' := mJ0_checkIndex_df160) (As := [.int (nI k), .int (Int32.ofNat n)]) (index := 9) jl_ck jt_ck jn_S jc_ck_t rfl ⟨_, _, _, Or.inl jc_ck⟩ (by decide) rfl rfl dJ1_charAt_3b067_3) (ev_J0ck hO hP (nI_pos (by omega)) (nI_lt hk hn)) jc_ck_t rfl jn_S dJ1_charAt_3b067_3 (by decide) (by decide) (by simp)) ?_
  refine ev_at (st' := []) rfl rfl ?_
  refine ev_aload_n (j := 0) (x := some q) dJ1_charAt_3b067_6 rfl rfl ?_
  refine ev_iload_n (j := 1) (x := nI k) dJ1_charAt_3b067_7 rfl rfl ?_
  refine ev_tb hT hi dJ1_charAt_3b067_8 ?_
  refine ev_sipush (v := 255) dJ1_charAt_3b067_9 (by decide) ?_
  refine ev_iand dJ1_charAt_3b067_12 ?_
  refine ev_i2c dJ1_charAt_3b067_13 ?_
  refine ev_at (st' := [.int (b (nI k).toNatClampNeg &&& 255)]) rfl (by rw [x_byteC]) ?_
  refine ev_iret rfl ?_ dJ1_charAt_3b067_14
  have h9 := pk_nc (b (nI k).toNatClampNeg &&& 255)
  rw [x_byteC] at h9
  exact h9
theorem ev_J0_length_8abf5 (hO : x_OK l G) (hP : x_PG P G) {rr : Int32 ⊕ String} (h : dm_J0_length_8abf5 P a0 σ = some (rr, σ')) : EvM l G mJ0_length_8abf5 [va_rf (some a0)] σ (xrI rr) σ' := by
  unfold dm_J0_length_8abf5 at h
  obtain ⟨hK, h⟩ := x_chk_e h
  cases h
  refine evM_of hO (by decide +kernel) (x_lenI (by simp [x_cat, mJ0_length_8abf5, xM.maxL])) ?_
  show Ev l G mJ0_length_8abf5 0 [(0, va_rf (some a0))] [] σ (.inl (some (.int (Int32.ofNat (σ.L a0))))) σ
  refine ev_strG hK (fun hs => ?_)
  obtain ⟨v, b, h1, h2, h3, h4, h5, h6⟩ := hs
  refine ev_aload_n (j := 0) (x := some a0) dJ0_length_8abf5_0 rfl rfl ?_
  refine ev_getS h3 jw_value rfl dJ0_length_8abf5_1 ?_
  refine ev_at (st' := [va_rf (some v)]) rfl rfl ?_
  refine ev_tlen h4 dJ0_length_8abf5_4 ?_
  refine ev_aload_n (j := 0) (x := some a0) dJ0_length_8abf5_5 rfl rfl ?_
  refine x_callR (x_call (M := mJ0_length_8abf5) (M' := mJ0_coder_7d493) (pc := 6) (st := [va_rf (some a0), .int (Int32.ofNat (σ.L a0))]) (rest := [.int (Int32.ofNat (σ.L a0))]) (av := [va_rf (some a0)]) (x_linkStr (M := mJ0_length_8abf5) (M' := mJ0_coder_7d493) (As := []) (index := 335) (b := a0) hK jl_cod ji_cod js_cod jc_cod_t rfl (by decide) rfl rfl dJ0_length_8abf5_6) (ev_coder hO hP hK) jc_cod_t rfl jn_S dJ0_length_8abf5_6 (by decide) (by decide) (by simp [x_catI])) ?_
  refine ev_at (st' := [.int 0, .int (Int32.ofNat (σ.L a0))]) rfl rfl ?_
  refine ev_ishr dJ0_length_8abf5_9 ?_
  refine ev_at (st' := [.int (Int32.ofNat (σ.L a0))]) rfl (by rw [sb_shr0]) ?_
  exact ev_iret rfl rfl dJ0_length_8abf5_10
theorem ev_J0_charAt_5068e (hO : x_OK l G) (hP : x_PG P G) {v1 : Int32} {rr : Int32 ⊕ String} (h : dm_J0_charAt_5068e P a0 v1 σ = some (rr, σ')) : EvM l G mJ0_charAt_5068e [va_rf (some a0), .int v1] σ (xrI rr) σ' := by
  unfold dm_J0_charAt_5068e at h
  obtain ⟨⟨hK, hi⟩, h⟩ := x_chk_e h
  cases h
  refine evM_of hO (by decide +kernel) (x_lenI (by simp [x_cat, x_catI, mJ0_charAt_5068e, xM.maxL])) ?_
  refine Eq.mp (congrArg (fun z => Ev l G mJ0_charAt_5068e 0 z [] σ (.inl (some (.int (σ.AI a0 v1.toNatClampNeg)))) σ) (show [(0, va_rf (some a0)), (1, .int v1)] = lv_args 0 [va_rf (some a0), .int v1] by simp [lv_args, x_cat, x_catI])) ?_
  refine ev_strG hK (fun hs => ?_)
  obtain ⟨v, b, h1, h2, h3, h4, h5, h6⟩ := hs
  have hi' : vp_in v1 (σ.L a0) := hi
  have hlt : v1.toNatClampNeg < σ.L a0 := Nat.not_le.mp fun q => hi (Or.inr q)
  refine ev_aload_n (j := 0) (x := some a0) dJ0_charAt_5068e_0 rfl rfl ?_
  refine x_callR (x_call (M := mJ0_charAt_5068e) (M' := mJ0_isLatin1_aae02) (pc := 1) (st := [va_rf (some a0)]) (rest := []) (av := [va_rf (some a0)]) (x_linkStr (M := mJ0_charAt_5068e) (M' := mJ0_isLatin1_aae02) (As := []) (index := 492) (b := a0) hK jl_lat ji_lat js_lat jc_lat_t rfl (by decide) rfl rfl dJ0_charAt_5068e_1) (ev_latin hO hP hK) jc_lat_t rfl jn_S dJ0_charAt_5068e_1 (by decide) (by decide) (by simp)) ?_
  refine ev_at (st' := [.int 1]) rfl rfl ?_
  refine ev_if_eq (x := 1) (tgt := 16) dJ0_charAt_5068e_4 (by decide) (fun q => absurd q (by decide)) (fun _ => ?_)
  refine ev_aload_n (j := 0) (x := some a0) dJ0_charAt_5068e_7 rfl rfl ?_
  refine ev_getS h3 jw_value rfl dJ0_charAt_5068e_8 ?_
  refine ev_iload_n (j := 1) (x := v1) dJ0_charAt_5068e_11 rfl rfl ?_
  refine x_callR (x_call (M := mJ0_charAt_5068e) (M' := mJ1_charAt_3b067) (pc := 12) (st := [.int v1, va_rf (some v)]) (rest := []) (av := [va_rf (some v), .int v1]) (x_linkS (M := mJ0_charAt_5068e) (M' := mJ1_charAt_3b067) (As := [va_rf (some v), .int v1]) (index := 495) jl_1 jt_1 jn_1 jc_1_t rfl ⟨_, _, _, Or.inl jc_1⟩ (by decide) rfl rfl dJ0_charAt_5068e_12) (ev_J1 hO hP h4 hi' h6) jc_1_t rfl jn_1 dJ0_charAt_5068e_12 (by decide) (by decide) (by simp)) ?_
  refine ev_at (st' := [.int (b v1.toNatClampNeg &&& 255)]) rfl rfl ?_
  rw [h5 _ hlt]
  refine ev_iret rfl ?_ dJ0_charAt_5068e_15
  have h9 := pk_nc (b v1.toNatClampNeg &&& 255)
  rw [x_byteC] at h9
  exact h9
end XJ
