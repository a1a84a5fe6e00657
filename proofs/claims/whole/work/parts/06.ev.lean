/-! ===== what a run fixes; where a method stands; the judgement Ev: from this frame and state the method comes to its end with this outcome and state ===== -/
abbrev xG : Type := va_G × (Nat → ClassId) × Nat × Nat × Nat × State × Array Value
def xG.D (G : xG) : va_G := G.1
def xG.cy (G : xG) : Nat → ClassId := G.2.1
def xG.base (G : xG) : Nat := G.2.2.1
def xG.lim (G : xG) : Nat := G.2.2.2.1
def xG.slim (G : xG) : Nat := G.2.2.2.2.1
def xG.s0 (G : xG) : State := G.2.2.2.2.2.1
def xG.a0 (G : xG) : Array Value := G.2.2.2.2.2.2
/-- what may be written: what came since the law began -/
def xG.A (G : xG) : Nat → Prop := fun q => G.base ≤ q
/-- a method: its name, code, locals, result, table, and how many frames and words it needs above it -/
abbrev xM : Type := MethodName × ByteArray × Nat × Option FieldType × List (Nat × Nat × Nat × Nat) × Nat × Nat
def xM.y (M : xM) : MethodName := M.1
def xM.code (M : xM) : ByteArray := M.2.1
def xM.maxL (M : xM) : Nat := M.2.2.1
def xM.ret (M : xM) : Option FieldType := M.2.2.2.1
def xM.hh (M : xM) : List (Nat × Nat × Nat × Nat) := M.2.2.2.2.1
def xM.fr (M : xM) : Nat := M.2.2.2.2.2.1
def xM.lo (M : xM) : Nat := M.2.2.2.2.2.2
/-- an outcome: a value, or the name of the class that was thrown -/
abbrev xR : Type := Option Value ⊕ String
def x_ty : Nat → FieldType := fun k => match k with
  | 20 => .char
  | 21 => .int
  | 22 => .long
  | 23 => .boolean
  | 24 => .object "NetlistForms$Instance"
  | 25 => .object "NetlistForms$Link"
  | 26 => .object "NetlistForms$Net"
  | 27 => .object "NetlistForms$NetModule"
  | _ => .object "NetlistForms$Part"
def x_tys (cy : Nat → ClassId) : List (ClassId × FieldType) := [(cy 20, x_ty 20), (cy 21, x_ty 21), (cy 22, x_ty 22), (cy 23, x_ty 23), (cy 24, x_ty 24), (cy 25, x_ty 25), (cy 26, x_ty 26), (cy 27, x_ty 27), (cy 28, x_ty 28)]
/-- a String constant of n characters f at a -/
def x_str (G : xG) (a n : Nat) (f : Nat → Int32) : Prop := ∃ (v : Nat) (b : Nat → Int32), va_O "java/lang/String" a G.A G.s0 G.s0.heap ∧ va_OF "java/lang/String" "coder" "B" (.int 0) a G.A G.s0 G.s0.heap ∧ va_OF "java/lang/String" "value" "[B" (.ref v) a G.A G.s0 G.s0.heap ∧ va_T .byte v n (fun j => .int (b j)) G.A G.s0 G.s0.heap ∧ (∀ j, j < n → f j = b j &&& 255) ∧ n < 2 ^ 31
/-- what holds at the law's start, and so always -/
def x_OK (l : Launch) (G : xG) : Prop := l.stackTraces = false ∧ (∀ w ∈ lw_tbl, w.before G.a0 G.s0 = true) ∧ va_K G.D vwCl (x_tys G.cy) G.s0 ∧ G.base = G.s0.heap.size ∧ vx_Zq Bundle.tN "UNASSIGNED_STACK" Bundle.steD G.A G.s0 G.s0.heap ∧ vx_Zq Bundle.tN "SUPPRESSED_SENTINEL" Bundle.listD G.A G.s0 G.s0.heap
/-- the heap holds the state -/
def xHS (G : xG) (σ : xS) (H : Heap) : Prop := H.size = σ.sz ∧ x_tot H = σ.su ∧ (∀ (a : Nat) (e : va_E), xE G.cy σ a = some e → va_at G.D vwCl (a, e) H) ∧ (∀ q : Nat, q < G.base → H[q]? = G.s0.heap[q]?) ∧ G.base ≤ H.size ∧ (∀ a : Nat, σ.K a = 13 → x_str G a (σ.L a) (σ.AI a)) ∧ (∀ a : Nat, σ.K a = 14 → va_X a (σ.L a) (σ.AI a) G.s0 G.s0.heap ∧ a < G.base) ∧ σ.sz ≤ G.lim ∧ σ.su ≤ G.slim
def xC (l : Launch) (G : xG) (M : xM) (p : Program) (R : Room) (s : State) (m : MethodId) (meth : Method) (c : Code) : Prop :=
  p.tables.exec = Jvm.exec ∧ c.code = M.code ∧ c.maxLocals = M.maxL ∧ meth.sig.returnType = M.ret ∧ s.vm.findClass M.y.cls = some m.cls ∧ meth.locks = false ∧ meth.name = M.y.name ∧ c.exceptionTable.toList = tableOf M.hh ∧ G.s0.WarmedH s.vm ∧ (M.fr ≤ R.frames ∧ M.lo ≤ R.locals) ∧ (s.heap.size + R.cells = G.lim ∧ x_tot s.heap + R.slots = G.slim) ∧ x_OK l G ∧ G.base ≤ s.heap.size ∧ ∀ q : Nat, q < G.base → s.heap[q]? = G.s0.heap[q]?
def xQc (G : xG) (r : xR) (σ' : xS) : Array Value → State → Outcome → State → Prop := fun _ st o t => ∃ v, r = .inl v ∧ o = .returned v ∧ xHS G σ' t.heap ∧ st.WarmedH t.vm
def xXC (G : xG) (r : xR) (σ' : xS) : String → State → State → Prop := fun E st t => r = .inr E ∧ xHS G σ' t.heap ∧ st.vm.Alike t.vm
def Ev (l : Launch) (G : xG) (M : xM) (pc : Nat) (lv : List (Nat × Value)) (st : List Value) (σ : xS) (r : xR) (σ' : xS) : Prop :=
  ∀ (p : Program) (e : Env) (R : Room) (s : State) (m : MethodId) (args : Array Value) (below : List Frame) (meth : Method) (c : Code) (H : Heap) (locs : List Loc) (ls : Array Slot),
    xC l G M p R s m meth c → lv_has ls M.maxL lv → xHS G σ H → va_S G.A s.heap H locs →
    W p l e R s m args below meth c H locs (H.size - s.heap.size) (x_tot H - x_tot s.heap) (vx_MQ below (xQc G r σ') (xXC G r σ') args s R.cells R.slots G.A) (F0 m pc ls st)
section XB
variable {l : Launch} {G : xG} {M : xM} {pc : Nat} {lv : List (Nat × Value)} {st : List Value} {σ σ' : xS} {r : xR}
theorem x_wG {args : Array Value} {s : State} {w : Cond} (hO : x_OK l G) (hW : G.s0.WarmedH s.vm) (hw : w ∈ lw_tbl) (hg : goodWord w = true) : w.before args s = true := word_at hW (good_of_word hg) (hO.2.1 w hw)
theorem ev_sub {lv' : List (Nat × Value)} (ks : List Nat) (hk : lv_pick lv ks = lv') (h : Ev l G M pc lv' st σ r σ') : Ev l G M pc lv st σ r σ' :=
  fun p e R s m args below meth c H locs ls C hl hH hS => h p e R s m args below meth c H locs ls C (lv_sub hl ks hk) hH hS
theorem ev_at {pc' : Nat} {st' : List Value} (hp : pc' = pc) (hs : st' = st) (h : Ev l G M pc' lv st' σ r σ') : Ev l G M pc lv st σ r σ' := hp ▸ hs ▸ h

theorem ev_iadd {x y : Int32} (hd : decode M.code pc = .ok (.iadd, 1)) (h : Ev l G M (pc + 1) lv (.int (x + y) :: st) σ r σ') : Ev l G M pc lv (.int y :: .int x :: st) σ r σ' := fun p e R s m args below meth c H locs ls C hl hH hS => lv_iadd C.1 C.2.1 hd (h p e R s m args below meth c H locs ls C hl hH hS)
theorem ev_isub {x y : Int32} (hd : decode M.code pc = .ok (.isub, 1)) (h : Ev l G M (pc + 1) lv (.int (x - y) :: st) σ r σ') : Ev l G M pc lv (.int y :: .int x :: st) σ r σ' := fun p e R s m args below meth c H locs ls C hl hH hS => lv_isub C.1 C.2.1 hd (h p e R s m args below meth c H locs ls C hl hH hS)
theorem ev_imul {x y : Int32} (hd : decode M.code pc = .ok (.imul, 1)) (h : Ev l G M (pc + 1) lv (.int (x * y) :: st) σ r σ') : Ev l G M pc lv (.int y :: .int x :: st) σ r σ' := fun p e R s m args below meth c H locs ls C hl hH hS => lv_imul C.1 C.2.1 hd (h p e R s m args below meth c H locs ls C hl hH hS)
theorem ev_iand {x y : Int32} (hd : decode M.code pc = .ok (.iand, 1)) (h : Ev l G M (pc + 1) lv (.int (x &&& y) :: st) σ r σ') : Ev l G M pc lv (.int y :: .int x :: st) σ r σ' := fun p e R s m args below meth c H locs ls C hl hH hS => lv_iand C.1 C.2.1 hd (h p e R s m args below meth c H locs ls C hl hH hS)
theorem ev_ior {x y : Int32} (hd : decode M.code pc = .ok (.ior, 1)) (h : Ev l G M (pc + 1) lv (.int (x ||| y) :: st) σ r σ') : Ev l G M pc lv (.int y :: .int x :: st) σ r σ' := fun p e R s m args below meth c H locs ls C hl hH hS => lv_ior C.1 C.2.1 hd (h p e R s m args below meth c H locs ls C hl hH hS)
theorem ev_ishl {x y : Int32} (hd : decode M.code pc = .ok (.ishl, 1)) (h : Ev l G M (pc + 1) lv (.int (x <<< (y &&& 31)) :: st) σ r σ') : Ev l G M pc lv (.int y :: .int x :: st) σ r σ' := fun p e R s m args below meth c H locs ls C hl hH hS => lv_ishl C.1 C.2.1 hd (h p e R s m args below meth c H locs ls C hl hH hS)
theorem ev_ishr {x y : Int32} (hd : decode M.code pc = .ok (.ishr, 1)) (h : Ev l G M (pc + 1) lv (.int (x >>> (y &&& 31)) :: st) σ r σ') : Ev l G M pc lv (.int y :: .int x :: st) σ r σ' := fun p e R s m args below meth c H locs ls C hl hH hS => lv_ishr C.1 C.2.1 hd (h p e R s m args below meth c H locs ls C hl hH hS)
theorem ev_idiv {x y : Int32} (hd : decode M.code pc = .ok (.idiv, 1)) (hne : ¬ y = 0) (h : Ev l G M (pc + 1) lv (.int (x / y) :: st) σ r σ') : Ev l G M pc lv (.int y :: .int x :: st) σ r σ' := fun p e R s m args below meth c H locs ls C hl hH hS => lv_idiv C.1 C.2.1 hd hne (h p e R s m args below meth c H locs ls C hl hH hS)
theorem ev_irem {x y : Int32} (hd : decode M.code pc = .ok (.irem, 1)) (hne : ¬ y = 0) (h : Ev l G M (pc + 1) lv (.int (x - x / y * y) :: st) σ r σ') : Ev l G M pc lv (.int y :: .int x :: st) σ r σ' := fun p e R s m args below meth c H locs ls C hl hH hS => lv_irem C.1 C.2.1 hd hne (h p e R s m args below meth c H locs ls C hl hH hS)
theorem ev_lor {x y : Int64} (hd : decode M.code pc = .ok (.lor, 1)) (h : Ev l G M (pc + 1) lv (.long (x ||| y) :: st) σ r σ') : Ev l G M pc lv (.long y :: .long x :: st) σ r σ' := fun p e R s m args below meth c H locs ls C hl hH hS => lv_lor C.1 C.2.1 hd (h p e R s m args below meth c H locs ls C hl hH hS)
theorem ev_iushr {x y : Int32} (hd : decode M.code pc = .ok (.iushr, 1)) (h : Ev l G M (pc + 1) lv (.int (x.toUInt32 >>> (y.toUInt32 &&& Int32.toUInt32 31)).toInt32 :: st) σ r σ') : Ev l G M pc lv (.int y :: .int x :: st) σ r σ' := fun p e R s m args below meth c H locs ls C hl hH hS => lv_iushr C.1 C.2.1 hd rfl (h p e R s m args below meth c H locs ls C hl hH hS)
theorem ev_i2l {x : Int32} (hd : decode M.code pc = .ok (.i2l, 1)) (h : Ev l G M (pc + 1) lv (.long x.toInt64 :: st) σ r σ') : Ev l G M pc lv (.int x :: st) σ r σ' := fun p e R s m args below meth c H locs ls C hl hH hS => lv_i2l C.1 C.2.1 hd rfl (h p e R s m args below meth c H locs ls C hl hH hS)
theorem ev_l2i {x : Int64} (hd : decode M.code pc = .ok (.l2i, 1)) (h : Ev l G M (pc + 1) lv (.int x.toInt32 :: st) σ r σ') : Ev l G M pc lv (.long x :: st) σ r σ' := fun p e R s m args below meth c H locs ls C hl hH hS => lv_l2i C.1 C.2.1 hd rfl (h p e R s m args below meth c H locs ls C hl hH hS)
theorem ev_i2c {x : Int32} (hd : decode M.code pc = .ok (.i2c, 1)) (h : Ev l G M (pc + 1) lv (.int (x.toUInt32 % 65536).toInt32 :: st) σ r σ') : Ev l G M pc lv (.int x :: st) σ r σ' := fun p e R s m args below meth c H locs ls C hl hH hS => lv_i2c C.1 C.2.1 hd rfl (h p e R s m args below meth c H locs ls C hl hH hS)
theorem ev_lushr {x : Int64} {y : Int32} (hd : decode M.code pc = .ok (.lushr, 1)) (h : Ev l G M (pc + 1) lv (.long (x.toUInt64 >>> (y.toInt64.toUInt64 &&& Int64.toUInt64 63)).toInt64 :: st) σ r σ') : Ev l G M pc lv (.int y :: .long x :: st) σ r σ' := fun p e R s m args below meth c H locs ls C hl hH hS => lv_lushr C.1 C.2.1 hd rfl (h p e R s m args below meth c H locs ls C hl hH hS)
theorem ev_lshl {x : Int64} {y : Int32} (hd : decode M.code pc = .ok (.lshl, 1)) (h : Ev l G M (pc + 1) lv (.long (x <<< (y.toInt64 &&& 63)) :: st) σ r σ') : Ev l G M pc lv (.int y :: .long x :: st) σ r σ' := fun p e R s m args below meth c H locs ls C hl hH hS => lv_lshl C.1 C.2.1 hd rfl (h p e R s m args below meth c H locs ls C hl hH hS)
theorem ev_lcmp {x y : Int64} (hd : decode M.code pc = .ok (.lcmp, 1)) (h : Ev l G M (pc + 1) lv (.int (lg_cmp x y) :: st) σ r σ') : Ev l G M pc lv (.long y :: .long x :: st) σ r σ' := fun p e R s m args below meth c H locs ls C hl hH hS => W.lcmp C.1 C.2.1 hd (h p e R s m args below meth c H locs ls C hl hH hS)
theorem ev_iconst {n : Int} {v : Int32} (hd : decode M.code pc = .ok (.iconst n, 1)) (hv : Int32.ofInt n = v) (h : Ev l G M (pc + 1) lv (.int v :: st) σ r σ') : Ev l G M pc lv st σ r σ' := fun p e R s m args below meth c H locs ls C hl hH hS => lv_iconst C.1 C.2.1 hd hv (h p e R s m args below meth c H locs ls C hl hH hS)
theorem ev_bipush {n : Int} {v : Int32} (hd : decode M.code pc = .ok (.bipush n, 2)) (hv : (Int8.ofInt n).toInt32 = v) (h : Ev l G M (pc + 2) lv (.int v :: st) σ r σ') : Ev l G M pc lv st σ r σ' := fun p e R s m args below meth c H locs ls C hl hH hS => lv_bipush C.1 C.2.1 hd hv (h p e R s m args below meth c H locs ls C hl hH hS)
theorem ev_sipush {n : Int} {v : Int32} (hd : decode M.code pc = .ok (.sipush n, 3)) (hv : (Int16.ofInt n).toInt32 = v) (h : Ev l G M (pc + 3) lv (.int v :: st) σ r σ') : Ev l G M pc lv st σ r σ' := fun p e R s m args below meth c H locs ls C hl hH hS => lv_sipush C.1 C.2.1 hd hv (h p e R s m args below meth c H locs ls C hl hH hS)
theorem ev_lconst {n : Fin 2} {v : Int64} (hd : decode M.code pc = .ok (.lconst n, 1)) (hv : Int64.ofNat (n : Nat) = v) (h : Ev l G M (pc + 1) lv (.long v :: st) σ r σ') : Ev l G M pc lv st σ r σ' := fun p e R s m args below meth c H locs ls C hl hH hS => lv_lconst C.1 C.2.1 hd hv (h p e R s m args below meth c H locs ls C hl hH hS)
theorem ev_null  (hd : decode M.code pc = .ok (.aconst_null, 1)) (h : Ev l G M (pc + 1) lv (va_rf none :: st) σ r σ') : Ev l G M pc lv st σ r σ' := fun p e R s m args below meth c H locs ls C hl hH hS => lv_null C.1 C.2.1 hd (h p e R s m args below meth c H locs ls C hl hH hS)
theorem ev_iload_n {k : Fin 4} {i j : Nat} {x : Int32} (hd : decode M.code pc = .ok (.iload_n k, 1)) (hi : (k : Nat) = i) (hj : lv[j]? = some (i, .int x)) (h : Ev l G M (pc + 1) lv (.int x :: st) σ r σ') : Ev l G M pc lv st σ r σ' := fun p e R s m args below meth c H locs ls C hl hH hS => lv_iload_n C.1 C.2.1 hd hi (lv_at hl j hj) (h p e R s m args below meth c H locs ls C hl hH hS)
theorem ev_iload {i j : Nat} {x : Int32} (hd : decode M.code pc = .ok (.iload i, 2)) (hj : lv[j]? = some (i, .int x)) (h : Ev l G M (pc + 2) lv (.int x :: st) σ r σ') : Ev l G M pc lv st σ r σ' := fun p e R s m args below meth c H locs ls C hl hH hS => lv_iload C.1 C.2.1 hd (lv_at hl j hj) (h p e R s m args below meth c H locs ls C hl hH hS)
theorem ev_lload_n {k : Fin 4} {i j : Nat} {x : Int64} (hd : decode M.code pc = .ok (.lload_n k, 1)) (hi : (k : Nat) = i) (hj : lv[j]? = some (i, .long x)) (h : Ev l G M (pc + 1) lv (.long x :: st) σ r σ') : Ev l G M pc lv st σ r σ' := fun p e R s m args below meth c H locs ls C hl hH hS => lv_lload_n C.1 C.2.1 hd hi (lv_at hl j hj) (h p e R s m args below meth c H locs ls C hl hH hS)
theorem ev_lload {i j : Nat} {x : Int64} (hd : decode M.code pc = .ok (.lload i, 2)) (hj : lv[j]? = some (i, .long x)) (h : Ev l G M (pc + 2) lv (.long x :: st) σ r σ') : Ev l G M pc lv st σ r σ' := fun p e R s m args below meth c H locs ls C hl hH hS => lv_lload C.1 C.2.1 hd (lv_at hl j hj) (h p e R s m args below meth c H locs ls C hl hH hS)
theorem ev_aload_n {k : Fin 4} {i j : Nat} {x : Option Nat} (hd : decode M.code pc = .ok (.aload_n k, 1)) (hi : (k : Nat) = i) (hj : lv[j]? = some (i, va_rf x)) (h : Ev l G M (pc + 1) lv (va_rf x :: st) σ r σ') : Ev l G M pc lv st σ r σ' := by
  intro p e R s m args below meth c H locs ls C hl hH hS
  have q := h p e R s m args below meth c H locs ls C hl hH hS
  cases x with
  | none => exact lv_aload_nN C.1 C.2.1 hd hi (lv_at hl j hj) q
  | some a => exact lv_aload_n C.1 C.2.1 hd hi (lv_at hl j hj) q
theorem ev_aload {i j : Nat} {x : Option Nat} (hd : decode M.code pc = .ok (.aload i, 2)) (hj : lv[j]? = some (i, va_rf x)) (h : Ev l G M (pc + 2) lv (va_rf x :: st) σ r σ') : Ev l G M pc lv st σ r σ' := by
  intro p e R s m args below meth c H locs ls C hl hH hS
  have q := h p e R s m args below meth c H locs ls C hl hH hS
  cases x with
  | none => exact lv_aloadN C.1 C.2.1 hd (lv_at hl j hj) q
  | some a => exact lv_aload C.1 C.2.1 hd (lv_at hl j hj) q
theorem ev_istore_n {k : Fin 4} {i : Nat} {x : Int32} {lv' : List (Nat × Value)} (hd : decode M.code pc = .ok (.istore_n k, 1)) (hi : (k : Nat) = i) (hn : i < M.maxL) (hv : (i, Value.int x) :: lv.filter (fun q => !(q.1 == i) && !(q.1 + 1 == i && q.2.category == 2)) = lv') (h : Ev l G M (pc + 1) lv' st σ r σ') : Ev l G M pc lv (.int x :: st) σ r σ' :=
  fun p e R s m args below meth c H locs ls C hl hH hS => lv_istore_n C.1 C.2.1 hd hi hl hn hv (fun ls hl => h p e R s m args below meth c H locs ls C hl hH hS)
theorem ev_istore {i : Nat} {x : Int32} {lv' : List (Nat × Value)} (hd : decode M.code pc = .ok (.istore i, 2)) (hn : i < M.maxL) (hv : (i, Value.int x) :: lv.filter (fun q => !(q.1 == i) && !(q.1 + 1 == i && q.2.category == 2)) = lv') (h : Ev l G M (pc + 2) lv' st σ r σ') : Ev l G M pc lv (.int x :: st) σ r σ' :=
  fun p e R s m args below meth c H locs ls C hl hH hS => lv_istore C.1 C.2.1 hd hl hn hv (fun ls hl => h p e R s m args below meth c H locs ls C hl hH hS)
theorem ev_lstore_n {k : Fin 4} {i : Nat} {x : Int64} {lv' : List (Nat × Value)} (hd : decode M.code pc = .ok (.lstore_n k, 1)) (hi : (k : Nat) = i) (hn : i + 1 < M.maxL) (hv : (i, Value.long x) :: lv.filter (fun q => !(q.1 == i) && (!(q.1 == i + 1) && !(q.1 + 1 == i && q.2.category == 2))) = lv') (h : Ev l G M (pc + 1) lv' st σ r σ') : Ev l G M pc lv (.long x :: st) σ r σ' :=
  fun p e R s m args below meth c H locs ls C hl hH hS => lv_lstore_n C.1 C.2.1 hd hi hl hn hv (fun ls hl => h p e R s m args below meth c H locs ls C hl hH hS)
theorem ev_lstore {i : Nat} {x : Int64} {lv' : List (Nat × Value)} (hd : decode M.code pc = .ok (.lstore i, 2)) (hn : i + 1 < M.maxL) (hv : (i, Value.long x) :: lv.filter (fun q => !(q.1 == i) && (!(q.1 == i + 1) && !(q.1 + 1 == i && q.2.category == 2))) = lv') (h : Ev l G M (pc + 2) lv' st σ r σ') : Ev l G M pc lv (.long x :: st) σ r σ' :=
  fun p e R s m args below meth c H locs ls C hl hH hS => lv_lstore C.1 C.2.1 hd hl hn hv (fun ls hl => h p e R s m args below meth c H locs ls C hl hH hS)
theorem ev_astore_n {k : Fin 4} {i : Nat} {x : Option Nat} {lv' : List (Nat × Value)} (hd : decode M.code pc = .ok (.astore_n k, 1)) (hi : (k : Nat) = i) (hn : i < M.maxL) (hv : (i, va_rf x) :: lv.filter (fun q => !(q.1 == i) && !(q.1 + 1 == i && q.2.category == 2)) = lv') (h : Ev l G M (pc + 1) lv' st σ r σ') : Ev l G M pc lv (va_rf x :: st) σ r σ' := by
  intro p e R s m args below meth c H locs ls C hl hH hS
  cases x with
  | none => exact lv_astore_nN C.1 C.2.1 hd hi hl hn hv (fun ls hl => h p e R s m args below meth c H locs ls C hl hH hS)
  | some a => exact lv_astore_n C.1 C.2.1 hd hi hl hn hv (fun ls hl => h p e R s m args below meth c H locs ls C hl hH hS)
theorem ev_astore {i : Nat} {x : Option Nat} {lv' : List (Nat × Value)} (hd : decode M.code pc = .ok (.astore i, 2)) (hn : i < M.maxL) (hv : (i, va_rf x) :: lv.filter (fun q => !(q.1 == i) && !(q.1 + 1 == i && q.2.category == 2)) = lv') (h : Ev l G M (pc + 2) lv' st σ r σ') : Ev l G M pc lv (va_rf x :: st) σ r σ' := by
  intro p e R s m args below meth c H locs ls C hl hH hS
  cases x with
  | none => exact lv_astoreN C.1 C.2.1 hd hl hn hv (fun ls hl => h p e R s m args below meth c H locs ls C hl hH hS)
  | some a => exact lv_astore C.1 C.2.1 hd hl hn hv (fun ls hl => h p e R s m args below meth c H locs ls C hl hH hS)
theorem ev_iinc {i j : Nat} {n : Int} {x v : Int32} {lv' : List (Nat × Value)} (hd : decode M.code pc = .ok (.iinc i n, 3)) (hj : lv[j]? = some (i, .int x)) (hx : x + Int32.ofInt n = v) (hn : i < M.maxL) (hv : (i, Value.int v) :: lv.filter (fun q => !(q.1 == i) && !(q.1 + 1 == i && q.2.category == 2)) = lv') (h : Ev l G M (pc + 3) lv' st σ r σ') : Ev l G M pc lv st σ r σ' :=
  fun p e R s m args below meth c H locs ls C hl hH hS => lv_iinc C.1 C.2.1 hd hl hj hx hn hv (fun ls hl => h p e R s m args below meth c H locs ls C hl hH hS)
theorem x_cat (x : Option Nat) : (va_rf x).category = 1 := by cases x <;> rfl
theorem ev_dup {v : Value} (hd : decode M.code pc = .ok (.dup, 1)) (hv : v.category = 1) (h : Ev l G M (pc + 1) lv (v :: v :: st) σ r σ') : Ev l G M pc lv (v :: st) σ r σ' := fun p e R s m args below meth c H locs ls C hl hH hS => lv_dup C.1 C.2.1 hd hv (h p e R s m args below meth c H locs ls C hl hH hS)
theorem ev_pop {v : Value} (hd : decode M.code pc = .ok (.pop, 1)) (hv : v.category = 1) (h : Ev l G M (pc + 1) lv st σ r σ') : Ev l G M pc lv (v :: st) σ r σ' := fun p e R s m args below meth c H locs ls C hl hH hS => lv_pop C.1 C.2.1 hd hv (h p e R s m args below meth c H locs ls C hl hH hS)
theorem ev_dup2_11 {v w : Value} (hd : decode M.code pc = .ok (.dup2, 1)) (hv : v.category = 1) (hw : w.category = 1) (h : Ev l G M (pc + 1) lv (v :: w :: v :: w :: st) σ r σ') : Ev l G M pc lv (v :: w :: st) σ r σ' := fun p e R s m args below meth c H locs ls C hl hH hS => lv_dup2_11 C.1 C.2.1 hd hv hw (h p e R s m args below meth c H locs ls C hl hH hS)
theorem ev_dup2_2 {v : Value} (hd : decode M.code pc = .ok (.dup2, 1)) (hv : v.category = 2) (h : Ev l G M (pc + 1) lv (v :: v :: st) σ r σ') : Ev l G M pc lv (v :: st) σ r σ' := fun p e R s m args below meth c H locs ls C hl hH hS => lv_dup2_2 C.1 C.2.1 hd hv (h p e R s m args below meth c H locs ls C hl hH hS)
--CONDS
theorem ev_if_eq {x : Int32} {off : Int} {tgt : Nat} (hd : decode M.code pc = .ok (.ifCond .eq off, 3)) (ht : (pc : Int) + off = (tgt : Int)) (kt : x = 0 → Ev l G M tgt lv st σ r σ') (kf : ¬ (x = 0) → Ev l G M (pc + 3) lv st σ r σ') : Ev l G M pc lv (.int x :: st) σ r σ' := fun p e R s m args below meth c H locs ls C hl hH hS => lv_if_eq C.1 C.2.1 hd ht (fun q => kt q p e R s m args below meth c H locs ls C hl hH hS) (fun q => kf q p e R s m args below meth c H locs ls C hl hH hS)
theorem ev_icmp_eq {x y : Int32} {off : Int} {tgt : Nat} (hd : decode M.code pc = .ok (.if_icmp .eq off, 3)) (ht : (pc : Int) + off = (tgt : Int)) (kt : x = y → Ev l G M tgt lv st σ r σ') (kf : ¬ (x = y) → Ev l G M (pc + 3) lv st σ r σ') : Ev l G M pc lv (.int y :: .int x :: st) σ r σ' := fun p e R s m args below meth c H locs ls C hl hH hS => lv_icmp_eq C.1 C.2.1 hd ht (fun q => kt q p e R s m args below meth c H locs ls C hl hH hS) (fun q => kf q p e R s m args below meth c H locs ls C hl hH hS)
theorem ev_if_ne {x : Int32} {off : Int} {tgt : Nat} (hd : decode M.code pc = .ok (.ifCond .ne off, 3)) (ht : (pc : Int) + off = (tgt : Int)) (kt : ¬ x = 0 → Ev l G M tgt lv st σ r σ') (kf : x = 0 → Ev l G M (pc + 3) lv st σ r σ') : Ev l G M pc lv (.int x :: st) σ r σ' := fun p e R s m args below meth c H locs ls C hl hH hS => lv_if_ne C.1 C.2.1 hd ht (fun q => kt q p e R s m args below meth c H locs ls C hl hH hS) (fun q => kf q p e R s m args below meth c H locs ls C hl hH hS)
theorem ev_icmp_ne {x y : Int32} {off : Int} {tgt : Nat} (hd : decode M.code pc = .ok (.if_icmp .ne off, 3)) (ht : (pc : Int) + off = (tgt : Int)) (kt : ¬ x = y → Ev l G M tgt lv st σ r σ') (kf : x = y → Ev l G M (pc + 3) lv st σ r σ') : Ev l G M pc lv (.int y :: .int x :: st) σ r σ' := fun p e R s m args below meth c H locs ls C hl hH hS => lv_icmp_ne C.1 C.2.1 hd ht (fun q => kt q p e R s m args below meth c H locs ls C hl hH hS) (fun q => kf q p e R s m args below meth c H locs ls C hl hH hS)
theorem ev_if_lt {x : Int32} {off : Int} {tgt : Nat} (hd : decode M.code pc = .ok (.ifCond .lt off, 3)) (ht : (pc : Int) + off = (tgt : Int)) (kt : x < 0 → Ev l G M tgt lv st σ r σ') (kf : ¬ (x < 0) → Ev l G M (pc + 3) lv st σ r σ') : Ev l G M pc lv (.int x :: st) σ r σ' := fun p e R s m args below meth c H locs ls C hl hH hS => lv_if_lt C.1 C.2.1 hd ht (fun q => kt q p e R s m args below meth c H locs ls C hl hH hS) (fun q => kf q p e R s m args below meth c H locs ls C hl hH hS)
theorem ev_icmp_lt {x y : Int32} {off : Int} {tgt : Nat} (hd : decode M.code pc = .ok (.if_icmp .lt off, 3)) (ht : (pc : Int) + off = (tgt : Int)) (kt : x < y → Ev l G M tgt lv st σ r σ') (kf : ¬ (x < y) → Ev l G M (pc + 3) lv st σ r σ') : Ev l G M pc lv (.int y :: .int x :: st) σ r σ' := fun p e R s m args below meth c H locs ls C hl hH hS => lv_icmp_lt C.1 C.2.1 hd ht (fun q => kt q p e R s m args below meth c H locs ls C hl hH hS) (fun q => kf q p e R s m args below meth c H locs ls C hl hH hS)
theorem ev_if_ge {x : Int32} {off : Int} {tgt : Nat} (hd : decode M.code pc = .ok (.ifCond .ge off, 3)) (ht : (pc : Int) + off = (tgt : Int)) (kt : 0 ≤ x → Ev l G M tgt lv st σ r σ') (kf : ¬ (0 ≤ x) → Ev l G M (pc + 3) lv st σ r σ') : Ev l G M pc lv (.int x :: st) σ r σ' := fun p e R s m args below meth c H locs ls C hl hH hS => lv_if_ge C.1 C.2.1 hd ht (fun q => kt q p e R s m args below meth c H locs ls C hl hH hS) (fun q => kf q p e R s m args below meth c H locs ls C hl hH hS)
theorem ev_icmp_ge {x y : Int32} {off : Int} {tgt : Nat} (hd : decode M.code pc = .ok (.if_icmp .ge off, 3)) (ht : (pc : Int) + off = (tgt : Int)) (kt : y ≤ x → Ev l G M tgt lv st σ r σ') (kf : ¬ (y ≤ x) → Ev l G M (pc + 3) lv st σ r σ') : Ev l G M pc lv (.int y :: .int x :: st) σ r σ' := fun p e R s m args below meth c H locs ls C hl hH hS => lv_icmp_ge C.1 C.2.1 hd ht (fun q => kt q p e R s m args below meth c H locs ls C hl hH hS) (fun q => kf q p e R s m args below meth c H locs ls C hl hH hS)
theorem ev_if_gt {x : Int32} {off : Int} {tgt : Nat} (hd : decode M.code pc = .ok (.ifCond .gt off, 3)) (ht : (pc : Int) + off = (tgt : Int)) (kt : 0 < x → Ev l G M tgt lv st σ r σ') (kf : ¬ (0 < x) → Ev l G M (pc + 3) lv st σ r σ') : Ev l G M pc lv (.int x :: st) σ r σ' := fun p e R s m args below meth c H locs ls C hl hH hS => lv_if_gt C.1 C.2.1 hd ht (fun q => kt q p e R s m args below meth c H locs ls C hl hH hS) (fun q => kf q p e R s m args below meth c H locs ls C hl hH hS)
theorem ev_icmp_gt {x y : Int32} {off : Int} {tgt : Nat} (hd : decode M.code pc = .ok (.if_icmp .gt off, 3)) (ht : (pc : Int) + off = (tgt : Int)) (kt : y < x → Ev l G M tgt lv st σ r σ') (kf : ¬ (y < x) → Ev l G M (pc + 3) lv st σ r σ') : Ev l G M pc lv (.int y :: .int x :: st) σ r σ' := fun p e R s m args below meth c H locs ls C hl hH hS => lv_icmp_gt C.1 C.2.1 hd ht (fun q => kt q p e R s m args below meth c H locs ls C hl hH hS) (fun q => kf q p e R s m args below meth c H locs ls C hl hH hS)
theorem ev_if_le {x : Int32} {off : Int} {tgt : Nat} (hd : decode M.code pc = .ok (.ifCond .le off, 3)) (ht : (pc : Int) + off = (tgt : Int)) (kt : x ≤ 0 → Ev l G M tgt lv st σ r σ') (kf : ¬ (x ≤ 0) → Ev l G M (pc + 3) lv st σ r σ') : Ev l G M pc lv (.int x :: st) σ r σ' := fun p e R s m args below meth c H locs ls C hl hH hS => lv_if_le C.1 C.2.1 hd ht (fun q => kt q p e R s m args below meth c H locs ls C hl hH hS) (fun q => kf q p e R s m args below meth c H locs ls C hl hH hS)
theorem ev_icmp_le {x y : Int32} {off : Int} {tgt : Nat} (hd : decode M.code pc = .ok (.if_icmp .le off, 3)) (ht : (pc : Int) + off = (tgt : Int)) (kt : x ≤ y → Ev l G M tgt lv st σ r σ') (kf : ¬ (x ≤ y) → Ev l G M (pc + 3) lv st σ r σ') : Ev l G M pc lv (.int y :: .int x :: st) σ r σ' := fun p e R s m args below meth c H locs ls C hl hH hS => lv_icmp_le C.1 C.2.1 hd ht (fun q => kt q p e R s m args below meth c H locs ls C hl hH hS) (fun q => kf q p e R s m args below meth c H locs ls C hl hH hS)
theorem ev_goto {off : Int} {tgt : Nat} (hd : decode M.code pc = .ok (.goto off, 3)) (ht : (pc : Int) + off = (tgt : Int)) (h : Ev l G M tgt lv st σ r σ') : Ev l G M pc lv st σ r σ' := fun p e R s m args below meth c H locs ls C hl hH hS => lv_goto C.1 C.2.1 hd ht (h p e R s m args below meth c H locs ls C hl hH hS)
theorem ev_ifnull {x : Option Nat} {off : Int} {tgt : Nat} (hd : decode M.code pc = .ok (.ifnull off, 3)) (ht : (pc : Int) + off = (tgt : Int)) (kt : x = none → Ev l G M tgt lv st σ r σ') (kf : ¬ x = none → Ev l G M (pc + 3) lv st σ r σ') : Ev l G M pc lv (va_rf x :: st) σ r σ' := by
  intro p e R s m args below meth c H locs ls C hl hH hS
  cases x with
  | none => exact lv_ifnullN C.1 C.2.1 hd ht (kt rfl p e R s m args below meth c H locs ls C hl hH hS)
  | some a => exact lv_ifnull C.1 C.2.1 hd (kf (fun h => by cases h) p e R s m args below meth c H locs ls C hl hH hS)
theorem ev_ifnonnull {x : Option Nat} {off : Int} {tgt : Nat} (hd : decode M.code pc = .ok (.ifnonnull off, 3)) (ht : (pc : Int) + off = (tgt : Int)) (kt : ¬ x = none → Ev l G M tgt lv st σ r σ') (kf : x = none → Ev l G M (pc + 3) lv st σ r σ') : Ev l G M pc lv (va_rf x :: st) σ r σ' := by
  intro p e R s m args below meth c H locs ls C hl hH hS
  cases x with
  | none => exact lv_ifnonnullN C.1 C.2.1 hd (kf rfl p e R s m args below meth c H locs ls C hl hH hS)
  | some a => exact lv_ifnonnull C.1 C.2.1 hd ht (kt (fun h => by cases h) p e R s m args below meth c H locs ls C hl hH hS)
theorem ev_tableIn {dflt lo hi : Int} {offs : Array Int} {len : Nat} {x : Int32} {off : Int} {tgt : Nat} (hd : decode M.code pc = .ok (.tableswitch dflt lo hi offs, len)) (h1 : ¬ x.toInt < lo) (h2 : ¬ hi < x.toInt) (ho : offs[(x.toInt - lo).toNat]? = some off) (ht : (pc : Int) + off = (tgt : Int)) (h : Ev l G M tgt lv st σ r σ') : Ev l G M pc lv (.int x :: st) σ r σ' := fun p e R s m args below meth c H locs ls C hl hH hS => lv_tableIn C.1 C.2.1 hd h1 h2 ho ht (h p e R s m args below meth c H locs ls C hl hH hS)
theorem ev_tableOut {dflt lo hi : Int} {offs : Array Int} {len : Nat} {x : Int32} {tgt : Nat} (hd : decode M.code pc = .ok (.tableswitch dflt lo hi offs, len)) (ho : x.toInt < lo ∨ hi < x.toInt) (ht : (pc : Int) + dflt = (tgt : Int)) (h : Ev l G M tgt lv st σ r σ') : Ev l G M pc lv (.int x :: st) σ r σ' := fun p e R s m args below meth c H locs ls C hl hH hS => lv_tableOut C.1 C.2.1 hd ho ht (h p e R s m args below meth c H locs ls C hl hH hS)
end XB
