/-! ===== rows on the heap: fields, arrays, new cells, ends ===== -/
section XH
variable {l : Launch} {G : xG} {M : xM} {pc : Nat} {lv : List (Nat × Value)} {st : List Value} {σ σ' σ2 : xS} {r : xR} {a : Nat}
/-- the words that stay, as a list -/
def wG : List Cond := lw_tbl.filter goodWord
theorem wG_in {w : Cond} (h : w ∈ lw_tbl) (hg : goodWord w = true) : w ∈ wG := List.mem_filter.mpr ⟨h, hg⟩
theorem x_hts {args : Array Value} {s : State} (hO : x_OK l G) (hW : G.s0.WarmedH s.vm) : ∀ w ∈ wG, w.before args s = true := fun w hw => x_wG hO hW (List.mem_filter.mp hw).1 (List.mem_filter.mp hw).2
theorem x_K {s : State} (hO : x_OK l G) (hW : G.s0.WarmedH s.vm) : va_K G.D vwCl (x_tys G.cy) s := va_K.moved hW.alike hO.2.2.1
theorem x_lt {H : Heap} (hH : xHS G σ H) {e : va_E} (h : xE G.cy σ a = some e) : a < H.size := (hH.2.2.1 a e h).lt
/-- a heap that differs at one cell, of the same size -/
theorem xHS.put {H H' : Heap} {e : va_E} {cell cell' : Cell} (hH : xHS G σ H) (ha : G.base ≤ a) (hc : H[a]? = some cell) (hc' : H'[a]? = some cell') (hs : cell'.slots.size = cell.slots.size) (hz : H'.size = H.size) (ho : ∀ q, q ≠ a → H'[q]? = H[q]?) (he : xE G.cy σ2 a = some e) (hat : va_at G.D vwCl (a, e) H')
    (hb : ∀ b, b ≠ a → xE G.cy σ2 b = xE G.cy σ b) (h1 : σ2.sz = σ.sz) (h2 : σ2.su = σ.su) (h3 : ∀ b : Nat, σ2.K b = σ.K b) (h4 : ∀ b : Nat, 12 < σ.K b ∧ σ.K b < 20 → σ2.L b = σ.L b ∧ σ2.AI b = σ.AI b) : xHS G σ2 H' := by
  obtain ⟨k1, k2, k3, k4, k5, k6, k7, k8⟩ := hH
  refine ⟨by rw [hz, h1]; exact k1, ?_, ?_, ?_, by rw [hz]; exact k5, ?_, ?_, by rw [h1, h2]; exact k8⟩
  · rw [h2, ← k2]
    refine x_tot_eq hz (fun b c hbc => ?_)
    by_cases hba : b = a
    · subst hba
      cases Option.some.inj (hc.symm.trans hbc)
      exact ⟨cell', hc', hs⟩
    · exact ⟨c, by rw [ho b hba]; exact hbc, rfl⟩
  · intro b e2 hbe
    by_cases hba : b = a
    · subst hba
      cases Option.some.inj (he.symm.trans hbe)
      exact hat
    · rw [hb b hba] at hbe
      exact (k3 b e2 hbe).kept (ho b hba)
  · intro q hq
    rw [ho q (by omega)]
    exact k4 q hq
  · intro b hb13
    rw [h3] at hb13
    obtain ⟨e1, e2⟩ := h4 b (by omega)
    rw [e1, e2]
    exact k6 b hb13
  · intro b hb14
    rw [h3] at hb14
    obtain ⟨e1, e2⟩ := h4 b (by omega)
    rw [e1, e2]
    exact k7 b hb14
theorem ev_get {ref C : String} {T : u_T} {N ci index k : Nat} {fs : List Value} {v : Value} (hin : ∀ w ∈ u_ws C T N, w ∈ wG) (hE : xE G.cy σ a = some (.inr (ci, fs))) (hc : vwCl[ci]? = some (C, T, N)) (hk : k < N)
    (hlink : Cond.fieldLink M.y.cls index ref (T k).2.1 (T k).2.2.1 ∈ wG) (hsame : (T k).1 = ref ∨ Cond.sameField ref (T k).1 (T k).2.1 (T k).2.2.1 ∈ wG) (hv : fs[k]? = some v) (hd : decode M.code pc = .ok (.getfield index, 3)) (h : Ev l G M (pc + 3) lv (v :: st) σ r σ') : Ev l G M pc lv (va_rf (some a) :: st) σ r σ' := by
  intro p e R s m args below meth c H locs ls C0 hl hH hS
  obtain ⟨hx, hb, -, -, hown, -, -, -, hW, -, -, hO, -⟩ := id C0
  have hts := x_hts (args := args) hO hW
  refine va_get (D := G.D) (cl := vwCl) (tys := x_tys G.cy) (ws := [(a, .inr (ci, fs))]) hx hb hts hin hown (x_K hO hW) (fun k q hq => ?_) 0 rfl hc k hk (hts _ hlink) (fun x hx9 => ?_) hv hd (h p e R s m args below meth c H locs ls C0 hl hH hS)
  · match k, hq with
    | 0, hq => cases hq; exact hH.2.2.1 _ _ hE
    | k + 1, hq => simp at hq
  · rcases hsame with h9 | h9
    · rw [← h9]; exact hx9
    · exact u_same (hts _ h9) x hx9
theorem ev_getN {ref C host : String} {T : u_T} {N ci index k : Nat} {fs : List Value} {v : Value} (hin : ∀ w ∈ u_ws C T N, w ∈ wG) (hE : xE G.cy σ a = some (.inr (ci, fs))) (hc : vwCl[ci]? = some (C, T, N)) (hk : k < N)
    (hlink : Cond.fieldLinkNest M.y.cls index ref (T k).2.1 (T k).2.2.1 host ∈ lw_tbl) (hsame : (T k).1 = ref) (hv : fs[k]? = some v) (hd : decode M.code pc = .ok (.getfield index, 3)) (h : Ev l G M (pc + 3) lv (v :: st) σ r σ') : Ev l G M pc lv (va_rf (some a) :: st) σ r σ' := by
  intro p e R s m args below meth c H locs ls C0 hl hH hS
  obtain ⟨hx, hb, -, -, hown, -, -, -, hW, -, -, hO, -⟩ := id C0
  have hts := x_hts (args := args) hO hW
  refine va_getN (D := G.D) (cl := vwCl) (tys := x_tys G.cy) (ws := [(a, .inr (ci, fs))]) hx hb hts hin hown (x_K hO hW) (fun k q hq => ?_) 0 rfl hc k hk (va_Nw.warmF hW (va_Nw.of rfl (hO.2.1 _ hlink))) (fun x hx9 => by rw [← hsame]; exact hx9) hv hd (h p e R s m args below meth c H locs ls C0 hl hH hS)
  match k, hq with
  | 0, hq => cases hq; exact hH.2.2.1 _ _ hE
  | k + 1, hq => simp at hq
/-- a state that differs from another at a's cell alone -/
def xPut (cy : Nat → ClassId) (σ σ2 : xS) (a : Nat) : Prop := (∀ b, b ≠ a → xE cy σ2 b = xE cy σ b) ∧ σ2.sz = σ.sz ∧ σ2.su = σ.su ∧ (∀ b : Nat, σ2.K b = σ.K b) ∧ ∀ b : Nat, 12 < σ.K b ∧ σ.K b < 20 → σ2.L b = σ.L b ∧ σ2.AI b = σ.AI b
theorem xPut_I {cy : Nat → ClassId} {k : Nat} {v : Int32} : xPut cy σ (σ.setI k a v) a := ⟨fun b h => xP_I h, rfl, rfl, fun _ => rfl, fun _ _ => ⟨rfl, rfl⟩⟩
theorem xPut_J {cy : Nat → ClassId} {k : Nat} {v : Int64} : xPut cy σ (σ.setJ k a v) a := ⟨fun b h => xP_J h, rfl, rfl, fun _ => rfl, fun _ _ => ⟨rfl, rfl⟩⟩
theorem xPut_R {cy : Nat → ClassId} {k : Nat} {v : Option Nat} : xPut cy σ (σ.setR k a v) a := ⟨fun b h => xP_R h, rfl, rfl, fun _ => rfl, fun _ _ => ⟨rfl, rfl⟩⟩
theorem xPut_AI {cy : Nat → ClassId} {i : Nat} {v : Int32} (h13 : ¬ (12 < σ.K a ∧ σ.K a < 20)) : xPut cy σ (σ.setAI a i v) a := ⟨fun b h => xP_AI h, rfl, rfl, fun _ => rfl, fun b hb => ⟨rfl, by rw [AI_setAI]; exact x_up2_row (fun h => h13 (h ▸ hb))⟩⟩
theorem xPut_AJ {cy : Nat → ClassId} {i : Nat} {v : Int64} : xPut cy σ (σ.setAJ a i v) a := ⟨fun b h => xP_AJ h, rfl, rfl, fun _ => rfl, fun _ _ => ⟨rfl, rfl⟩⟩
theorem xPut_AR {cy : Nat → ClassId} {i : Nat} {v : Option Nat} : xPut cy σ (σ.setAR a i v) a := ⟨fun b h => xP_AR h, rfl, rfl, fun _ => rfl, fun _ _ => ⟨rfl, rfl⟩⟩
theorem x_setSlot (c : Cell) (i : Nat) (v : Value) : (c.setSlot i v).slots.size = c.slots.size := by simp [Cell.setSlot]
theorem ev_put {ref C : String} {T : u_T} {N ci index k : Nat} {fs : List Value} {v : Value} {ty : FieldType} (hin : ∀ w ∈ u_ws C T N, w ∈ wG) (ty0 : Nat → FieldType) (hty : ∀ k, k < N → parseFieldDescriptor (T k).2.2.1 = some (ty0 k)) (hnm : ∀ a, a < N → ∀ b, b < N → a ≠ b → (T a).2.1 ≠ (T b).2.1) (hE : xE G.cy σ a = some (.inr (ci, fs))) (hc : vwCl[ci]? = some (C, T, N)) (hk : k < N)
    (hlink : Cond.fieldLink M.y.cls index ref (T k).2.1 (T k).2.2.1 ∈ wG) (hsame : (T k).1 = ref ∨ Cond.sameField ref (T k).1 (T k).2.1 (T k).2.2.1 ∈ wG) (hfin : (T k).2.2.2 = false) (hpd : parseFieldDescriptor (T k).2.2.1 = some ty) (hn : narrow ty v = v) (hfit : fits ty v = true) (hlen : k < fs.length) (ha : G.base ≤ a)
    (hE2 : xE G.cy σ2 a = some (.inr (ci, fs.set k v))) (hP : xPut G.cy σ σ2 a) (hd : decode M.code pc = .ok (.putfield index, 3)) (h : Ev l G M (pc + 3) lv st σ2 r σ') : Ev l G M pc lv (v :: va_rf (some a) :: st) σ r σ' := by
  intro p e R s m args below meth c H locs ls C0 hl hH hS
  obtain ⟨hx, hb, -, -, hown, -, hname, -, hW, -, -, hO, -⟩ := id C0
  have hts := x_hts (args := args) hO hW
  have hK := x_K hO hW
  have hap := va_apart (own := M.y.cls) hts hin ty0 hty hnm hK hc
  obtain ⟨r0, h1, cell, q1, q2, q3, q4⟩ := hH.2.2.1 _ _ hE
  have hr : r0 = (C, T, N) := Option.some.inj (h1.symm.trans hc)
  subst hr
  obtain ⟨hS9, hfc, kC, hkC, hkind⟩ := hK.1 ci _ hc
  obtain ⟨cf, kf, fi, f, hi, hsl⟩ := hS9 k hk
  have hi' : s.fieldFound? ref (T k).2.1 (T k).2.2.1 = some (cf, kf, fi, f) := by
    rcases hsame with h9 | h9
    · rw [← h9]; exact hi
    · exact u_same (hts _ h9) _ hi
  have hlay := hts _ (hin _ (u_in_lay hk))
  unfold u_lay at hlay
  rw [if_neg (by rw [hfin]; decide)] at hlay
  have hst := (u_facts hfc hkC (u_lays hts hin hk) hi).1
  have h6 := u_store hfc hkC hkind hlay hi hpd hn hfit
  refine W.putK hx hb (f := f) ⟨hown, hts _ hlink, ⟨_, _, _, hi'⟩, hst⟩ (by rw [q2]; exact h6) q1 q3 (by rw [hsl]; exact k2_hasslot (q4 k hk)) rfl rfl hd fun H' e1 e2 e3 => ?_
  rw [hsl] at e1 ⊢
  refine x_canon ?_
  exact h p e R s m args below meth c H' _ ls C0 hl (hH.put ha q1 e1 (x_setSlot _ _ _) e2 e3 hE2 ⟨_, hc, t_OB.to (V := updV (vp_V fs) k v) ⟨_, e1, q2, q3, t_set q4 hap hk v⟩ (fun j _ => vp_updV_set hlen v j)⟩ hP.1 hP.2.1 hP.2.2.1 hP.2.2.2.1 hP.2.2.2.2) (hS.put e2 e3 ha)
theorem ev_putF {ref C : String} {T : u_T} {N ci index k : Nat} {fs : List Value} {v : Value} {ty : FieldType} (hin : ∀ w ∈ u_ws C T N, w ∈ wG) (ty0 : Nat → FieldType) (hty : ∀ k, k < N → parseFieldDescriptor (T k).2.2.1 = some (ty0 k)) (hnm : ∀ a, a < N → ∀ b, b < N → a ≠ b → (T a).2.1 ≠ (T b).2.1) (hE : xE G.cy σ a = some (.inr (ci, fs))) (hc : vwCl[ci]? = some (C, T, N)) (hk : k < N)
    (hlink : Cond.fieldLink M.y.cls index ref (T k).2.1 (T k).2.2.1 ∈ wG) (hsame : (T k).1 = ref ∨ Cond.sameField ref (T k).1 (T k).2.1 (T k).2.2.1 ∈ wG) (hfin : (T k).2.2.2 = true) (hini : M.y.name = "<init>") (hdecl : (T k).1 = M.y.cls) (hpd : parseFieldDescriptor (T k).2.2.1 = some ty) (hn : narrow ty v = v) (hfit : fits ty v = true) (hlen : k < fs.length) (ha : G.base ≤ a)
    (hE2 : xE G.cy σ2 a = some (.inr (ci, fs.set k v))) (hP : xPut G.cy σ σ2 a) (hd : decode M.code pc = .ok (.putfield index, 3)) (h : Ev l G M (pc + 3) lv st σ2 r σ') : Ev l G M pc lv (v :: va_rf (some a) :: st) σ r σ' := by
  intro p e R s m args below meth c H locs ls C0 hl hH hS
  obtain ⟨hx, hb, -, -, hown, -, hname, -, hW, -, -, hO, -⟩ := id C0
  have hts := x_hts (args := args) hO hW
  have hK := x_K hO hW
  have hap := va_apart (own := M.y.cls) hts hin ty0 hty hnm hK hc
  obtain ⟨r0, h1, cell, q1, q2, q3, q4⟩ := hH.2.2.1 _ _ hE
  have hr : r0 = (C, T, N) := Option.some.inj (h1.symm.trans hc)
  subst hr
  obtain ⟨hS9, hfc, kC, hkC, hkind⟩ := hK.1 ci _ hc
  obtain ⟨cf, kf, fi, f, hi, hsl⟩ := hS9 k hk
  have hi' : s.fieldFound? ref (T k).2.1 (T k).2.2.1 = some (cf, kf, fi, f) := by
    rcases hsame with h9 | h9
    · rw [← h9]; exact hi
    · exact u_same (hts _ h9) _ hi
  have hlay := hts _ (hin _ (u_in_lay hk))
  unfold u_lay at hlay
  rw [if_pos hfin] at hlay
  have hst := (u_facts hfc hkC (u_lays hts hin hk) hi).1
  have hcf : m.cls = cf := by
    obtain ⟨_, _, c', _, _, _, -, -, hf', -, -, -, hown2, -⟩ := Cond.laysFinal_spec hlay
    have e1 : c' = cf := by have := hi.symm.trans hf'; simp at this; exact this.1.symm
    rw [hdecl] at hown2
    rw [← e1]; exact Option.some.inj (hown.symm.trans hown2)
  have h6 := u_fits hfc hkC hkind (Or.inr hlay) hi hpd hn hfit
  refine W.putFinK hx hb hown (hts _ hlink) hi' hst hcf (hname.trans hini) (by rw [q2]; exact h6) q1 q3 (by rw [hsl]; exact k2_hasslot (q4 k hk)) rfl rfl hd fun H' e1 e2 e3 => ?_
  rw [hsl] at e1 ⊢
  refine x_canon ?_
  exact h p e R s m args below meth c H' _ ls C0 hl (hH.put ha q1 e1 (x_setSlot _ _ _) e2 e3 hE2 ⟨_, hc, t_OB.to (V := updV (vp_V fs) k v) ⟨_, e1, q2, q3, t_set q4 hap hk v⟩ (fun j _ => vp_updV_set hlen v j)⟩ hP.1 hP.2.1 hP.2.2.1 hP.2.2.2.1 hP.2.2.2.2) (hS.put e2 e3 ha)
theorem ev_iald {i : Int32} (hK : σ.K a = 21) (hi : vp_in i (σ.L a)) (hd : decode M.code pc = .ok (.iaload, 1)) (h : Ev l G M (pc + 1) lv (.int (σ.AI a i.toNatClampNeg) :: st) σ r σ') : Ev l G M pc lv (.int i :: va_rf (some a) :: st) σ r σ' := by
  intro p e R s m args below meth c H locs ls C0 hl hH hS
  obtain ⟨hx, hb, -, -, hown, -, -, -, hW, -, -, hO, -⟩ := id C0
  have hlt : i.toNatClampNeg < σ.L a := Nat.not_le.mp fun q => hi (Or.inr q)
  have hc := hH.2.2.1 _ _ (xE_21 hK)
  exact W.iald (v := .int (σ.AI a i.toNatClampNeg)) hx hb hc (((x_K hO hW).2 1 _ rfl).1 (σ.L a) (fun j => .int (σ.AI a j))) (fun q => by cases q) (by show ¬ (i < 0 ∨ (arrV _ _ _).slots.size ≤ _); rw [arrV_size]; exact hi) (by show (arrV _ _ _).slots[_]? = _; rw [arrV_read _ _ hlt]) rfl rfl hd (h p e R s m args below meth c H locs ls C0 hl hH hS)
theorem ev_iald_31 {i : Int32} (hK : σ.K a = 31) (hi : vp_in i (σ.L a)) (hd : decode M.code pc = .ok (.iaload, 1)) (h : Ev l G M (pc + 1) lv (.int (σ.AI a i.toNatClampNeg) :: st) σ r σ') : Ev l G M pc lv (.int i :: va_rf (some a) :: st) σ r σ' := by
  intro p e R s m args below meth c H locs ls C0 hl hH hS
  obtain ⟨hx, hb, -, -, hown, -, -, -, hW, -, -, hO, -⟩ := id C0
  have hlt : i.toNatClampNeg < σ.L a := Nat.not_le.mp fun q => hi (Or.inr q)
  have hc := hH.2.2.1 _ _ (xE_31 hK)
  exact W.iald (v := .int (σ.AI a i.toNatClampNeg)) hx hb hc (((x_K hO hW).2 1 _ rfl).1 (σ.L a) (fun j => .int (σ.AI a j))) (fun q => by cases q) (by show ¬ (i < 0 ∨ (arrV _ _ _).slots.size ≤ _); rw [arrV_size]; exact hi) (by show (arrV _ _ _).slots[_]? = _; rw [arrV_read _ _ hlt]) rfl rfl hd (h p e R s m args below meth c H locs ls C0 hl hH hS)
theorem ev_zald_33 {i : Int32} (hK : σ.K a = 33) (hi : vp_in i (σ.L a)) (hd : decode M.code pc = .ok (.baload, 1)) (h : Ev l G M (pc + 1) lv (.int (σ.AI a i.toNatClampNeg) :: st) σ r σ') : Ev l G M pc lv (.int i :: va_rf (some a) :: st) σ r σ' := by
  intro p e R s m args below meth c H locs ls C0 hl hH hS
  obtain ⟨hx, hb, -, -, hown, -, -, -, hW, -, -, hO, -⟩ := id C0
  have hlt : i.toNatClampNeg < σ.L a := Nat.not_le.mp fun q => hi (Or.inr q)
  have hc := hH.2.2.1 _ _ (xE_33 hK)
  exact W.zald (v := .int (σ.AI a i.toNatClampNeg)) hx hb hc (((x_K hO hW).2 3 _ rfl).1 (σ.L a) (fun j => .int (σ.AI a j))) (fun q => by cases q) (by show ¬ (i < 0 ∨ (arrV _ _ _).slots.size ≤ _); rw [arrV_size]; exact hi) (by show (arrV _ _ _).slots[_]? = _; rw [arrV_read _ _ hlt]) rfl rfl hd (h p e R s m args below meth c H locs ls C0 hl hH hS)
theorem ev_lald_42 {i : Int32} (hK : σ.K a = 42) (hi : vp_in i (σ.L a)) (hd : decode M.code pc = .ok (.laload, 1)) (h : Ev l G M (pc + 1) lv (.long (σ.AJ a i.toNatClampNeg) :: st) σ r σ') : Ev l G M pc lv (.int i :: va_rf (some a) :: st) σ r σ' := by
  intro p e R s m args below meth c H locs ls C0 hl hH hS
  obtain ⟨hx, hb, -, -, hown, -, -, -, hW, -, -, hO, -⟩ := id C0
  have hlt : i.toNatClampNeg < σ.L a := Nat.not_le.mp fun q => hi (Or.inr q)
  have hc := hH.2.2.1 _ _ (xE_42 hK)
  exact W.lald (v := .long (σ.AJ a i.toNatClampNeg)) hx hb hc (((x_K hO hW).2 2 _ rfl).1 (σ.L a) (fun j => .long (σ.AJ a j))) (fun q => by cases q) (by show ¬ (i < 0 ∨ (arrV _ _ _).slots.size ≤ _); rw [arrV_size]; exact hi) (by show (arrV _ _ _).slots[_]? = _; rw [arrV_read _ _ hlt]) rfl rfl hd (h p e R s m args below meth c H locs ls C0 hl hH hS)
theorem ev_cald {i : Int32} (hK : σ.K a = 20) (hi : vp_in i (σ.L a)) (hd : decode M.code pc = .ok (.caload, 1)) (h : Ev l G M (pc + 1) lv (.int (σ.AI a i.toNatClampNeg) :: st) σ r σ') : Ev l G M pc lv (.int i :: va_rf (some a) :: st) σ r σ' := by
  intro p e R s m args below meth c H locs ls C0 hl hH hS
  obtain ⟨hx, hb, -, -, hown, -, -, -, hW, -, -, hO, -⟩ := id C0
  have hlt : i.toNatClampNeg < σ.L a := Nat.not_le.mp fun q => hi (Or.inr q)
  have hc := hH.2.2.1 _ _ (xE_20 hK)
  exact W.cald (v := .int (σ.AI a i.toNatClampNeg)) hx hb hc (((x_K hO hW).2 0 _ rfl).1 (σ.L a) (fun j => .int (σ.AI a j))) (fun q => by cases q) (by show ¬ (i < 0 ∨ (arrV _ _ _).slots.size ≤ _); rw [arrV_size]; exact hi) (by show (arrV _ _ _).slots[_]? = _; rw [arrV_read _ _ hlt]) rfl rfl hd (h p e R s m args below meth c H locs ls C0 hl hH hS)
theorem ev_zald {i : Int32} (hK : σ.K a = 23) (hi : vp_in i (σ.L a)) (hd : decode M.code pc = .ok (.baload, 1)) (h : Ev l G M (pc + 1) lv (.int (σ.AI a i.toNatClampNeg) :: st) σ r σ') : Ev l G M pc lv (.int i :: va_rf (some a) :: st) σ r σ' := by
  intro p e R s m args below meth c H locs ls C0 hl hH hS
  obtain ⟨hx, hb, -, -, hown, -, -, -, hW, -, -, hO, -⟩ := id C0
  have hlt : i.toNatClampNeg < σ.L a := Nat.not_le.mp fun q => hi (Or.inr q)
  have hc := hH.2.2.1 _ _ (xE_23 hK)
  exact W.zald (v := .int (σ.AI a i.toNatClampNeg)) hx hb hc (((x_K hO hW).2 3 _ rfl).1 (σ.L a) (fun j => .int (σ.AI a j))) (fun q => by cases q) (by show ¬ (i < 0 ∨ (arrV _ _ _).slots.size ≤ _); rw [arrV_size]; exact hi) (by show (arrV _ _ _).slots[_]? = _; rw [arrV_read _ _ hlt]) rfl rfl hd (h p e R s m args below meth c H locs ls C0 hl hH hS)
theorem ev_lald {i : Int32} (hK : σ.K a = 22) (hi : vp_in i (σ.L a)) (hd : decode M.code pc = .ok (.laload, 1)) (h : Ev l G M (pc + 1) lv (.long (σ.AJ a i.toNatClampNeg) :: st) σ r σ') : Ev l G M pc lv (.int i :: va_rf (some a) :: st) σ r σ' := by
  intro p e R s m args below meth c H locs ls C0 hl hH hS
  obtain ⟨hx, hb, -, -, hown, -, -, -, hW, -, -, hO, -⟩ := id C0
  have hlt : i.toNatClampNeg < σ.L a := Nat.not_le.mp fun q => hi (Or.inr q)
  have hc := hH.2.2.1 _ _ (xE_22 hK)
  exact W.lald (v := .long (σ.AJ a i.toNatClampNeg)) hx hb hc (((x_K hO hW).2 2 _ rfl).1 (σ.L a) (fun j => .long (σ.AJ a j))) (fun q => by cases q) (by show ¬ (i < 0 ∨ (arrV _ _ _).slots.size ≤ _); rw [arrV_size]; exact hi) (by show (arrV _ _ _).slots[_]? = _; rw [arrV_read _ _ hlt]) rfl rfl hd (h p e R s m args below meth c H locs ls C0 hl hH hS)
theorem ev_aald_24 {i : Int32} (hK : σ.K a = 24) (hi : vp_in i (σ.L a)) (hd : decode M.code pc = .ok (.aaload, 1)) (h : Ev l G M (pc + 1) lv (va_rf (σ.AR a i.toNatClampNeg) :: st) σ r σ') : Ev l G M pc lv (.int i :: va_rf (some a) :: st) σ r σ' := by
  intro p e R s m args below meth c H locs ls C0 hl hH hS
  obtain ⟨hx, hb, -, -, hown, -, -, -, hW, -, -, hO, -⟩ := id C0
  have hlt : i.toNatClampNeg < σ.L a := Nat.not_le.mp fun q => hi (Or.inr q)
  have hc := hH.2.2.1 _ _ (xE_24 hK)
  exact W.aald (v := va_rf (σ.AR a i.toNatClampNeg)) (ty := x_ty 24) hx hb hc (((x_K hO hW).2 4 _ rfl).1 (σ.L a) (fun j => va_rf (σ.AR a j))) rfl (fun q => by cases q) (by show ¬ (i < 0 ∨ (arrV _ _ _).slots.size ≤ _); rw [arrV_size]; exact hi) (by show (arrV _ _ _).slots[_]? = _; rw [arrV_read _ _ hlt]) rfl rfl hd (h p e R s m args below meth c H locs ls C0 hl hH hS)
theorem ev_aald_25 {i : Int32} (hK : σ.K a = 25) (hi : vp_in i (σ.L a)) (hd : decode M.code pc = .ok (.aaload, 1)) (h : Ev l G M (pc + 1) lv (va_rf (σ.AR a i.toNatClampNeg) :: st) σ r σ') : Ev l G M pc lv (.int i :: va_rf (some a) :: st) σ r σ' := by
  intro p e R s m args below meth c H locs ls C0 hl hH hS
  obtain ⟨hx, hb, -, -, hown, -, -, -, hW, -, -, hO, -⟩ := id C0
  have hlt : i.toNatClampNeg < σ.L a := Nat.not_le.mp fun q => hi (Or.inr q)
  have hc := hH.2.2.1 _ _ (xE_25 hK)
  exact W.aald (v := va_rf (σ.AR a i.toNatClampNeg)) (ty := x_ty 25) hx hb hc (((x_K hO hW).2 5 _ rfl).1 (σ.L a) (fun j => va_rf (σ.AR a j))) rfl (fun q => by cases q) (by show ¬ (i < 0 ∨ (arrV _ _ _).slots.size ≤ _); rw [arrV_size]; exact hi) (by show (arrV _ _ _).slots[_]? = _; rw [arrV_read _ _ hlt]) rfl rfl hd (h p e R s m args below meth c H locs ls C0 hl hH hS)
theorem ev_aald_26 {i : Int32} (hK : σ.K a = 26) (hi : vp_in i (σ.L a)) (hd : decode M.code pc = .ok (.aaload, 1)) (h : Ev l G M (pc + 1) lv (va_rf (σ.AR a i.toNatClampNeg) :: st) σ r σ') : Ev l G M pc lv (.int i :: va_rf (some a) :: st) σ r σ' := by
  intro p e R s m args below meth c H locs ls C0 hl hH hS
  obtain ⟨hx, hb, -, -, hown, -, -, -, hW, -, -, hO, -⟩ := id C0
  have hlt : i.toNatClampNeg < σ.L a := Nat.not_le.mp fun q => hi (Or.inr q)
  have hc := hH.2.2.1 _ _ (xE_26 hK)
  exact W.aald (v := va_rf (σ.AR a i.toNatClampNeg)) (ty := x_ty 26) hx hb hc (((x_K hO hW).2 6 _ rfl).1 (σ.L a) (fun j => va_rf (σ.AR a j))) rfl (fun q => by cases q) (by show ¬ (i < 0 ∨ (arrV _ _ _).slots.size ≤ _); rw [arrV_size]; exact hi) (by show (arrV _ _ _).slots[_]? = _; rw [arrV_read _ _ hlt]) rfl rfl hd (h p e R s m args below meth c H locs ls C0 hl hH hS)
theorem ev_aald_27 {i : Int32} (hK : σ.K a = 27) (hi : vp_in i (σ.L a)) (hd : decode M.code pc = .ok (.aaload, 1)) (h : Ev l G M (pc + 1) lv (va_rf (σ.AR a i.toNatClampNeg) :: st) σ r σ') : Ev l G M pc lv (.int i :: va_rf (some a) :: st) σ r σ' := by
  intro p e R s m args below meth c H locs ls C0 hl hH hS
  obtain ⟨hx, hb, -, -, hown, -, -, -, hW, -, -, hO, -⟩ := id C0
  have hlt : i.toNatClampNeg < σ.L a := Nat.not_le.mp fun q => hi (Or.inr q)
  have hc := hH.2.2.1 _ _ (xE_27 hK)
  exact W.aald (v := va_rf (σ.AR a i.toNatClampNeg)) (ty := x_ty 27) hx hb hc (((x_K hO hW).2 7 _ rfl).1 (σ.L a) (fun j => va_rf (σ.AR a j))) rfl (fun q => by cases q) (by show ¬ (i < 0 ∨ (arrV _ _ _).slots.size ≤ _); rw [arrV_size]; exact hi) (by show (arrV _ _ _).slots[_]? = _; rw [arrV_read _ _ hlt]) rfl rfl hd (h p e R s m args below meth c H locs ls C0 hl hH hS)
theorem ev_aald_28 {i : Int32} (hK : σ.K a = 28) (hi : vp_in i (σ.L a)) (hd : decode M.code pc = .ok (.aaload, 1)) (h : Ev l G M (pc + 1) lv (va_rf (σ.AR a i.toNatClampNeg) :: st) σ r σ') : Ev l G M pc lv (.int i :: va_rf (some a) :: st) σ r σ' := by
  intro p e R s m args below meth c H locs ls C0 hl hH hS
  obtain ⟨hx, hb, -, -, hown, -, -, -, hW, -, -, hO, -⟩ := id C0
  have hlt : i.toNatClampNeg < σ.L a := Nat.not_le.mp fun q => hi (Or.inr q)
  have hc := hH.2.2.1 _ _ (xE_28 hK)
  exact W.aald (v := va_rf (σ.AR a i.toNatClampNeg)) (ty := x_ty 28) hx hb hc (((x_K hO hW).2 8 _ rfl).1 (σ.L a) (fun j => va_rf (σ.AR a j))) rfl (fun q => by cases q) (by show ¬ (i < 0 ∨ (arrV _ _ _).slots.size ≤ _); rw [arrV_size]; exact hi) (by show (arrV _ _ _).slots[_]? = _; rw [arrV_read _ _ hlt]) rfl rfl hd (h p e R s m args below meth c H locs ls C0 hl hH hS)
theorem ev_iast {i : Int32} {x : Int32} (hK : σ.K a = 21) (hi : vp_in i (σ.L a)) (ha : G.base ≤ a) (hd : decode M.code pc = .ok (.iastore, 1)) (h : Ev l G M (pc + 1) lv st (σ.setAI a i.toNatClampNeg x) r σ') : Ev l G M pc lv (.int x :: .int i :: va_rf (some a) :: st) σ r σ' := by
  intro p e R s m args below meth c H locs ls C0 hl hH hS
  obtain ⟨hx, hb, -, -, hown, -, -, -, hW, -, -, hO, -⟩ := id C0
  have hc := hH.2.2.1 _ _ (xE_21 hK)
  refine W.iast hx hb hc (((x_K hO hW).2 1 _ rfl).1 (σ.L a) (fun j => .int (σ.AI a j))) (fun q => by cases q) (by show ¬ (i < 0 ∨ (arrV _ _ _).slots.size ≤ _); rw [arrV_size]; exact hi) rfl rfl hd fun H' e1 e2 e3 => ?_
  refine x_canon ?_
  refine h p e R s m args below meth c H' _ ls C0 hl (hH.put ha hc e1 (x_setSlot _ _ _) e2 e3 (xE_21 (σ := σ.setAI a i.toNatClampNeg x) hK) ?_ (xPut_AI (by rw [hK]; decide)).1 rfl rfl (fun _ => rfl) (xPut_AI (cy := G.cy) (by rw [hK]; decide)).2.2.2.2) (hS.put e2 e3 ha)
  show H'[a]? = some (vp_cell _ _)
  rw [e1, vp_cell_i, vp_cell_i, arrV_store]
  congr 2
  funext q
  by_cases hq : q = i.toNatClampNeg
  · subst hq
    simp [updV, AI_setAI, x_up2]
  · simp [updV, AI_setAI, x_up2, hq]
theorem ev_iast_31 {i : Int32} {x : Int32} (hK : σ.K a = 31) (hi : vp_in i (σ.L a)) (ha : G.base ≤ a) (hd : decode M.code pc = .ok (.iastore, 1)) (h : Ev l G M (pc + 1) lv st (σ.setAI a i.toNatClampNeg x) r σ') : Ev l G M pc lv (.int x :: .int i :: va_rf (some a) :: st) σ r σ' := by
  intro p e R s m args below meth c H locs ls C0 hl hH hS
  obtain ⟨hx, hb, -, -, hown, -, -, -, hW, -, -, hO, -⟩ := id C0
  have hc := hH.2.2.1 _ _ (xE_31 hK)
  refine W.iast hx hb hc (((x_K hO hW).2 1 _ rfl).1 (σ.L a) (fun j => .int (σ.AI a j))) (fun q => by cases q) (by show ¬ (i < 0 ∨ (arrV _ _ _).slots.size ≤ _); rw [arrV_size]; exact hi) rfl rfl hd fun H' e1 e2 e3 => ?_
  refine x_canon ?_
  refine h p e R s m args below meth c H' _ ls C0 hl (hH.put ha hc e1 (x_setSlot _ _ _) e2 e3 (xE_31 (σ := σ.setAI a i.toNatClampNeg x) hK) ?_ (xPut_AI (by rw [hK]; decide)).1 rfl rfl (fun _ => rfl) (xPut_AI (cy := G.cy) (by rw [hK]; decide)).2.2.2.2) (hS.put e2 e3 ha)
  show H'[a]? = some (vp_cell _ _)
  rw [e1, vp_cell_i, vp_cell_i, arrV_store]
  congr 2
  funext q
  by_cases hq : q = i.toNatClampNeg
  · subst hq
    simp [updV, AI_setAI, x_up2]
  · simp [updV, AI_setAI, x_up2, hq]
theorem ev_zast_33 {i : Int32} {x : Int32} (hK : σ.K a = 33) (hi : vp_in i (σ.L a)) (ha : G.base ≤ a) (hn : narrow .boolean (.int x) = .int x) (hd : decode M.code pc = .ok (.bastore, 1)) (h : Ev l G M (pc + 1) lv st (σ.setAI a i.toNatClampNeg x) r σ') : Ev l G M pc lv (.int x :: .int i :: va_rf (some a) :: st) σ r σ' := by
  intro p e R s m args below meth c H locs ls C0 hl hH hS
  obtain ⟨hx, hb, -, -, hown, -, -, -, hW, -, -, hO, -⟩ := id C0
  have hc := hH.2.2.1 _ _ (xE_33 hK)
  refine W.zast hx hb hc (((x_K hO hW).2 3 _ rfl).1 (σ.L a) (fun j => .int (σ.AI a j))) (fun q => by cases q) (by show ¬ (i < 0 ∨ (arrV _ _ _).slots.size ≤ _); rw [arrV_size]; exact hi) rfl rfl hd fun H' e1 e2 e3 => ?_
  refine x_canon ?_
  refine h p e R s m args below meth c H' _ ls C0 hl (hH.put ha hc e1 (x_setSlot _ _ _) e2 e3 (xE_33 (σ := σ.setAI a i.toNatClampNeg x) hK) ?_ (xPut_AI (by rw [hK]; decide)).1 rfl rfl (fun _ => rfl) (xPut_AI (cy := G.cy) (by rw [hK]; decide)).2.2.2.2) (hS.put e2 e3 ha)
  show H'[a]? = some (vp_cell _ _)
  rw [e1, hn, vp_cell_i, vp_cell_i, arrV_store]
  congr 2
  funext q
  by_cases hq : q = i.toNatClampNeg
  · subst hq
    simp [updV, AI_setAI, x_up2]
  · simp [updV, AI_setAI, x_up2, hq]
theorem ev_last_42 {i : Int32} {x : Int64} (hK : σ.K a = 42) (hi : vp_in i (σ.L a)) (ha : G.base ≤ a) (hd : decode M.code pc = .ok (.lastore, 1)) (h : Ev l G M (pc + 1) lv st (σ.setAJ a i.toNatClampNeg x) r σ') : Ev l G M pc lv (.long x :: .int i :: va_rf (some a) :: st) σ r σ' := by
  intro p e R s m args below meth c H locs ls C0 hl hH hS
  obtain ⟨hx, hb, -, -, hown, -, -, -, hW, -, -, hO, -⟩ := id C0
  have hc := hH.2.2.1 _ _ (xE_42 hK)
  refine W.last hx hb hc (((x_K hO hW).2 2 _ rfl).1 (σ.L a) (fun j => .long (σ.AJ a j))) (fun q => by cases q) (by show ¬ (i < 0 ∨ (arrV _ _ _).slots.size ≤ _); rw [arrV_size]; exact hi) rfl rfl hd fun H' e1 e2 e3 => ?_
  refine x_canon ?_
  refine h p e R s m args below meth c H' _ ls C0 hl (hH.put ha hc e1 (x_setSlot _ _ _) e2 e3 (xE_42 (σ := σ.setAJ a i.toNatClampNeg x) hK) ?_ (xPut_AJ).1 rfl rfl (fun _ => rfl) (xPut_AJ (cy := G.cy)).2.2.2.2) (hS.put e2 e3 ha)
  show H'[a]? = some (vp_cell _ _)
  rw [e1, vp_cell_l, vp_cell_l, arrV_store]
  congr 2
  funext q
  by_cases hq : q = i.toNatClampNeg
  · subst hq
    simp [updV, AJ_setAJ, x_up2]
  · simp [updV, AJ_setAJ, x_up2, hq]
theorem ev_cast {i : Int32} {x : Int32} (hK : σ.K a = 20) (hi : vp_in i (σ.L a)) (ha : G.base ≤ a) (hn : narrow .char (.int x) = .int x) (hd : decode M.code pc = .ok (.castore, 1)) (h : Ev l G M (pc + 1) lv st (σ.setAI a i.toNatClampNeg x) r σ') : Ev l G M pc lv (.int x :: .int i :: va_rf (some a) :: st) σ r σ' := by
  intro p e R s m args below meth c H locs ls C0 hl hH hS
  obtain ⟨hx, hb, -, -, hown, -, -, -, hW, -, -, hO, -⟩ := id C0
  have hc := hH.2.2.1 _ _ (xE_20 hK)
  refine W.cast hx hb hc (((x_K hO hW).2 0 _ rfl).1 (σ.L a) (fun j => .int (σ.AI a j))) (fun q => by cases q) (by show ¬ (i < 0 ∨ (arrV _ _ _).slots.size ≤ _); rw [arrV_size]; exact hi) rfl rfl hd fun H' e1 e2 e3 => ?_
  refine x_canon ?_
  refine h p e R s m args below meth c H' _ ls C0 hl (hH.put ha hc e1 (x_setSlot _ _ _) e2 e3 (xE_20 (σ := σ.setAI a i.toNatClampNeg x) hK) ?_ (xPut_AI (by rw [hK]; decide)).1 rfl rfl (fun _ => rfl) (xPut_AI (cy := G.cy) (by rw [hK]; decide)).2.2.2.2) (hS.put e2 e3 ha)
  show H'[a]? = some (vp_cell _ _)
  rw [e1, hn, vp_cell_i, vp_cell_i, arrV_store]
  congr 2
  funext q
  by_cases hq : q = i.toNatClampNeg
  · subst hq
    simp [updV, AI_setAI, x_up2]
  · simp [updV, AI_setAI, x_up2, hq]
theorem ev_zast {i : Int32} {x : Int32} (hK : σ.K a = 23) (hi : vp_in i (σ.L a)) (ha : G.base ≤ a) (hn : narrow .boolean (.int x) = .int x) (hd : decode M.code pc = .ok (.bastore, 1)) (h : Ev l G M (pc + 1) lv st (σ.setAI a i.toNatClampNeg x) r σ') : Ev l G M pc lv (.int x :: .int i :: va_rf (some a) :: st) σ r σ' := by
  intro p e R s m args below meth c H locs ls C0 hl hH hS
  obtain ⟨hx, hb, -, -, hown, -, -, -, hW, -, -, hO, -⟩ := id C0
  have hc := hH.2.2.1 _ _ (xE_23 hK)
  refine W.zast hx hb hc (((x_K hO hW).2 3 _ rfl).1 (σ.L a) (fun j => .int (σ.AI a j))) (fun q => by cases q) (by show ¬ (i < 0 ∨ (arrV _ _ _).slots.size ≤ _); rw [arrV_size]; exact hi) rfl rfl hd fun H' e1 e2 e3 => ?_
  refine x_canon ?_
  refine h p e R s m args below meth c H' _ ls C0 hl (hH.put ha hc e1 (x_setSlot _ _ _) e2 e3 (xE_23 (σ := σ.setAI a i.toNatClampNeg x) hK) ?_ (xPut_AI (by rw [hK]; decide)).1 rfl rfl (fun _ => rfl) (xPut_AI (cy := G.cy) (by rw [hK]; decide)).2.2.2.2) (hS.put e2 e3 ha)
  show H'[a]? = some (vp_cell _ _)
  rw [e1, hn, vp_cell_i, vp_cell_i, arrV_store]
  congr 2
  funext q
  by_cases hq : q = i.toNatClampNeg
  · subst hq
    simp [updV, AI_setAI, x_up2]
  · simp [updV, AI_setAI, x_up2, hq]
theorem ev_last {i : Int32} {x : Int64} (hK : σ.K a = 22) (hi : vp_in i (σ.L a)) (ha : G.base ≤ a) (hd : decode M.code pc = .ok (.lastore, 1)) (h : Ev l G M (pc + 1) lv st (σ.setAJ a i.toNatClampNeg x) r σ') : Ev l G M pc lv (.long x :: .int i :: va_rf (some a) :: st) σ r σ' := by
  intro p e R s m args below meth c H locs ls C0 hl hH hS
  obtain ⟨hx, hb, -, -, hown, -, -, -, hW, -, -, hO, -⟩ := id C0
  have hc := hH.2.2.1 _ _ (xE_22 hK)
  refine W.last hx hb hc (((x_K hO hW).2 2 _ rfl).1 (σ.L a) (fun j => .long (σ.AJ a j))) (fun q => by cases q) (by show ¬ (i < 0 ∨ (arrV _ _ _).slots.size ≤ _); rw [arrV_size]; exact hi) rfl rfl hd fun H' e1 e2 e3 => ?_
  refine x_canon ?_
  refine h p e R s m args below meth c H' _ ls C0 hl (hH.put ha hc e1 (x_setSlot _ _ _) e2 e3 (xE_22 (σ := σ.setAJ a i.toNatClampNeg x) hK) ?_ (xPut_AJ).1 rfl rfl (fun _ => rfl) (xPut_AJ (cy := G.cy)).2.2.2.2) (hS.put e2 e3 ha)
  show H'[a]? = some (vp_cell _ _)
  rw [e1, vp_cell_l, vp_cell_l, arrV_store]
  congr 2
  funext q
  by_cases hq : q = i.toNatClampNeg
  · subst hq
    simp [updV, AJ_setAJ, x_up2]
  · simp [updV, AJ_setAJ, x_up2, hq]
theorem ev_aast_24 {i : Int32} {x : Option Nat} (hK : σ.K a = 24) (hi : vp_in i (σ.L a)) (ha : G.base ≤ a) (hx9 : ∀ v, x = some v → σ.K v = 2) (hd : decode M.code pc = .ok (.aastore, 1)) (h : Ev l G M (pc + 1) lv st (σ.setAR a i.toNatClampNeg x) r σ') : Ev l G M pc lv (va_rf x :: .int i :: va_rf (some a) :: st) σ r σ' := by
  intro p e R s m args below meth c H locs ls C0 hl hH hS
  obtain ⟨hx, hb, -, -, hown, -, -, -, hW, -, -, hO, -⟩ := id C0
  have hlt : i.toNatClampNeg < σ.L a := Nat.not_le.mp fun q => hi (Or.inr q)
  have h0 : ¬ i < 0 := fun q => hi (Or.inl q)
  have hc := hH.2.2.1 _ _ (xE_24 hK)
  have hKK := x_K hO hW
  cases x with
  | none =>
    refine va_WaastN (C := RX1) hx hb hc ((hKK.2 4 _ rfl).1 (σ.L a) (fun j => va_rf (σ.AR a j))) (fun h => by cases h) (by show ¬ (i < 0 ∨ (arrV _ _ _).slots.size ≤ _); rw [arrV_size]; exact hi) rfl rfl hd fun H' e1 e2 e3 => ?_
    refine x_canon ?_
    refine h p e R s m args below meth c H' _ ls C0 hl (hH.put ha hc e1 (x_setSlot _ _ _) e2 e3 (xE_24 (σ := σ.setAR a i.toNatClampNeg none) hK) ?_ xPut_AR.1 rfl rfl (fun _ => rfl) (xPut_AR (cy := G.cy)).2.2.2.2) (hS.put e2 e3 ha)
    show H'[a]? = some (vp_cell _ _)
    rw [e1, vp_cell_q, vp_cell_q, arrV_store]
    congr 2
    funext q
    by_cases hq : q = i.toNatClampNeg
    · subst hq
      simp [updV, AR_setAR, x_up2, va_rf]
    · simp [updV, AR_setAR, x_up2, hq]
  | some v =>
    obtain ⟨r', hr', cellV, g1, g2, g3, -⟩ := hH.2.2.1 _ _ (xE_2 (hx9 v rfl))
    have hcls := (hKK.1 1 _ rfl).2
    obtain ⟨kA, comp, k1, k2, k3, -⟩ := (hKK.2 4 _ rfl).2
    have hcomp : comp = G.D.1 1 := Option.some.inj (k3.symm.trans hcls.1)
    subst hcomp
    obtain ⟨kC, hkC, -⟩ := hcls.2
    refine W.aast hx hb hc (fun q h => by cases h) (fun h => by cases h) k1 k2 rfl hkC ⟨h0, by show _ < (arrV _ _ _).slots.size; rw [arrV_size]; exact hlt⟩ g1 (fun q h => by rw [g3] at h; cases h) (by rw [g2]; exact hkC) (by rw [g2]; exact va_assign hcls) rfl rfl hd fun H' e1 e2 e3 => ?_
    refine x_canon ?_
    refine h p e R s m args below meth c H' _ ls C0 hl (hH.put ha hc e1 (x_setSlot _ _ _) e2 e3 (xE_24 (σ := σ.setAR a i.toNatClampNeg (some v)) hK) ?_ xPut_AR.1 rfl rfl (fun _ => rfl) (xPut_AR (cy := G.cy)).2.2.2.2) (hS.put e2 e3 ha)
    show H'[a]? = some (vp_cell _ _)
    rw [e1, vp_cell_q, vp_cell_q, arrV_store]
    congr 2
    funext q
    by_cases hq : q = i.toNatClampNeg
    · subst hq
      simp [updV, AR_setAR, x_up2, va_rf]
    · simp [updV, AR_setAR, x_up2, hq]
theorem ev_aast_25 {i : Int32} {x : Option Nat} (hK : σ.K a = 25) (hi : vp_in i (σ.L a)) (ha : G.base ≤ a) (hx9 : ∀ v, x = some v → σ.K v = 3) (hd : decode M.code pc = .ok (.aastore, 1)) (h : Ev l G M (pc + 1) lv st (σ.setAR a i.toNatClampNeg x) r σ') : Ev l G M pc lv (va_rf x :: .int i :: va_rf (some a) :: st) σ r σ' := by
  intro p e R s m args below meth c H locs ls C0 hl hH hS
  obtain ⟨hx, hb, -, -, hown, -, -, -, hW, -, -, hO, -⟩ := id C0
  have hlt : i.toNatClampNeg < σ.L a := Nat.not_le.mp fun q => hi (Or.inr q)
  have h0 : ¬ i < 0 := fun q => hi (Or.inl q)
  have hc := hH.2.2.1 _ _ (xE_25 hK)
  have hKK := x_K hO hW
  cases x with
  | none =>
    refine va_WaastN (C := RX2) hx hb hc ((hKK.2 5 _ rfl).1 (σ.L a) (fun j => va_rf (σ.AR a j))) (fun h => by cases h) (by show ¬ (i < 0 ∨ (arrV _ _ _).slots.size ≤ _); rw [arrV_size]; exact hi) rfl rfl hd fun H' e1 e2 e3 => ?_
    refine x_canon ?_
    refine h p e R s m args below meth c H' _ ls C0 hl (hH.put ha hc e1 (x_setSlot _ _ _) e2 e3 (xE_25 (σ := σ.setAR a i.toNatClampNeg none) hK) ?_ xPut_AR.1 rfl rfl (fun _ => rfl) (xPut_AR (cy := G.cy)).2.2.2.2) (hS.put e2 e3 ha)
    show H'[a]? = some (vp_cell _ _)
    rw [e1, vp_cell_q, vp_cell_q, arrV_store]
    congr 2
    funext q
    by_cases hq : q = i.toNatClampNeg
    · subst hq
      simp [updV, AR_setAR, x_up2, va_rf]
    · simp [updV, AR_setAR, x_up2, hq]
  | some v =>
    obtain ⟨r', hr', cellV, g1, g2, g3, -⟩ := hH.2.2.1 _ _ (xE_3 (hx9 v rfl))
    have hcls := (hKK.1 2 _ rfl).2
    obtain ⟨kA, comp, k1, k2, k3, -⟩ := (hKK.2 5 _ rfl).2
    have hcomp : comp = G.D.1 2 := Option.some.inj (k3.symm.trans hcls.1)
    subst hcomp
    obtain ⟨kC, hkC, -⟩ := hcls.2
    refine W.aast hx hb hc (fun q h => by cases h) (fun h => by cases h) k1 k2 rfl hkC ⟨h0, by show _ < (arrV _ _ _).slots.size; rw [arrV_size]; exact hlt⟩ g1 (fun q h => by rw [g3] at h; cases h) (by rw [g2]; exact hkC) (by rw [g2]; exact va_assign hcls) rfl rfl hd fun H' e1 e2 e3 => ?_
    refine x_canon ?_
    refine h p e R s m args below meth c H' _ ls C0 hl (hH.put ha hc e1 (x_setSlot _ _ _) e2 e3 (xE_25 (σ := σ.setAR a i.toNatClampNeg (some v)) hK) ?_ xPut_AR.1 rfl rfl (fun _ => rfl) (xPut_AR (cy := G.cy)).2.2.2.2) (hS.put e2 e3 ha)
    show H'[a]? = some (vp_cell _ _)
    rw [e1, vp_cell_q, vp_cell_q, arrV_store]
    congr 2
    funext q
    by_cases hq : q = i.toNatClampNeg
    · subst hq
      simp [updV, AR_setAR, x_up2, va_rf]
    · simp [updV, AR_setAR, x_up2, hq]
theorem ev_aast_26 {i : Int32} {x : Option Nat} (hK : σ.K a = 26) (hi : vp_in i (σ.L a)) (ha : G.base ≤ a) (hx9 : ∀ v, x = some v → σ.K v = 5) (hd : decode M.code pc = .ok (.aastore, 1)) (h : Ev l G M (pc + 1) lv st (σ.setAR a i.toNatClampNeg x) r σ') : Ev l G M pc lv (va_rf x :: .int i :: va_rf (some a) :: st) σ r σ' := by
  intro p e R s m args below meth c H locs ls C0 hl hH hS
  obtain ⟨hx, hb, -, -, hown, -, -, -, hW, -, -, hO, -⟩ := id C0
  have hlt : i.toNatClampNeg < σ.L a := Nat.not_le.mp fun q => hi (Or.inr q)
  have h0 : ¬ i < 0 := fun q => hi (Or.inl q)
  have hc := hH.2.2.1 _ _ (xE_26 hK)
  have hKK := x_K hO hW
  cases x with
  | none =>
    refine va_WaastN (C := RX4) hx hb hc ((hKK.2 6 _ rfl).1 (σ.L a) (fun j => va_rf (σ.AR a j))) (fun h => by cases h) (by show ¬ (i < 0 ∨ (arrV _ _ _).slots.size ≤ _); rw [arrV_size]; exact hi) rfl rfl hd fun H' e1 e2 e3 => ?_
    refine x_canon ?_
    refine h p e R s m args below meth c H' _ ls C0 hl (hH.put ha hc e1 (x_setSlot _ _ _) e2 e3 (xE_26 (σ := σ.setAR a i.toNatClampNeg none) hK) ?_ xPut_AR.1 rfl rfl (fun _ => rfl) (xPut_AR (cy := G.cy)).2.2.2.2) (hS.put e2 e3 ha)
    show H'[a]? = some (vp_cell _ _)
    rw [e1, vp_cell_q, vp_cell_q, arrV_store]
    congr 2
    funext q
    by_cases hq : q = i.toNatClampNeg
    · subst hq
      simp [updV, AR_setAR, x_up2, va_rf]
    · simp [updV, AR_setAR, x_up2, hq]
  | some v =>
    obtain ⟨r', hr', cellV, g1, g2, g3, -⟩ := hH.2.2.1 _ _ (xE_5 (hx9 v rfl))
    have hcls := (hKK.1 4 _ rfl).2
    obtain ⟨kA, comp, k1, k2, k3, -⟩ := (hKK.2 6 _ rfl).2
    have hcomp : comp = G.D.1 4 := Option.some.inj (k3.symm.trans hcls.1)
    subst hcomp
    obtain ⟨kC, hkC, -⟩ := hcls.2
    refine W.aast hx hb hc (fun q h => by cases h) (fun h => by cases h) k1 k2 rfl hkC ⟨h0, by show _ < (arrV _ _ _).slots.size; rw [arrV_size]; exact hlt⟩ g1 (fun q h => by rw [g3] at h; cases h) (by rw [g2]; exact hkC) (by rw [g2]; exact va_assign hcls) rfl rfl hd fun H' e1 e2 e3 => ?_
    refine x_canon ?_
    refine h p e R s m args below meth c H' _ ls C0 hl (hH.put ha hc e1 (x_setSlot _ _ _) e2 e3 (xE_26 (σ := σ.setAR a i.toNatClampNeg (some v)) hK) ?_ xPut_AR.1 rfl rfl (fun _ => rfl) (xPut_AR (cy := G.cy)).2.2.2.2) (hS.put e2 e3 ha)
    show H'[a]? = some (vp_cell _ _)
    rw [e1, vp_cell_q, vp_cell_q, arrV_store]
    congr 2
    funext q
    by_cases hq : q = i.toNatClampNeg
    · subst hq
      simp [updV, AR_setAR, x_up2, va_rf]
    · simp [updV, AR_setAR, x_up2, hq]
theorem ev_aast_27 {i : Int32} {x : Option Nat} (hK : σ.K a = 27) (hi : vp_in i (σ.L a)) (ha : G.base ≤ a) (hx9 : ∀ v, x = some v → σ.K v = 6) (hd : decode M.code pc = .ok (.aastore, 1)) (h : Ev l G M (pc + 1) lv st (σ.setAR a i.toNatClampNeg x) r σ') : Ev l G M pc lv (va_rf x :: .int i :: va_rf (some a) :: st) σ r σ' := by
  intro p e R s m args below meth c H locs ls C0 hl hH hS
  obtain ⟨hx, hb, -, -, hown, -, -, -, hW, -, -, hO, -⟩ := id C0
  have hlt : i.toNatClampNeg < σ.L a := Nat.not_le.mp fun q => hi (Or.inr q)
  have h0 : ¬ i < 0 := fun q => hi (Or.inl q)
  have hc := hH.2.2.1 _ _ (xE_27 hK)
  have hKK := x_K hO hW
  cases x with
  | none =>
    refine va_WaastN (C := RX5) hx hb hc ((hKK.2 7 _ rfl).1 (σ.L a) (fun j => va_rf (σ.AR a j))) (fun h => by cases h) (by show ¬ (i < 0 ∨ (arrV _ _ _).slots.size ≤ _); rw [arrV_size]; exact hi) rfl rfl hd fun H' e1 e2 e3 => ?_
    refine x_canon ?_
    refine h p e R s m args below meth c H' _ ls C0 hl (hH.put ha hc e1 (x_setSlot _ _ _) e2 e3 (xE_27 (σ := σ.setAR a i.toNatClampNeg none) hK) ?_ xPut_AR.1 rfl rfl (fun _ => rfl) (xPut_AR (cy := G.cy)).2.2.2.2) (hS.put e2 e3 ha)
    show H'[a]? = some (vp_cell _ _)
    rw [e1, vp_cell_q, vp_cell_q, arrV_store]
    congr 2
    funext q
    by_cases hq : q = i.toNatClampNeg
    · subst hq
      simp [updV, AR_setAR, x_up2, va_rf]
    · simp [updV, AR_setAR, x_up2, hq]
  | some v =>
    obtain ⟨r', hr', cellV, g1, g2, g3, -⟩ := hH.2.2.1 _ _ (xE_6 (hx9 v rfl))
    have hcls := (hKK.1 5 _ rfl).2
    obtain ⟨kA, comp, k1, k2, k3, -⟩ := (hKK.2 7 _ rfl).2
    have hcomp : comp = G.D.1 5 := Option.some.inj (k3.symm.trans hcls.1)
    subst hcomp
    obtain ⟨kC, hkC, -⟩ := hcls.2
    refine W.aast hx hb hc (fun q h => by cases h) (fun h => by cases h) k1 k2 rfl hkC ⟨h0, by show _ < (arrV _ _ _).slots.size; rw [arrV_size]; exact hlt⟩ g1 (fun q h => by rw [g3] at h; cases h) (by rw [g2]; exact hkC) (by rw [g2]; exact va_assign hcls) rfl rfl hd fun H' e1 e2 e3 => ?_
    refine x_canon ?_
    refine h p e R s m args below meth c H' _ ls C0 hl (hH.put ha hc e1 (x_setSlot _ _ _) e2 e3 (xE_27 (σ := σ.setAR a i.toNatClampNeg (some v)) hK) ?_ xPut_AR.1 rfl rfl (fun _ => rfl) (xPut_AR (cy := G.cy)).2.2.2.2) (hS.put e2 e3 ha)
    show H'[a]? = some (vp_cell _ _)
    rw [e1, vp_cell_q, vp_cell_q, arrV_store]
    congr 2
    funext q
    by_cases hq : q = i.toNatClampNeg
    · subst hq
      simp [updV, AR_setAR, x_up2, va_rf]
    · simp [updV, AR_setAR, x_up2, hq]
theorem ev_aast_28 {i : Int32} {x : Option Nat} (hK : σ.K a = 28) (hi : vp_in i (σ.L a)) (ha : G.base ≤ a) (hx9 : ∀ v, x = some v → σ.K v = 7) (hd : decode M.code pc = .ok (.aastore, 1)) (h : Ev l G M (pc + 1) lv st (σ.setAR a i.toNatClampNeg x) r σ') : Ev l G M pc lv (va_rf x :: .int i :: va_rf (some a) :: st) σ r σ' := by
  intro p e R s m args below meth c H locs ls C0 hl hH hS
  obtain ⟨hx, hb, -, -, hown, -, -, -, hW, -, -, hO, -⟩ := id C0
  have hlt : i.toNatClampNeg < σ.L a := Nat.not_le.mp fun q => hi (Or.inr q)
  have h0 : ¬ i < 0 := fun q => hi (Or.inl q)
  have hc := hH.2.2.1 _ _ (xE_28 hK)
  have hKK := x_K hO hW
  cases x with
  | none =>
    refine va_WaastN (C := RX6) hx hb hc ((hKK.2 8 _ rfl).1 (σ.L a) (fun j => va_rf (σ.AR a j))) (fun h => by cases h) (by show ¬ (i < 0 ∨ (arrV _ _ _).slots.size ≤ _); rw [arrV_size]; exact hi) rfl rfl hd fun H' e1 e2 e3 => ?_
    refine x_canon ?_
    refine h p e R s m args below meth c H' _ ls C0 hl (hH.put ha hc e1 (x_setSlot _ _ _) e2 e3 (xE_28 (σ := σ.setAR a i.toNatClampNeg none) hK) ?_ xPut_AR.1 rfl rfl (fun _ => rfl) (xPut_AR (cy := G.cy)).2.2.2.2) (hS.put e2 e3 ha)
    show H'[a]? = some (vp_cell _ _)
    rw [e1, vp_cell_q, vp_cell_q, arrV_store]
    congr 2
    funext q
    by_cases hq : q = i.toNatClampNeg
    · subst hq
      simp [updV, AR_setAR, x_up2, va_rf]
    · simp [updV, AR_setAR, x_up2, hq]
  | some v =>
    obtain ⟨r', hr', cellV, g1, g2, g3, -⟩ := hH.2.2.1 _ _ (xE_7 (hx9 v rfl))
    have hcls := (hKK.1 6 _ rfl).2
    obtain ⟨kA, comp, k1, k2, k3, -⟩ := (hKK.2 8 _ rfl).2
    have hcomp : comp = G.D.1 6 := Option.some.inj (k3.symm.trans hcls.1)
    subst hcomp
    obtain ⟨kC, hkC, -⟩ := hcls.2
    refine W.aast hx hb hc (fun q h => by cases h) (fun h => by cases h) k1 k2 rfl hkC ⟨h0, by show _ < (arrV _ _ _).slots.size; rw [arrV_size]; exact hlt⟩ g1 (fun q h => by rw [g3] at h; cases h) (by rw [g2]; exact hkC) (by rw [g2]; exact va_assign hcls) rfl rfl hd fun H' e1 e2 e3 => ?_
    refine x_canon ?_
    refine h p e R s m args below meth c H' _ ls C0 hl (hH.put ha hc e1 (x_setSlot _ _ _) e2 e3 (xE_28 (σ := σ.setAR a i.toNatClampNeg (some v)) hK) ?_ xPut_AR.1 rfl rfl (fun _ => rfl) (xPut_AR (cy := G.cy)).2.2.2.2) (hS.put e2 e3 ha)
    show H'[a]? = some (vp_cell _ _)
    rw [e1, vp_cell_q, vp_cell_q, arrV_store]
    congr 2
    funext q
    by_cases hq : q = i.toNatClampNeg
    · subst hq
      simp [updV, AR_setAR, x_up2, va_rf]
    · simp [updV, AR_setAR, x_up2, hq]
end XH
