/-! ===== the document as functions: words of a text T = (characters, how many), places as cursors ===== -/
abbrev xT : Type := (Nat → Nat) × Nat
def lx_D (c : Nat) : Bool := decide (48 ≤ c) && decide (c ≤ 57)
def lx_L (c : Nat) : Bool := (decide (97 ≤ c) && decide (c ≤ 122)) || (decide (65 ≤ c) && decide (c ≤ 90)) || decide (c = 95)
/-- from the place at which r characters are left: the first place that is no blank; com: within a remark -/
def lx_skip (T : xT) : Nat → Bool → Nat
  | 0, _ => T.2
  | r + 1, com =>
    if T.1 (T.2 - (r + 1)) = 10 then lx_skip T r false
    else if com = false ∧ T.1 (T.2 - (r + 1)) = 47 ∧ T.2 - (r + 1) + 1 < T.2 ∧ T.1 (T.2 - (r + 1) + 1) = 47 then lx_skip T r true
    else if com = false ∧ T.1 (T.2 - (r + 1)) ≠ 32 then T.2 - (r + 1)
    else lx_skip T r com
/-- the end of a row of digits, or of letters and digits -/
def lx_row (T : xT) (dig : Bool) : Nat → Nat
  | 0 => T.2
  | r + 1 => if lx_D (T.1 (T.2 - (r + 1))) = true ∨ (dig = false ∧ lx_L (T.1 (T.2 - (r + 1))) = true) then lx_row T dig r else T.2 - (r + 1)
def lx_end (T : xT) (p : Nat) : Nat :=
  if lx_D (T.1 p) = true then lx_row T true (T.2 - (p + 1)) else if lx_L (T.1 p) = true then lx_row T false (T.2 - (p + 1)) else p + 1
/-- the place of the word behind that at p -/
def lx_nx (T : xT) (p : Nat) : Nat := if p < T.2 then lx_skip T (T.2 - lx_end T p) false else T.2
def lx_nm (T : xT) (p : Nat) : List Nat := (List.range (lx_end T p - p)).map fun i => T.1 (p + i)
def lx_num (T : xT) (p : Nat) : Nat := if lx_end T p = p + 1 then T.1 p - 48 else (T.1 p - 48) * 10 + (T.1 (p + 1) - 48)
def kw_module : List Nat := [109, 111, 100, 117, 108, 101]
def kw_input : List Nat := [105, 110, 112, 117, 116]
def kw_output : List Nat := [111, 117, 116, 112, 117, 116]
def kw_wire : List Nat := [119, 105, 114, 101]
def kw_assign : List Nat := [97, 115, 115, 105, 103, 110]
def kw_end : List Nat := [101, 110, 100]
def lx_kw (l : List Nat) : Bool := decide (l = kw_module) || decide (l = kw_input) || decide (l = kw_output) || decide (l = kw_wire) || decide (l = kw_assign) || decide (l = kw_end)
/-- 0 a name, 1 a keyword, 2 a number, 3 a sign, 4 too long, 5 the end -/
def lx_kind (T : xT) (p : Nat) : Nat :=
  if T.2 ≤ p then 5
  else if lx_D (T.1 p) = true then (if 2 < lx_end T p - p then 4 else 2)
  else if lx_L (T.1 p) = true then (if 8 < lx_end T p - p then 4 else if lx_kw (lx_nm T p) = true then 1 else 0)
  else 3
/-! ===== what a text says: (name, sort (3: not told), width); (shape, place, net's name, high, low, digits); (port's name, place, part); (of, name, place, by name, links); (name, place, ports, wires, assigns, instances) ===== -/
abbrev xNet : Type := List Nat × Nat × Nat
abbrev xPart : Type := Nat × Nat × List Nat × Nat × Nat × List Nat
abbrev xLnk : Type := List Nat × Nat × Option xPart
abbrev xIns : Type := List Nat × List Nat × Nat × Bool × List xLnk
abbrev xMod : Type := List Nat × Nat × List xNet × List xNet × List (xPart × xPart) × List xIns
def xMod.nm (m : xMod) : List Nat := m.1
def xMod.pl (m : xMod) : Nat := m.2.1
def xMod.ports (m : xMod) : List xNet := m.2.2.1
def xMod.wires (m : xMod) : List xNet := m.2.2.2.1
def xMod.asg (m : xMod) : List (xPart × xPart) := m.2.2.2.2.1
def xMod.ins (m : xMod) : List xIns := m.2.2.2.2.2
def xMod.nets (m : xMod) : List xNet := m.ports ++ m.wires
def eb {α β : Type} (e : Except Nat α) (f : α → Except Nat β) : Except Nat β := match e with
  | .ok a => f a
  | .error x => .error x
def sp_name (T : xT) (p : Nat) : Except Nat (List Nat) := if lx_kind T p = 0 then .ok (lx_nm T p) else .error p
def sp_num (T : xT) (lo hi p : Nat) : Except Nat (Nat × Nat) := if lx_kind T p = 2 ∧ lo ≤ lx_num T p ∧ lx_num T p ≤ hi then .ok (lx_num T p, lx_nx T p) else .error p
def sp_is (T : xT) (c p : Nat) : Bool := decide (lx_kind T p = 3) && decide (T.1 p = c)
def sp_sign (T : xT) (c p : Nat) : Except Nat Nat := if sp_is T c p = true then .ok (lx_nx T p) else .error p
def sp_txt (T : xT) (l : List Nat) (p : Nat) : Bool := (decide (lx_kind T p = 0) || decide (lx_kind T p = 1)) && decide (lx_nm T p = l)
def sp_find (ns : List xNet) (nm : List Nat) : Option xNet := ns.find? fun x => decide (x.1 = nm)
def sp_netPart (T : xT) (c1 c2 : Nat) (ns : List xNet) (p : Nat) : Except Nat (xPart × Nat) :=
  eb (sp_name T p) fun nm => match sp_find ns nm with
  | none => .error p
  | some x => if x.2.1 = 3 then .error p else
    if sp_is T c1 (lx_nx T p) = true then
      eb (sp_num T 0 (x.2.2 - 1) (lx_nx T (lx_nx T p))) fun q =>
      if sp_is T c2 q.2 = true then eb (sp_num T 0 q.1 (lx_nx T q.2)) fun q2 => .ok ((2, p, nm, q.1, q2.1, []), q2.2)
      else .ok ((1, p, nm, q.1, q.1, []), q.2)
    else .ok ((0, p, nm, x.2.2 - 1, 0, []), lx_nx T p)
def sp_digits (T : xT) (pl lo hi p : Nat) : Except Nat (xPart × Nat) :=
  eb (sp_name T p) fun nm =>
  if nm.head? = some 98 ∧ (∀ c ∈ nm.tail, c = 48 ∨ c = 49) ∧ lo ≤ nm.tail.length ∧ nm.tail.length ≤ hi then .ok ((3, pl, [], nm.tail.length - 1, 0, nm.tail), lx_nx T p) else .error p
def sp_longPart (T : xT) (ns : List xNet) (p : Nat) : Except Nat (xPart × Nat) :=
  if lx_kind T p = 2 then eb (sp_num T 1 7 p) fun q => eb (sp_sign T 39 q.2) fun p2 => sp_digits T p q.1 q.1 p2
  else eb (sp_netPart T 91 58 ns p) fun q => if q.1.1 = 0 then .ok q else eb (sp_sign T 93 q.2) fun p2 => .ok (q.1, p2)
def sp_shortPart (T : xT) (ns : List xNet) (p : Nat) : Except Nat (xPart × Nat) :=
  if sp_is T 39 p = true then sp_digits T p 1 7 (lx_nx T p) else sp_netPart T 46 46 ns p
def sp_part (T : xT) (lng : Bool) (ns : List xNet) (p : Nat) : Except Nat (xPart × Nat) := if lng = true then sp_longPart T ns p else sp_shortPart T ns p
def sp_assign (T : xT) (lng : Bool) (m : xMod) (p : Nat) : Except Nat (xMod × Nat) :=
  if 8 ≤ m.asg.length then .error p else
  eb (sp_part T lng m.nets (lx_nx T p)) fun a => eb (if lng = true then sp_sign T 61 a.2 else .ok a.2) fun p2 =>
  eb (sp_part T lng m.nets p2) fun b => eb (sp_sign T 59 b.2) fun p3 => .ok ((m.nm, m.pl, m.ports, m.wires, m.asg ++ [(a.1, b.1)], m.ins), p3)
def sp_start (T : xT) (m : xMod) (p : Nat) : Except Nat ((List Nat × List Nat × Nat) × Nat) :=
  eb (sp_name T p) fun f => eb (sp_name T (lx_nx T p)) fun nm =>
  if 12 ≤ m.ins.length ∨ nm ∈ m.ins.map (fun i => i.2.1) then .error (lx_nx T p) else .ok ((f, nm, lx_nx T p), lx_nx T (lx_nx T p))
def sp_olink (T : xT) (lng : Bool) (ns : List xNet) (ls : List xLnk) (p : Nat) : Except Nat (List xLnk × Nat) :=
  if 16 ≤ ls.length then .error p else
  if sp_is T 45 p = true then .ok (ls ++ [([], p, none)], lx_nx T p) else
  eb (sp_part T lng ns p) fun a => .ok (ls ++ [([], p, some a.1)], a.2)
def sp_nlink (T : xT) (ns : List xNet) (ls : List xLnk) (p : Nat) : Except Nat (List xLnk × Nat) :=
  if 16 ≤ ls.length then .error p else
  eb (sp_sign T 46 p) fun p1 => eb (sp_name T p1) fun nm => if nm ∈ ls.map (fun x => x.1) then .error p1 else
  eb (sp_sign T 40 (lx_nx T p1)) fun p3 => if sp_is T 41 p3 = true then .ok (ls ++ [(nm, p1, none)], lx_nx T p3) else
  eb (sp_longPart T ns p3) fun a => eb (sp_sign T 41 a.2) fun p4 => .ok (ls ++ [(nm, p1, some a.1)], p4)
/-- one or more, with , between -/
def sp_loop {β : Type} (T : xT) (f : β → Nat → Except Nat (β × Nat)) : Nat → β → Nat → Except Nat (β × Nat)
  | 0, b, p => .ok (b, p)
  | k + 1, b, p => eb (f b p) fun q => if sp_is T 44 q.2 = true then sp_loop T f k q.1 (lx_nx T q.2) else .ok q
/-- none, or one or more -/
def sp_links (T : xT) (byN : Bool) (ns : List xNet) (p : Nat) : Except Nat (List xLnk × Nat) :=
  if sp_is T 41 p = true then .ok ([], p) else sp_loop T (fun ls p => if byN = true then sp_nlink T ns ls p else sp_olink T true ns ls p) 17 [] p
def sp_longIns (T : xT) (m : xMod) (p : Nat) : Except Nat (xMod × Nat) :=
  eb (sp_start T m p) fun q => eb (sp_sign T 40 q.2) fun p1 => eb (sp_links T (sp_is T 46 p1) m.nets p1) fun r =>
  eb (sp_sign T 41 r.2) fun p3 => eb (sp_sign T 59 p3) fun p4 => .ok ((m.nm, m.pl, m.ports, m.wires, m.asg, m.ins ++ [(q.1.1, q.1.2.1, q.1.2.2, sp_is T 46 p1, r.1)]), p4)
def sp_shortLinks (T : xT) (ns : List xNet) : Nat → List xLnk → Nat → Except Nat (List xLnk × Nat)
  | 0, ls, p => .ok (ls, p)
  | k + 1, ls, p => if sp_is T 59 p = true then .ok (ls, p) else eb (sp_olink T false ns ls p) fun q => sp_shortLinks T ns k q.1 q.2
def sp_shortIns (T : xT) (m : xMod) (p : Nat) : Except Nat (xMod × Nat) :=
  eb (sp_start T m (lx_nx T p)) fun q => eb (sp_shortLinks T m.nets 17 [] q.2) fun r =>
  eb (sp_sign T 59 r.2) fun p4 => .ok ((m.nm, m.pl, m.ports, m.wires, m.asg, m.ins ++ [(q.1.1, q.1.2.1, q.1.2.2, false, r.1)]), p4)
/-- a net may be taken -/
def sp_can (m : xMod) (nm : List Nat) : Bool := decide (m.nets.length < 16) && decide (sp_find m.nets nm = none)
def sp_port (T : xT) (m : xMod) (p : Nat) : Except Nat (xMod × Nat) :=
  eb (sp_name T p) fun nm => if sp_can m nm = true then .ok ((m.nm, m.pl, m.ports ++ [(nm, 3, 0)], m.wires, m.asg, m.ins), lx_nx T p) else .error p
def sp_wire (T : xT) (w : Nat) (m : xMod) (p : Nat) : Except Nat (xMod × Nat) :=
  eb (sp_name T p) fun nm => if sp_can m nm = true then .ok ((m.nm, m.pl, m.ports, m.wires ++ [(nm, 2, w)], m.asg, m.ins), lx_nx T p) else .error p
def sp_tell (T : xT) (s w : Nat) (m : xMod) (p : Nat) : Except Nat (xMod × Nat) :=
  eb (sp_name T p) fun nm => match sp_find m.nets nm with
  | none => .error p
  | some x => if x.2.1 = 3 then .ok ((m.nm, m.pl, m.ports.map (fun y => if y.1 = nm then (nm, s, w) else y), m.wires, m.asg, m.ins), lx_nx T p) else .error p
def sp_range (T : xT) (p : Nat) : Except Nat (Nat × Nat) :=
  if sp_is T 91 p = true then eb (sp_num T 0 7 (lx_nx T p)) fun q => eb (sp_sign T 58 q.2) fun p2 => eb (sp_num T 0 0 p2) fun q2 => eb (sp_sign T 93 q2.2) fun p4 => .ok (q.1 + 1, p4)
  else .ok (1, p)
def sp_nets (T : xT) (s : Nat) (m : xMod) (p : Nat) : Except Nat (xMod × Nat) :=
  eb (sp_range T (lx_nx T p)) fun w => eb (sp_loop T (fun m p => if s = 2 then sp_wire T w.1 m p else sp_tell T s w.1 m p) 17 m w.2) fun q =>
  eb (sp_sign T 59 q.2) fun p3 => .ok (q.1, p3)
def sp_shortNet (T : xT) (s : Nat) (m : xMod) (p : Nat) : Except Nat (xMod × Nat) :=
  eb (sp_name T (lx_nx T p)) fun nm => if sp_can m nm = true then
    eb (sp_num T 1 8 (lx_nx T (lx_nx T p))) fun w => eb (sp_sign T 59 w.2) fun p3 =>
    .ok (if s = 2 then (m.nm, m.pl, m.ports, m.wires ++ [(nm, s, w.1)], m.asg, m.ins) else (m.nm, m.pl, m.ports ++ [(nm, s, w.1)], m.wires, m.asg, m.ins), p3)
  else .error (lx_nx T p)
/-- the cursor of a text: modules that are read, the one that is being read, the place -/
abbrev xCur : Type := List xMod × Option xMod × Nat
def sp_mod (T : xT) (ms : List xMod) (p : Nat) : Except Nat (xMod × Nat) :=
  eb (sp_name T p) fun nm => if 8 ≤ ms.length ∨ nm ∈ ms.map (fun m => m.nm) then .error p else .ok ((nm, p, [], [], [], []), lx_nx T p)
def sp_longHead (T : xT) (ms : List xMod) (p : Nat) : Except Nat (xMod × Nat) :=
  if sp_txt T kw_module p = true then eb (sp_mod T ms (lx_nx T p)) fun q => eb (sp_sign T 40 q.2) fun p1 =>
    eb (if sp_is T 41 p1 = true then .ok (q.1, p1) else sp_loop T (sp_port T) 17 q.1 p1) fun r => eb (sp_sign T 41 r.2) fun p3 => eb (sp_sign T 59 p3) fun p4 => .ok (r.1, p4)
  else .error p
def sp_shortHead (T : xT) (ms : List xMod) (p : Nat) : Except Nat (xMod × Nat) :=
  if sp_txt T [109] p = true then eb (sp_mod T ms (lx_nx T p)) fun q => eb (sp_sign T 59 q.2) fun p1 => .ok (q.1, p1) else .error p
def sp_longEnd (T : xT) (m : xMod) (p : Nat) : Except Nat Nat := if (m.ports.any fun x => decide (x.2.1 = 3)) = true then .error p else .ok (lx_nx T p)
def sp_shortEnd (T : xT) (p : Nat) : Except Nat Nat := if sp_txt T [101] p = true then sp_sign T 59 (lx_nx T p) else .error p
def sp_item (m : Except Nat (xMod × Nat)) (ms : List xMod) : Except Nat xCur := eb m fun q => .ok (ms, some q.1, q.2)
def sp_piece (T : xT) (lng : Bool) (c : xCur) : Except Nat xCur := match c.2.1 with
  | none => sp_item (if lng = true then sp_longHead T c.1 c.2.2 else sp_shortHead T c.1 c.2.2) c.1
  | some m =>
    if lng = true then
      if sp_txt T kw_input c.2.2 = true then sp_item (sp_nets T 0 m c.2.2) c.1
      else if sp_txt T kw_output c.2.2 = true then sp_item (sp_nets T 1 m c.2.2) c.1
      else if sp_txt T kw_wire c.2.2 = true then sp_item (sp_nets T 2 m c.2.2) c.1
      else if sp_txt T kw_assign c.2.2 = true then sp_item (sp_assign T true m c.2.2) c.1
      else if sp_txt T kw_end c.2.2 = true then eb (sp_longEnd T m c.2.2) fun p => .ok (c.1 ++ [m], none, p)
      else sp_item (sp_longIns T m c.2.2) c.1
    else
      if sp_txt T [105] c.2.2 = true then sp_item (sp_shortNet T 0 m c.2.2) c.1
      else if sp_txt T [111] c.2.2 = true then sp_item (sp_shortNet T 1 m c.2.2) c.1
      else if sp_txt T [119] c.2.2 = true then sp_item (sp_shortNet T 2 m c.2.2) c.1
      else if sp_txt T [97] c.2.2 = true then sp_item (sp_assign T false m c.2.2) c.1
      else if sp_txt T [117] c.2.2 = true then sp_item (sp_shortIns T m c.2.2) c.1
      else eb (sp_shortEnd T c.2.2) fun p => .ok (c.1 ++ [m], none, p)
def sp_text (T : xT) (lng : Bool) : Nat → xCur → Except Nat (List xMod)
  | 0, c => .ok c.1
  | k + 1, c => if c.2.1 = none ∧ T.2 ≤ c.2.2 then .ok c.1 else eb (sp_piece T lng c) fun c2 => sp_text T lng k c2
/-! ===== the whole text ===== -/
def sp_w (x : xPart) : Nat := x.2.2.2.1 - x.2.2.2.2.1 + 1
def sp_kind (ms : List xMod) (f : List Nat) : Option Nat := ms.findIdx? fun m => decide (m.nm = f)
def sp_lmis (po : Option xNet) (l : xLnk) : Nat := match po with
  | none => l.2.1
  | some x => match l.2.2 with
    | none => 1001
    | some r => if sp_w r = x.2.2 then 1001 else r.2.1
def sp_imisL (k : xMod) (byN : Bool) : Nat → List xLnk → Nat
  | _, [] => 1001
  | j, l :: t => if sp_lmis (if byN = true then sp_find k.ports l.1 else k.ports[j]?) l = 1001 then sp_imisL k byN (j + 1) t else sp_lmis (if byN = true then sp_find k.ports l.1 else k.ports[j]?) l
def sp_imis (ms : List xMod) (i : xIns) : Nat := match sp_kind ms i.1 with
  | none => 1001
  | some j => match ms[j]? with
    | none => 1001
    | some k => if i.2.2.2.1 = false ∧ i.2.2.2.2.length < k.ports.length then i.2.2.1 else sp_imisL k i.2.2.2.1 0 i.2.2.2.2
def sp_mmis (ms : List xMod) (m : xMod) : Nat :=
  (m.ins.map (sp_imis ms)).foldl min ((m.asg.map fun a => if sp_w a.1 = sp_w a.2 then 1001 else a.2.2.1).foldl min 1001)
def sp_mis (ms : List xMod) : Nat := (ms.map (sp_mmis ms)).foldl min 1001
/-- module i has an instance of module j -/
def sp_has (ms : List xMod) (i j : Nat) : Bool := match ms[i]? with
  | none => false
  | some m => m.ins.any fun x => decide (sp_kind ms x.1 = some j)
