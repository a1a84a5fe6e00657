/-! ===== the state of the system as maps: K the kind of an address (0: not ours; 1 .. 12: an object of the class of that place in vwCl, less one; 13: a String constant; 14: the script; 20 ..: an array of the class's; 31, 33: an array of the reference's; 42: the law's own), I, J, R the fields by their numbers, L, AI, AJ, AR the arrays, and how many cells and slots there are ===== -/
abbrev xS : Type := (Nat → Nat) × (Nat → Nat → Int32) × (Nat → Nat → Int64) × (Nat → Nat → Option Nat) × (Nat → Nat) × (Nat → Nat → Int32) × (Nat → Nat → Int64) × (Nat → Nat → Option Nat) × Nat × Nat
def xS.K (σ : xS) : Nat → Nat := σ.1
def xS.I (σ : xS) : Nat → Nat → Int32 := σ.2.1
def xS.J (σ : xS) : Nat → Nat → Int64 := σ.2.2.1
def xS.R (σ : xS) : Nat → Nat → Option Nat := σ.2.2.2.1
def xS.L (σ : xS) : Nat → Nat := σ.2.2.2.2.1
def xS.AI (σ : xS) : Nat → Nat → Int32 := σ.2.2.2.2.2.1
def xS.AJ (σ : xS) : Nat → Nat → Int64 := σ.2.2.2.2.2.2.1
def xS.AR (σ : xS) : Nat → Nat → Option Nat := σ.2.2.2.2.2.2.2.1
def xS.sz (σ : xS) : Nat := σ.2.2.2.2.2.2.2.2.1
def xS.su (σ : xS) : Nat := σ.2.2.2.2.2.2.2.2.2
/-- a map of two places, changed at one -/
def x_up2 {α : Type} (f : Nat → Nat → α) (k a : Nat) (v : α) : Nat → Nat → α := fun k' a' => if k' = k then (if a' = a then v else f k' a') else f k' a'
theorem x_up2_self {α : Type} (f : Nat → Nat → α) (k a : Nat) (v : α) : x_up2 f k a v k a = v := by simp [x_up2]
theorem x_up2_k {α : Type} {f : Nat → Nat → α} {k a k' a' : Nat} {v : α} (h : k' ≠ k) : x_up2 f k a v k' a' = f k' a' := by simp [x_up2, h]
theorem x_up2_a {α : Type} {f : Nat → Nat → α} {k a k' a' : Nat} {v : α} (h : a' ≠ a) : x_up2 f k a v k' a' = f k' a' := by simp [x_up2, h]
def xS.setI (σ : xS) (k a : Nat) (v : Int32) : xS := (σ.K, x_up2 σ.I k a v, σ.J, σ.R, σ.L, σ.AI, σ.AJ, σ.AR, σ.sz, σ.su)
def xS.setJ (σ : xS) (k a : Nat) (v : Int64) : xS := (σ.K, σ.I, x_up2 σ.J k a v, σ.R, σ.L, σ.AI, σ.AJ, σ.AR, σ.sz, σ.su)
def xS.setR (σ : xS) (k a : Nat) (v : Option Nat) : xS := (σ.K, σ.I, σ.J, x_up2 σ.R k a v, σ.L, σ.AI, σ.AJ, σ.AR, σ.sz, σ.su)
def xS.setAI (σ : xS) (a i : Nat) (v : Int32) : xS := (σ.K, σ.I, σ.J, σ.R, σ.L, x_up2 σ.AI a i v, σ.AJ, σ.AR, σ.sz, σ.su)
def xS.setAJ (σ : xS) (a i : Nat) (v : Int64) : xS := (σ.K, σ.I, σ.J, σ.R, σ.L, σ.AI, x_up2 σ.AJ a i v, σ.AR, σ.sz, σ.su)
def xS.setAR (σ : xS) (a i : Nat) (v : Option Nat) : xS := (σ.K, σ.I, σ.J, σ.R, σ.L, σ.AI, σ.AJ, x_up2 σ.AR a i v, σ.sz, σ.su)
/-- a new object of kind k with n slots at the address σ.sz: all its fields 0 -/
def xS.newO (σ : xS) (k n : Nat) : xS := (va_up σ.K σ.sz k, fun f a => if a = σ.sz then 0 else σ.I f a, fun f a => if a = σ.sz then 0 else σ.J f a, fun f a => if a = σ.sz then none else σ.R f a, σ.L, σ.AI, σ.AJ, σ.AR, σ.sz + 1, σ.su + n)
/-- a new array of kind k and length n -/
def xS.newA (σ : xS) (k n : Nat) : xS := (va_up σ.K σ.sz k, σ.I, σ.J, σ.R, va_up σ.L σ.sz n, fun a i => if a = σ.sz then 0 else σ.AI a i, fun a i => if a = σ.sz then 0 else σ.AJ a i, fun a i => if a = σ.sz then none else σ.AR a i, σ.sz + 1, σ.su + n)
/-- a cell of n slots that is not ours (an exception) -/
def xS.skip (σ : xS) (n : Nat) : xS := (va_up σ.K σ.sz 0, σ.I, σ.J, σ.R, σ.L, σ.AI, σ.AJ, σ.AR, σ.sz + 1, σ.su + n)

theorem K_setI (σ : xS) (k a : Nat) (v : Int32) : (σ.setI k a v).K = σ.K := rfl
theorem I_setI (σ : xS) (k a : Nat) (v : Int32) : (σ.setI k a v).I = x_up2 σ.I k a v := rfl
theorem J_setI (σ : xS) (k a : Nat) (v : Int32) : (σ.setI k a v).J = σ.J := rfl
theorem R_setI (σ : xS) (k a : Nat) (v : Int32) : (σ.setI k a v).R = σ.R := rfl
theorem L_setI (σ : xS) (k a : Nat) (v : Int32) : (σ.setI k a v).L = σ.L := rfl
theorem AI_setI (σ : xS) (k a : Nat) (v : Int32) : (σ.setI k a v).AI = σ.AI := rfl
theorem AJ_setI (σ : xS) (k a : Nat) (v : Int32) : (σ.setI k a v).AJ = σ.AJ := rfl
theorem AR_setI (σ : xS) (k a : Nat) (v : Int32) : (σ.setI k a v).AR = σ.AR := rfl
theorem sz_setI (σ : xS) (k a : Nat) (v : Int32) : (σ.setI k a v).sz = σ.sz := rfl
theorem su_setI (σ : xS) (k a : Nat) (v : Int32) : (σ.setI k a v).su = σ.su := rfl
theorem K_setJ (σ : xS) (k a : Nat) (v : Int64) : (σ.setJ k a v).K = σ.K := rfl
theorem I_setJ (σ : xS) (k a : Nat) (v : Int64) : (σ.setJ k a v).I = σ.I := rfl
theorem J_setJ (σ : xS) (k a : Nat) (v : Int64) : (σ.setJ k a v).J = x_up2 σ.J k a v := rfl
theorem R_setJ (σ : xS) (k a : Nat) (v : Int64) : (σ.setJ k a v).R = σ.R := rfl
theorem L_setJ (σ : xS) (k a : Nat) (v : Int64) : (σ.setJ k a v).L = σ.L := rfl
theorem AI_setJ (σ : xS) (k a : Nat) (v : Int64) : (σ.setJ k a v).AI = σ.AI := rfl
theorem AJ_setJ (σ : xS) (k a : Nat) (v : Int64) : (σ.setJ k a v).AJ = σ.AJ := rfl
theorem AR_setJ (σ : xS) (k a : Nat) (v : Int64) : (σ.setJ k a v).AR = σ.AR := rfl
theorem sz_setJ (σ : xS) (k a : Nat) (v : Int64) : (σ.setJ k a v).sz = σ.sz := rfl
theorem su_setJ (σ : xS) (k a : Nat) (v : Int64) : (σ.setJ k a v).su = σ.su := rfl
theorem K_setR (σ : xS) (k a : Nat) (v : Option Nat) : (σ.setR k a v).K = σ.K := rfl
theorem I_setR (σ : xS) (k a : Nat) (v : Option Nat) : (σ.setR k a v).I = σ.I := rfl
theorem J_setR (σ : xS) (k a : Nat) (v : Option Nat) : (σ.setR k a v).J = σ.J := rfl
theorem R_setR (σ : xS) (k a : Nat) (v : Option Nat) : (σ.setR k a v).R = x_up2 σ.R k a v := rfl
theorem L_setR (σ : xS) (k a : Nat) (v : Option Nat) : (σ.setR k a v).L = σ.L := rfl
theorem AI_setR (σ : xS) (k a : Nat) (v : Option Nat) : (σ.setR k a v).AI = σ.AI := rfl
theorem AJ_setR (σ : xS) (k a : Nat) (v : Option Nat) : (σ.setR k a v).AJ = σ.AJ := rfl
theorem AR_setR (σ : xS) (k a : Nat) (v : Option Nat) : (σ.setR k a v).AR = σ.AR := rfl
theorem sz_setR (σ : xS) (k a : Nat) (v : Option Nat) : (σ.setR k a v).sz = σ.sz := rfl
theorem su_setR (σ : xS) (k a : Nat) (v : Option Nat) : (σ.setR k a v).su = σ.su := rfl
theorem K_setAI (σ : xS) (a i : Nat) (v : Int32) : (σ.setAI a i v).K = σ.K := rfl
theorem I_setAI (σ : xS) (a i : Nat) (v : Int32) : (σ.setAI a i v).I = σ.I := rfl
theorem J_setAI (σ : xS) (a i : Nat) (v : Int32) : (σ.setAI a i v).J = σ.J := rfl
theorem R_setAI (σ : xS) (a i : Nat) (v : Int32) : (σ.setAI a i v).R = σ.R := rfl
theorem L_setAI (σ : xS) (a i : Nat) (v : Int32) : (σ.setAI a i v).L = σ.L := rfl
theorem AI_setAI (σ : xS) (a i : Nat) (v : Int32) : (σ.setAI a i v).AI = x_up2 σ.AI a i v := rfl
theorem AJ_setAI (σ : xS) (a i : Nat) (v : Int32) : (σ.setAI a i v).AJ = σ.AJ := rfl
theorem AR_setAI (σ : xS) (a i : Nat) (v : Int32) : (σ.setAI a i v).AR = σ.AR := rfl
theorem sz_setAI (σ : xS) (a i : Nat) (v : Int32) : (σ.setAI a i v).sz = σ.sz := rfl
theorem su_setAI (σ : xS) (a i : Nat) (v : Int32) : (σ.setAI a i v).su = σ.su := rfl
theorem K_setAJ (σ : xS) (a i : Nat) (v : Int64) : (σ.setAJ a i v).K = σ.K := rfl
theorem I_setAJ (σ : xS) (a i : Nat) (v : Int64) : (σ.setAJ a i v).I = σ.I := rfl
theorem J_setAJ (σ : xS) (a i : Nat) (v : Int64) : (σ.setAJ a i v).J = σ.J := rfl
theorem R_setAJ (σ : xS) (a i : Nat) (v : Int64) : (σ.setAJ a i v).R = σ.R := rfl
theorem L_setAJ (σ : xS) (a i : Nat) (v : Int64) : (σ.setAJ a i v).L = σ.L := rfl
theorem AI_setAJ (σ : xS) (a i : Nat) (v : Int64) : (σ.setAJ a i v).AI = σ.AI := rfl
theorem AJ_setAJ (σ : xS) (a i : Nat) (v : Int64) : (σ.setAJ a i v).AJ = x_up2 σ.AJ a i v := rfl
theorem AR_setAJ (σ : xS) (a i : Nat) (v : Int64) : (σ.setAJ a i v).AR = σ.AR := rfl
theorem sz_setAJ (σ : xS) (a i : Nat) (v : Int64) : (σ.setAJ a i v).sz = σ.sz := rfl
theorem su_setAJ (σ : xS) (a i : Nat) (v : Int64) : (σ.setAJ a i v).su = σ.su := rfl
theorem K_setAR (σ : xS) (a i : Nat) (v : Option Nat) : (σ.setAR a i v).K = σ.K := rfl
theorem I_setAR (σ : xS) (a i : Nat) (v : Option Nat) : (σ.setAR a i v).I = σ.I := rfl
theorem J_setAR (σ : xS) (a i : Nat) (v : Option Nat) : (σ.setAR a i v).J = σ.J := rfl
theorem R_setAR (σ : xS) (a i : Nat) (v : Option Nat) : (σ.setAR a i v).R = σ.R := rfl
theorem L_setAR (σ : xS) (a i : Nat) (v : Option Nat) : (σ.setAR a i v).L = σ.L := rfl
theorem AI_setAR (σ : xS) (a i : Nat) (v : Option Nat) : (σ.setAR a i v).AI = σ.AI := rfl
theorem AJ_setAR (σ : xS) (a i : Nat) (v : Option Nat) : (σ.setAR a i v).AJ = σ.AJ := rfl
theorem AR_setAR (σ : xS) (a i : Nat) (v : Option Nat) : (σ.setAR a i v).AR = x_up2 σ.AR a i v := rfl
theorem sz_setAR (σ : xS) (a i : Nat) (v : Option Nat) : (σ.setAR a i v).sz = σ.sz := rfl
theorem su_setAR (σ : xS) (a i : Nat) (v : Option Nat) : (σ.setAR a i v).su = σ.su := rfl
theorem K_newO (σ : xS) (k n : Nat) : (σ.newO k n).K = va_up σ.K σ.sz k := rfl
theorem I_newO (σ : xS) (k n : Nat) : (σ.newO k n).I = fun f a => if a = σ.sz then 0 else σ.I f a := rfl
theorem J_newO (σ : xS) (k n : Nat) : (σ.newO k n).J = fun f a => if a = σ.sz then 0 else σ.J f a := rfl
theorem R_newO (σ : xS) (k n : Nat) : (σ.newO k n).R = fun f a => if a = σ.sz then none else σ.R f a := rfl
theorem L_newO (σ : xS) (k n : Nat) : (σ.newO k n).L = σ.L := rfl
theorem AI_newO (σ : xS) (k n : Nat) : (σ.newO k n).AI = σ.AI := rfl
theorem AJ_newO (σ : xS) (k n : Nat) : (σ.newO k n).AJ = σ.AJ := rfl
theorem AR_newO (σ : xS) (k n : Nat) : (σ.newO k n).AR = σ.AR := rfl
theorem sz_newO (σ : xS) (k n : Nat) : (σ.newO k n).sz = σ.sz + 1 := rfl
theorem su_newO (σ : xS) (k n : Nat) : (σ.newO k n).su = σ.su + n := rfl
theorem K_newA (σ : xS) (k n : Nat) : (σ.newA k n).K = va_up σ.K σ.sz k := rfl
theorem I_newA (σ : xS) (k n : Nat) : (σ.newA k n).I = σ.I := rfl
theorem J_newA (σ : xS) (k n : Nat) : (σ.newA k n).J = σ.J := rfl
theorem R_newA (σ : xS) (k n : Nat) : (σ.newA k n).R = σ.R := rfl
theorem L_newA (σ : xS) (k n : Nat) : (σ.newA k n).L = va_up σ.L σ.sz n := rfl
theorem AI_newA (σ : xS) (k n : Nat) : (σ.newA k n).AI = fun a i => if a = σ.sz then 0 else σ.AI a i := rfl
theorem AJ_newA (σ : xS) (k n : Nat) : (σ.newA k n).AJ = fun a i => if a = σ.sz then 0 else σ.AJ a i := rfl
theorem AR_newA (σ : xS) (k n : Nat) : (σ.newA k n).AR = fun a i => if a = σ.sz then none else σ.AR a i := rfl
theorem sz_newA (σ : xS) (k n : Nat) : (σ.newA k n).sz = σ.sz + 1 := rfl
theorem su_newA (σ : xS) (k n : Nat) : (σ.newA k n).su = σ.su + n := rfl
theorem K_skip (σ : xS) (n : Nat) : (σ.skip n).K = va_up σ.K σ.sz 0 := rfl
theorem I_skip (σ : xS) (n : Nat) : (σ.skip n).I = σ.I := rfl
theorem J_skip (σ : xS) (n : Nat) : (σ.skip n).J = σ.J := rfl
theorem R_skip (σ : xS) (n : Nat) : (σ.skip n).R = σ.R := rfl
theorem L_skip (σ : xS) (n : Nat) : (σ.skip n).L = σ.L := rfl
theorem AI_skip (σ : xS) (n : Nat) : (σ.skip n).AI = σ.AI := rfl
theorem AJ_skip (σ : xS) (n : Nat) : (σ.skip n).AJ = σ.AJ := rfl
theorem AR_skip (σ : xS) (n : Nat) : (σ.skip n).AR = σ.AR := rfl
theorem sz_skip (σ : xS) (n : Nat) : (σ.skip n).sz = σ.sz + 1 := rfl
theorem su_skip (σ : xS) (n : Nat) : (σ.skip n).su = σ.su + n := rfl
/-- the fields of an object, in the order of its class -/
def xF (k : Nat) (σ : xS) (a : Nat) : List Value := match k with
  | 1 => [va_rf (σ.R 0 a), .int (σ.I 1 a)]
  | 2 => [.long (σ.J 100 a), .long (σ.J 101 a), .int (σ.I 102 a), .int (σ.I 103 a), va_rf (σ.R 104 a), .int (σ.I 105 a), va_rf (σ.R 106 a)]
  | 3 => [.long (σ.J 200 a), .int (σ.I 201 a), va_rf (σ.R 202 a)]
  | 4 => [va_rf (σ.R 300 a), va_rf (σ.R 301 a), va_rf (σ.R 302 a)]
  | 5 => [.long (σ.J 400 a), .int (σ.I 401 a), .int (σ.I 402 a), .int (σ.I 403 a)]
  | 6 => [.int (σ.I 500 a), .long (σ.J 501 a), .int (σ.I 502 a), va_rf (σ.R 503 a), .int (σ.I 504 a), .int (σ.I 505 a), .int (σ.I 506 a), va_rf (σ.R 507 a), va_rf (σ.R 508 a), .int (σ.I 509 a), va_rf (σ.R 510 a), .int (σ.I 511 a), .int (σ.I 512 a)]
  | 7 => [.int (σ.I 600 a), .int (σ.I 601 a), va_rf (σ.R 602 a), .int (σ.I 603 a), .int (σ.I 604 a), .int (σ.I 605 a)]
  | 8 => [.int (σ.I 700 a), .int (σ.I 701 a), .int (σ.I 702 a)]
  | 9 => [va_rf (σ.R 300 a), va_rf (σ.R 301 a), va_rf (σ.R 302 a)]
  | 10 => [va_rf (σ.R 900 a), .int (σ.I 901 a), va_rf (σ.R 902 a), va_rf (σ.R 903 a), va_rf (σ.R 904 a), .int (σ.I 905 a), .int (σ.I 906 a)]
  | 11 => [va_rf (σ.R 1000 a), va_rf (σ.R 1001 a), va_rf (σ.R 1002 a), va_rf (σ.R 1003 a), va_rf (σ.R 1004 a)]
  | 12 => [.int (σ.I 1100 a), va_rf (σ.R 1101 a), .int (σ.I 1102 a), .int (σ.I 1103 a), va_rf (σ.R 1104 a), va_rf (σ.R 1105 a), va_rf (σ.R 1106 a), va_rf (σ.R 1107 a), va_rf (σ.R 1108 a), va_rf (σ.R 1109 a), va_rf (σ.R 1110 a), va_rf (σ.R 1111 a), va_rf (σ.R 1112 a), va_rf (σ.R 1113 a), va_rf (σ.R 1114 a), va_rf (σ.R 1115 a), va_rf (σ.R 1116 a), va_rf (σ.R 1117 a), va_rf (σ.R 1118 a), va_rf (σ.R 1119 a), va_rf (σ.R 1120 a), va_rf (σ.R 1121 a), va_rf (σ.R 1122 a), va_rf (σ.R 1123 a), va_rf (σ.R 1124 a), va_rf (σ.R 1125 a), va_rf (σ.R 1126 a), va_rf (σ.R 1127 a), va_rf (σ.R 1128 a), va_rf (σ.R 1129 a), va_rf (σ.R 1130 a), va_rf (σ.R 1131 a), va_rf (σ.R 1132 a), va_rf (σ.R 1133 a), .int (σ.I 1134 a), .int (σ.I 1135 a), .int (σ.I 1136 a), .int (σ.I 1137 a), .int (σ.I 1138 a), .int (σ.I 1139 a), .int (σ.I 1140 a), .int (σ.I 1141 a), .int (σ.I 1142 a), .int (σ.I 1143 a), .int (σ.I 1144 a)]
  | _ => []
/-- what the heap holds at an address -/
def xE (cy : Nat → ClassId) (σ : xS) (a : Nat) : Option va_E :=
  if σ.K a = 0 ∨ (12 < σ.K a ∧ σ.K a < 20) then none
  else if σ.K a < 13 then some (.inr (σ.K a - 1, xF (σ.K a) σ a))
  else if σ.K a = 22 ∨ σ.K a = 42 then some (.inl (cy 22, σ.L a, .inr (.inl (σ.AJ a))))
  else if σ.K a < 24 then some (.inl (cy (σ.K a), σ.L a, .inl (σ.AI a)))
  else if σ.K a < 30 then some (.inl (cy (σ.K a), σ.L a, .inr (.inr (.inr (.inr (σ.AR a))))))
  else some (.inl (cy (σ.K a - 10), σ.L a, .inl (σ.AI a)))
theorem xE_1 {cy : Nat → ClassId} {σ : xS} {a : Nat} (h : σ.K a = 1) : xE cy σ a = some (.inr (0, [va_rf (σ.R 0 a), .int (σ.I 1 a)])) := by simp [xE, xF, h]
theorem xE_2 {cy : Nat → ClassId} {σ : xS} {a : Nat} (h : σ.K a = 2) : xE cy σ a = some (.inr (1, [.long (σ.J 100 a), .long (σ.J 101 a), .int (σ.I 102 a), .int (σ.I 103 a), va_rf (σ.R 104 a), .int (σ.I 105 a), va_rf (σ.R 106 a)])) := by simp [xE, xF, h]
theorem xE_3 {cy : Nat → ClassId} {σ : xS} {a : Nat} (h : σ.K a = 3) : xE cy σ a = some (.inr (2, [.long (σ.J 200 a), .int (σ.I 201 a), va_rf (σ.R 202 a)])) := by simp [xE, xF, h]
theorem xE_4 {cy : Nat → ClassId} {σ : xS} {a : Nat} (h : σ.K a = 4) : xE cy σ a = some (.inr (3, [va_rf (σ.R 300 a), va_rf (σ.R 301 a), va_rf (σ.R 302 a)])) := by simp [xE, xF, h]
theorem xE_5 {cy : Nat → ClassId} {σ : xS} {a : Nat} (h : σ.K a = 5) : xE cy σ a = some (.inr (4, [.long (σ.J 400 a), .int (σ.I 401 a), .int (σ.I 402 a), .int (σ.I 403 a)])) := by simp [xE, xF, h]
theorem xE_6 {cy : Nat → ClassId} {σ : xS} {a : Nat} (h : σ.K a = 6) : xE cy σ a = some (.inr (5, [.int (σ.I 500 a), .long (σ.J 501 a), .int (σ.I 502 a), va_rf (σ.R 503 a), .int (σ.I 504 a), .int (σ.I 505 a), .int (σ.I 506 a), va_rf (σ.R 507 a), va_rf (σ.R 508 a), .int (σ.I 509 a), va_rf (σ.R 510 a), .int (σ.I 511 a), .int (σ.I 512 a)])) := by simp [xE, xF, h]
theorem xE_7 {cy : Nat → ClassId} {σ : xS} {a : Nat} (h : σ.K a = 7) : xE cy σ a = some (.inr (6, [.int (σ.I 600 a), .int (σ.I 601 a), va_rf (σ.R 602 a), .int (σ.I 603 a), .int (σ.I 604 a), .int (σ.I 605 a)])) := by simp [xE, xF, h]
theorem xE_8 {cy : Nat → ClassId} {σ : xS} {a : Nat} (h : σ.K a = 8) : xE cy σ a = some (.inr (7, [.int (σ.I 700 a), .int (σ.I 701 a), .int (σ.I 702 a)])) := by simp [xE, xF, h]
theorem xE_9 {cy : Nat → ClassId} {σ : xS} {a : Nat} (h : σ.K a = 9) : xE cy σ a = some (.inr (8, [va_rf (σ.R 300 a), va_rf (σ.R 301 a), va_rf (σ.R 302 a)])) := by simp [xE, xF, h]
theorem xE_10 {cy : Nat → ClassId} {σ : xS} {a : Nat} (h : σ.K a = 10) : xE cy σ a = some (.inr (9, [va_rf (σ.R 900 a), .int (σ.I 901 a), va_rf (σ.R 902 a), va_rf (σ.R 903 a), va_rf (σ.R 904 a), .int (σ.I 905 a), .int (σ.I 906 a)])) := by simp [xE, xF, h]
theorem xE_11 {cy : Nat → ClassId} {σ : xS} {a : Nat} (h : σ.K a = 11) : xE cy σ a = some (.inr (10, [va_rf (σ.R 1000 a), va_rf (σ.R 1001 a), va_rf (σ.R 1002 a), va_rf (σ.R 1003 a), va_rf (σ.R 1004 a)])) := by simp [xE, xF, h]
theorem xE_12 {cy : Nat → ClassId} {σ : xS} {a : Nat} (h : σ.K a = 12) : xE cy σ a = some (.inr (11, [.int (σ.I 1100 a), va_rf (σ.R 1101 a), .int (σ.I 1102 a), .int (σ.I 1103 a), va_rf (σ.R 1104 a), va_rf (σ.R 1105 a), va_rf (σ.R 1106 a), va_rf (σ.R 1107 a), va_rf (σ.R 1108 a), va_rf (σ.R 1109 a), va_rf (σ.R 1110 a), va_rf (σ.R 1111 a), va_rf (σ.R 1112 a), va_rf (σ.R 1113 a), va_rf (σ.R 1114 a), va_rf (σ.R 1115 a), va_rf (σ.R 1116 a), va_rf (σ.R 1117 a), va_rf (σ.R 1118 a), va_rf (σ.R 1119 a), va_rf (σ.R 1120 a), va_rf (σ.R 1121 a), va_rf (σ.R 1122 a), va_rf (σ.R 1123 a), va_rf (σ.R 1124 a), va_rf (σ.R 1125 a), va_rf (σ.R 1126 a), va_rf (σ.R 1127 a), va_rf (σ.R 1128 a), va_rf (σ.R 1129 a), va_rf (σ.R 1130 a), va_rf (σ.R 1131 a), va_rf (σ.R 1132 a), va_rf (σ.R 1133 a), .int (σ.I 1134 a), .int (σ.I 1135 a), .int (σ.I 1136 a), .int (σ.I 1137 a), .int (σ.I 1138 a), .int (σ.I 1139 a), .int (σ.I 1140 a), .int (σ.I 1141 a), .int (σ.I 1142 a), .int (σ.I 1143 a), .int (σ.I 1144 a)])) := by simp [xE, xF, h]
theorem xE_22 {cy : Nat → ClassId} {σ : xS} {a : Nat} (h : σ.K a = 22) : xE cy σ a = some (.inl (cy 22, σ.L a, .inr (.inl (σ.AJ a)))) := by simp [xE, h]
theorem xE_42 {cy : Nat → ClassId} {σ : xS} {a : Nat} (h : σ.K a = 42) : xE cy σ a = some (.inl (cy 22, σ.L a, .inr (.inl (σ.AJ a)))) := by simp [xE, h]
theorem xE_31 {cy : Nat → ClassId} {σ : xS} {a : Nat} (h : σ.K a = 31) : xE cy σ a = some (.inl (cy 21, σ.L a, .inl (σ.AI a))) := by simp [xE, h]
theorem xE_33 {cy : Nat → ClassId} {σ : xS} {a : Nat} (h : σ.K a = 33) : xE cy σ a = some (.inl (cy 23, σ.L a, .inl (σ.AI a))) := by simp [xE, h]
theorem xE_20 {cy : Nat → ClassId} {σ : xS} {a : Nat} (h : σ.K a = 20) : xE cy σ a = some (.inl (cy 20, σ.L a, .inl (σ.AI a))) := by simp [xE, h]
theorem xE_21 {cy : Nat → ClassId} {σ : xS} {a : Nat} (h : σ.K a = 21) : xE cy σ a = some (.inl (cy 21, σ.L a, .inl (σ.AI a))) := by simp [xE, h]
theorem xE_23 {cy : Nat → ClassId} {σ : xS} {a : Nat} (h : σ.K a = 23) : xE cy σ a = some (.inl (cy 23, σ.L a, .inl (σ.AI a))) := by simp [xE, h]
theorem xE_24 {cy : Nat → ClassId} {σ : xS} {a : Nat} (h : σ.K a = 24) : xE cy σ a = some (.inl (cy 24, σ.L a, .inr (.inr (.inr (.inr (σ.AR a)))))) := by simp [xE, h]
theorem xE_25 {cy : Nat → ClassId} {σ : xS} {a : Nat} (h : σ.K a = 25) : xE cy σ a = some (.inl (cy 25, σ.L a, .inr (.inr (.inr (.inr (σ.AR a)))))) := by simp [xE, h]
theorem xE_26 {cy : Nat → ClassId} {σ : xS} {a : Nat} (h : σ.K a = 26) : xE cy σ a = some (.inl (cy 26, σ.L a, .inr (.inr (.inr (.inr (σ.AR a)))))) := by simp [xE, h]
theorem xE_27 {cy : Nat → ClassId} {σ : xS} {a : Nat} (h : σ.K a = 27) : xE cy σ a = some (.inl (cy 27, σ.L a, .inr (.inr (.inr (.inr (σ.AR a)))))) := by simp [xE, h]
theorem xE_28 {cy : Nat → ClassId} {σ : xS} {a : Nat} (h : σ.K a = 28) : xE cy σ a = some (.inl (cy 28, σ.L a, .inr (.inr (.inr (.inr (σ.AR a)))))) := by simp [xE, h]
theorem xP_1_0 {cy : Nat → ClassId} {σ : xS} {a : Nat} (v : Option Nat) (h : σ.K a = 1) : xE cy (σ.setR 0 a v) a = some (.inr (0, (xF 1 σ a).set 0 (va_rf v))) := by rw [xE_1 (σ := σ.setR 0 a v) h]; simp [xF, I_setR, J_setR, R_setR, x_up2]
theorem xP_1_1 {cy : Nat → ClassId} {σ : xS} {a : Nat} (v : Int32) (h : σ.K a = 1) : xE cy (σ.setI 1 a v) a = some (.inr (0, (xF 1 σ a).set 1 (.int v))) := by rw [xE_1 (σ := σ.setI 1 a v) h]; simp [xF, I_setI, J_setI, R_setI, x_up2]
theorem xP_2_0 {cy : Nat → ClassId} {σ : xS} {a : Nat} (v : Int64) (h : σ.K a = 2) : xE cy (σ.setJ 100 a v) a = some (.inr (1, (xF 2 σ a).set 0 (.long v))) := by rw [xE_2 (σ := σ.setJ 100 a v) h]; simp [xF, I_setJ, J_setJ, R_setJ, x_up2]
theorem xP_2_1 {cy : Nat → ClassId} {σ : xS} {a : Nat} (v : Int64) (h : σ.K a = 2) : xE cy (σ.setJ 101 a v) a = some (.inr (1, (xF 2 σ a).set 1 (.long v))) := by rw [xE_2 (σ := σ.setJ 101 a v) h]; simp [xF, I_setJ, J_setJ, R_setJ, x_up2]
theorem xP_2_2 {cy : Nat → ClassId} {σ : xS} {a : Nat} (v : Int32) (h : σ.K a = 2) : xE cy (σ.setI 102 a v) a = some (.inr (1, (xF 2 σ a).set 2 (.int v))) := by rw [xE_2 (σ := σ.setI 102 a v) h]; simp [xF, I_setI, J_setI, R_setI, x_up2]
theorem xP_2_3 {cy : Nat → ClassId} {σ : xS} {a : Nat} (v : Int32) (h : σ.K a = 2) : xE cy (σ.setI 103 a v) a = some (.inr (1, (xF 2 σ a).set 3 (.int v))) := by rw [xE_2 (σ := σ.setI 103 a v) h]; simp [xF, I_setI, J_setI, R_setI, x_up2]
theorem xP_2_4 {cy : Nat → ClassId} {σ : xS} {a : Nat} (v : Option Nat) (h : σ.K a = 2) : xE cy (σ.setR 104 a v) a = some (.inr (1, (xF 2 σ a).set 4 (va_rf v))) := by rw [xE_2 (σ := σ.setR 104 a v) h]; simp [xF, I_setR, J_setR, R_setR, x_up2]
theorem xP_2_5 {cy : Nat → ClassId} {σ : xS} {a : Nat} (v : Int32) (h : σ.K a = 2) : xE cy (σ.setI 105 a v) a = some (.inr (1, (xF 2 σ a).set 5 (.int v))) := by rw [xE_2 (σ := σ.setI 105 a v) h]; simp [xF, I_setI, J_setI, R_setI, x_up2]
theorem xP_2_6 {cy : Nat → ClassId} {σ : xS} {a : Nat} (v : Option Nat) (h : σ.K a = 2) : xE cy (σ.setR 106 a v) a = some (.inr (1, (xF 2 σ a).set 6 (va_rf v))) := by rw [xE_2 (σ := σ.setR 106 a v) h]; simp [xF, I_setR, J_setR, R_setR, x_up2]
theorem xP_3_0 {cy : Nat → ClassId} {σ : xS} {a : Nat} (v : Int64) (h : σ.K a = 3) : xE cy (σ.setJ 200 a v) a = some (.inr (2, (xF 3 σ a).set 0 (.long v))) := by rw [xE_3 (σ := σ.setJ 200 a v) h]; simp [xF, I_setJ, J_setJ, R_setJ, x_up2]
theorem xP_3_1 {cy : Nat → ClassId} {σ : xS} {a : Nat} (v : Int32) (h : σ.K a = 3) : xE cy (σ.setI 201 a v) a = some (.inr (2, (xF 3 σ a).set 1 (.int v))) := by rw [xE_3 (σ := σ.setI 201 a v) h]; simp [xF, I_setI, J_setI, R_setI, x_up2]
theorem xP_3_2 {cy : Nat → ClassId} {σ : xS} {a : Nat} (v : Option Nat) (h : σ.K a = 3) : xE cy (σ.setR 202 a v) a = some (.inr (2, (xF 3 σ a).set 2 (va_rf v))) := by rw [xE_3 (σ := σ.setR 202 a v) h]; simp [xF, I_setR, J_setR, R_setR, x_up2]
theorem xP_4_0 {cy : Nat → ClassId} {σ : xS} {a : Nat} (v : Option Nat) (h : σ.K a = 4) : xE cy (σ.setR 300 a v) a = some (.inr (3, (xF 4 σ a).set 0 (va_rf v))) := by rw [xE_4 (σ := σ.setR 300 a v) h]; simp [xF, I_setR, J_setR, R_setR, x_up2]
theorem xP_4_1 {cy : Nat → ClassId} {σ : xS} {a : Nat} (v : Option Nat) (h : σ.K a = 4) : xE cy (σ.setR 301 a v) a = some (.inr (3, (xF 4 σ a).set 1 (va_rf v))) := by rw [xE_4 (σ := σ.setR 301 a v) h]; simp [xF, I_setR, J_setR, R_setR, x_up2]
theorem xP_4_2 {cy : Nat → ClassId} {σ : xS} {a : Nat} (v : Option Nat) (h : σ.K a = 4) : xE cy (σ.setR 302 a v) a = some (.inr (3, (xF 4 σ a).set 2 (va_rf v))) := by rw [xE_4 (σ := σ.setR 302 a v) h]; simp [xF, I_setR, J_setR, R_setR, x_up2]
theorem xP_5_0 {cy : Nat → ClassId} {σ : xS} {a : Nat} (v : Int64) (h : σ.K a = 5) : xE cy (σ.setJ 400 a v) a = some (.inr (4, (xF 5 σ a).set 0 (.long v))) := by rw [xE_5 (σ := σ.setJ 400 a v) h]; simp [xF, I_setJ, J_setJ, R_setJ, x_up2]
theorem xP_5_1 {cy : Nat → ClassId} {σ : xS} {a : Nat} (v : Int32) (h : σ.K a = 5) : xE cy (σ.setI 401 a v) a = some (.inr (4, (xF 5 σ a).set 1 (.int v))) := by rw [xE_5 (σ := σ.setI 401 a v) h]; simp [xF, I_setI, J_setI, R_setI, x_up2]
theorem xP_5_2 {cy : Nat → ClassId} {σ : xS} {a : Nat} (v : Int32) (h : σ.K a = 5) : xE cy (σ.setI 402 a v) a = some (.inr (4, (xF 5 σ a).set 2 (.int v))) := by rw [xE_5 (σ := σ.setI 402 a v) h]; simp [xF, I_setI, J_setI, R_setI, x_up2]
theorem xP_5_3 {cy : Nat → ClassId} {σ : xS} {a : Nat} (v : Int32) (h : σ.K a = 5) : xE cy (σ.setI 403 a v) a = some (.inr (4, (xF 5 σ a).set 3 (.int v))) := by rw [xE_5 (σ := σ.setI 403 a v) h]; simp [xF, I_setI, J_setI, R_setI, x_up2]
theorem xP_6_0 {cy : Nat → ClassId} {σ : xS} {a : Nat} (v : Int32) (h : σ.K a = 6) : xE cy (σ.setI 500 a v) a = some (.inr (5, (xF 6 σ a).set 0 (.int v))) := by rw [xE_6 (σ := σ.setI 500 a v) h]; simp [xF, I_setI, J_setI, R_setI, x_up2]
theorem xP_6_1 {cy : Nat → ClassId} {σ : xS} {a : Nat} (v : Int64) (h : σ.K a = 6) : xE cy (σ.setJ 501 a v) a = some (.inr (5, (xF 6 σ a).set 1 (.long v))) := by rw [xE_6 (σ := σ.setJ 501 a v) h]; simp [xF, I_setJ, J_setJ, R_setJ, x_up2]
theorem xP_6_2 {cy : Nat → ClassId} {σ : xS} {a : Nat} (v : Int32) (h : σ.K a = 6) : xE cy (σ.setI 502 a v) a = some (.inr (5, (xF 6 σ a).set 2 (.int v))) := by rw [xE_6 (σ := σ.setI 502 a v) h]; simp [xF, I_setI, J_setI, R_setI, x_up2]
theorem xP_6_3 {cy : Nat → ClassId} {σ : xS} {a : Nat} (v : Option Nat) (h : σ.K a = 6) : xE cy (σ.setR 503 a v) a = some (.inr (5, (xF 6 σ a).set 3 (va_rf v))) := by rw [xE_6 (σ := σ.setR 503 a v) h]; simp [xF, I_setR, J_setR, R_setR, x_up2]
theorem xP_6_4 {cy : Nat → ClassId} {σ : xS} {a : Nat} (v : Int32) (h : σ.K a = 6) : xE cy (σ.setI 504 a v) a = some (.inr (5, (xF 6 σ a).set 4 (.int v))) := by rw [xE_6 (σ := σ.setI 504 a v) h]; simp [xF, I_setI, J_setI, R_setI, x_up2]
theorem xP_6_5 {cy : Nat → ClassId} {σ : xS} {a : Nat} (v : Int32) (h : σ.K a = 6) : xE cy (σ.setI 505 a v) a = some (.inr (5, (xF 6 σ a).set 5 (.int v))) := by rw [xE_6 (σ := σ.setI 505 a v) h]; simp [xF, I_setI, J_setI, R_setI, x_up2]
theorem xP_6_6 {cy : Nat → ClassId} {σ : xS} {a : Nat} (v : Int32) (h : σ.K a = 6) : xE cy (σ.setI 506 a v) a = some (.inr (5, (xF 6 σ a).set 6 (.int v))) := by rw [xE_6 (σ := σ.setI 506 a v) h]; simp [xF, I_setI, J_setI, R_setI, x_up2]
theorem xP_6_7 {cy : Nat → ClassId} {σ : xS} {a : Nat} (v : Option Nat) (h : σ.K a = 6) : xE cy (σ.setR 507 a v) a = some (.inr (5, (xF 6 σ a).set 7 (va_rf v))) := by rw [xE_6 (σ := σ.setR 507 a v) h]; simp [xF, I_setR, J_setR, R_setR, x_up2]
theorem xP_6_8 {cy : Nat → ClassId} {σ : xS} {a : Nat} (v : Option Nat) (h : σ.K a = 6) : xE cy (σ.setR 508 a v) a = some (.inr (5, (xF 6 σ a).set 8 (va_rf v))) := by rw [xE_6 (σ := σ.setR 508 a v) h]; simp [xF, I_setR, J_setR, R_setR, x_up2]
theorem xP_6_9 {cy : Nat → ClassId} {σ : xS} {a : Nat} (v : Int32) (h : σ.K a = 6) : xE cy (σ.setI 509 a v) a = some (.inr (5, (xF 6 σ a).set 9 (.int v))) := by rw [xE_6 (σ := σ.setI 509 a v) h]; simp [xF, I_setI, J_setI, R_setI, x_up2]
theorem xP_6_10 {cy : Nat → ClassId} {σ : xS} {a : Nat} (v : Option Nat) (h : σ.K a = 6) : xE cy (σ.setR 510 a v) a = some (.inr (5, (xF 6 σ a).set 10 (va_rf v))) := by rw [xE_6 (σ := σ.setR 510 a v) h]; simp [xF, I_setR, J_setR, R_setR, x_up2]
theorem xP_6_11 {cy : Nat → ClassId} {σ : xS} {a : Nat} (v : Int32) (h : σ.K a = 6) : xE cy (σ.setI 511 a v) a = some (.inr (5, (xF 6 σ a).set 11 (.int v))) := by rw [xE_6 (σ := σ.setI 511 a v) h]; simp [xF, I_setI, J_setI, R_setI, x_up2]
theorem xP_6_12 {cy : Nat → ClassId} {σ : xS} {a : Nat} (v : Int32) (h : σ.K a = 6) : xE cy (σ.setI 512 a v) a = some (.inr (5, (xF 6 σ a).set 12 (.int v))) := by rw [xE_6 (σ := σ.setI 512 a v) h]; simp [xF, I_setI, J_setI, R_setI, x_up2]
theorem xP_7_0 {cy : Nat → ClassId} {σ : xS} {a : Nat} (v : Int32) (h : σ.K a = 7) : xE cy (σ.setI 600 a v) a = some (.inr (6, (xF 7 σ a).set 0 (.int v))) := by rw [xE_7 (σ := σ.setI 600 a v) h]; simp [xF, I_setI, J_setI, R_setI, x_up2]
theorem xP_7_1 {cy : Nat → ClassId} {σ : xS} {a : Nat} (v : Int32) (h : σ.K a = 7) : xE cy (σ.setI 601 a v) a = some (.inr (6, (xF 7 σ a).set 1 (.int v))) := by rw [xE_7 (σ := σ.setI 601 a v) h]; simp [xF, I_setI, J_setI, R_setI, x_up2]
theorem xP_7_2 {cy : Nat → ClassId} {σ : xS} {a : Nat} (v : Option Nat) (h : σ.K a = 7) : xE cy (σ.setR 602 a v) a = some (.inr (6, (xF 7 σ a).set 2 (va_rf v))) := by rw [xE_7 (σ := σ.setR 602 a v) h]; simp [xF, I_setR, J_setR, R_setR, x_up2]
theorem xP_7_3 {cy : Nat → ClassId} {σ : xS} {a : Nat} (v : Int32) (h : σ.K a = 7) : xE cy (σ.setI 603 a v) a = some (.inr (6, (xF 7 σ a).set 3 (.int v))) := by rw [xE_7 (σ := σ.setI 603 a v) h]; simp [xF, I_setI, J_setI, R_setI, x_up2]
theorem xP_7_4 {cy : Nat → ClassId} {σ : xS} {a : Nat} (v : Int32) (h : σ.K a = 7) : xE cy (σ.setI 604 a v) a = some (.inr (6, (xF 7 σ a).set 4 (.int v))) := by rw [xE_7 (σ := σ.setI 604 a v) h]; simp [xF, I_setI, J_setI, R_setI, x_up2]
theorem xP_7_5 {cy : Nat → ClassId} {σ : xS} {a : Nat} (v : Int32) (h : σ.K a = 7) : xE cy (σ.setI 605 a v) a = some (.inr (6, (xF 7 σ a).set 5 (.int v))) := by rw [xE_7 (σ := σ.setI 605 a v) h]; simp [xF, I_setI, J_setI, R_setI, x_up2]
theorem xP_8_0 {cy : Nat → ClassId} {σ : xS} {a : Nat} (v : Int32) (h : σ.K a = 8) : xE cy (σ.setI 700 a v) a = some (.inr (7, (xF 8 σ a).set 0 (.int v))) := by rw [xE_8 (σ := σ.setI 700 a v) h]; simp [xF, I_setI, J_setI, R_setI, x_up2]
theorem xP_8_1 {cy : Nat → ClassId} {σ : xS} {a : Nat} (v : Int32) (h : σ.K a = 8) : xE cy (σ.setI 701 a v) a = some (.inr (7, (xF 8 σ a).set 1 (.int v))) := by rw [xE_8 (σ := σ.setI 701 a v) h]; simp [xF, I_setI, J_setI, R_setI, x_up2]
theorem xP_8_2 {cy : Nat → ClassId} {σ : xS} {a : Nat} (v : Int32) (h : σ.K a = 8) : xE cy (σ.setI 702 a v) a = some (.inr (7, (xF 8 σ a).set 2 (.int v))) := by rw [xE_8 (σ := σ.setI 702 a v) h]; simp [xF, I_setI, J_setI, R_setI, x_up2]
theorem xP_9_0 {cy : Nat → ClassId} {σ : xS} {a : Nat} (v : Option Nat) (h : σ.K a = 9) : xE cy (σ.setR 300 a v) a = some (.inr (8, (xF 9 σ a).set 0 (va_rf v))) := by rw [xE_9 (σ := σ.setR 300 a v) h]; simp [xF, I_setR, J_setR, R_setR, x_up2]
theorem xP_9_1 {cy : Nat → ClassId} {σ : xS} {a : Nat} (v : Option Nat) (h : σ.K a = 9) : xE cy (σ.setR 301 a v) a = some (.inr (8, (xF 9 σ a).set 1 (va_rf v))) := by rw [xE_9 (σ := σ.setR 301 a v) h]; simp [xF, I_setR, J_setR, R_setR, x_up2]
theorem xP_9_2 {cy : Nat → ClassId} {σ : xS} {a : Nat} (v : Option Nat) (h : σ.K a = 9) : xE cy (σ.setR 302 a v) a = some (.inr (8, (xF 9 σ a).set 2 (va_rf v))) := by rw [xE_9 (σ := σ.setR 302 a v) h]; simp [xF, I_setR, J_setR, R_setR, x_up2]
theorem xP_10_0 {cy : Nat → ClassId} {σ : xS} {a : Nat} (v : Option Nat) (h : σ.K a = 10) : xE cy (σ.setR 900 a v) a = some (.inr (9, (xF 10 σ a).set 0 (va_rf v))) := by rw [xE_10 (σ := σ.setR 900 a v) h]; simp [xF, I_setR, J_setR, R_setR, x_up2]
theorem xP_10_1 {cy : Nat → ClassId} {σ : xS} {a : Nat} (v : Int32) (h : σ.K a = 10) : xE cy (σ.setI 901 a v) a = some (.inr (9, (xF 10 σ a).set 1 (.int v))) := by rw [xE_10 (σ := σ.setI 901 a v) h]; simp [xF, I_setI, J_setI, R_setI, x_up2]
theorem xP_10_2 {cy : Nat → ClassId} {σ : xS} {a : Nat} (v : Option Nat) (h : σ.K a = 10) : xE cy (σ.setR 902 a v) a = some (.inr (9, (xF 10 σ a).set 2 (va_rf v))) := by rw [xE_10 (σ := σ.setR 902 a v) h]; simp [xF, I_setR, J_setR, R_setR, x_up2]
theorem xP_10_3 {cy : Nat → ClassId} {σ : xS} {a : Nat} (v : Option Nat) (h : σ.K a = 10) : xE cy (σ.setR 903 a v) a = some (.inr (9, (xF 10 σ a).set 3 (va_rf v))) := by rw [xE_10 (σ := σ.setR 903 a v) h]; simp [xF, I_setR, J_setR, R_setR, x_up2]
theorem xP_10_4 {cy : Nat → ClassId} {σ : xS} {a : Nat} (v : Option Nat) (h : σ.K a = 10) : xE cy (σ.setR 904 a v) a = some (.inr (9, (xF 10 σ a).set 4 (va_rf v))) := by rw [xE_10 (σ := σ.setR 904 a v) h]; simp [xF, I_setR, J_setR, R_setR, x_up2]
theorem xP_10_5 {cy : Nat → ClassId} {σ : xS} {a : Nat} (v : Int32) (h : σ.K a = 10) : xE cy (σ.setI 905 a v) a = some (.inr (9, (xF 10 σ a).set 5 (.int v))) := by rw [xE_10 (σ := σ.setI 905 a v) h]; simp [xF, I_setI, J_setI, R_setI, x_up2]
theorem xP_10_6 {cy : Nat → ClassId} {σ : xS} {a : Nat} (v : Int32) (h : σ.K a = 10) : xE cy (σ.setI 906 a v) a = some (.inr (9, (xF 10 σ a).set 6 (.int v))) := by rw [xE_10 (σ := σ.setI 906 a v) h]; simp [xF, I_setI, J_setI, R_setI, x_up2]
theorem xP_11_0 {cy : Nat → ClassId} {σ : xS} {a : Nat} (v : Option Nat) (h : σ.K a = 11) : xE cy (σ.setR 1000 a v) a = some (.inr (10, (xF 11 σ a).set 0 (va_rf v))) := by rw [xE_11 (σ := σ.setR 1000 a v) h]; simp [xF, I_setR, J_setR, R_setR, x_up2]
theorem xP_11_1 {cy : Nat → ClassId} {σ : xS} {a : Nat} (v : Option Nat) (h : σ.K a = 11) : xE cy (σ.setR 1001 a v) a = some (.inr (10, (xF 11 σ a).set 1 (va_rf v))) := by rw [xE_11 (σ := σ.setR 1001 a v) h]; simp [xF, I_setR, J_setR, R_setR, x_up2]
theorem xP_11_2 {cy : Nat → ClassId} {σ : xS} {a : Nat} (v : Option Nat) (h : σ.K a = 11) : xE cy (σ.setR 1002 a v) a = some (.inr (10, (xF 11 σ a).set 2 (va_rf v))) := by rw [xE_11 (σ := σ.setR 1002 a v) h]; simp [xF, I_setR, J_setR, R_setR, x_up2]
theorem xP_11_3 {cy : Nat → ClassId} {σ : xS} {a : Nat} (v : Option Nat) (h : σ.K a = 11) : xE cy (σ.setR 1003 a v) a = some (.inr (10, (xF 11 σ a).set 3 (va_rf v))) := by rw [xE_11 (σ := σ.setR 1003 a v) h]; simp [xF, I_setR, J_setR, R_setR, x_up2]
theorem xP_11_4 {cy : Nat → ClassId} {σ : xS} {a : Nat} (v : Option Nat) (h : σ.K a = 11) : xE cy (σ.setR 1004 a v) a = some (.inr (10, (xF 11 σ a).set 4 (va_rf v))) := by rw [xE_11 (σ := σ.setR 1004 a v) h]; simp [xF, I_setR, J_setR, R_setR, x_up2]
theorem xP_12_0 {cy : Nat → ClassId} {σ : xS} {a : Nat} (v : Int32) (h : σ.K a = 12) : xE cy (σ.setI 1100 a v) a = some (.inr (11, (xF 12 σ a).set 0 (.int v))) := by rw [xE_12 (σ := σ.setI 1100 a v) h]; simp [xF, I_setI, J_setI, R_setI, x_up2]
theorem xP_12_1 {cy : Nat → ClassId} {σ : xS} {a : Nat} (v : Option Nat) (h : σ.K a = 12) : xE cy (σ.setR 1101 a v) a = some (.inr (11, (xF 12 σ a).set 1 (va_rf v))) := by rw [xE_12 (σ := σ.setR 1101 a v) h]; simp [xF, I_setR, J_setR, R_setR, x_up2]
theorem xP_12_2 {cy : Nat → ClassId} {σ : xS} {a : Nat} (v : Int32) (h : σ.K a = 12) : xE cy (σ.setI 1102 a v) a = some (.inr (11, (xF 12 σ a).set 2 (.int v))) := by rw [xE_12 (σ := σ.setI 1102 a v) h]; simp [xF, I_setI, J_setI, R_setI, x_up2]
theorem xP_12_3 {cy : Nat → ClassId} {σ : xS} {a : Nat} (v : Int32) (h : σ.K a = 12) : xE cy (σ.setI 1103 a v) a = some (.inr (11, (xF 12 σ a).set 3 (.int v))) := by rw [xE_12 (σ := σ.setI 1103 a v) h]; simp [xF, I_setI, J_setI, R_setI, x_up2]
theorem xP_12_4 {cy : Nat → ClassId} {σ : xS} {a : Nat} (v : Option Nat) (h : σ.K a = 12) : xE cy (σ.setR 1104 a v) a = some (.inr (11, (xF 12 σ a).set 4 (va_rf v))) := by rw [xE_12 (σ := σ.setR 1104 a v) h]; simp [xF, I_setR, J_setR, R_setR, x_up2]
theorem xP_12_5 {cy : Nat → ClassId} {σ : xS} {a : Nat} (v : Option Nat) (h : σ.K a = 12) : xE cy (σ.setR 1105 a v) a = some (.inr (11, (xF 12 σ a).set 5 (va_rf v))) := by rw [xE_12 (σ := σ.setR 1105 a v) h]; simp [xF, I_setR, J_setR, R_setR, x_up2]
theorem xP_12_6 {cy : Nat → ClassId} {σ : xS} {a : Nat} (v : Option Nat) (h : σ.K a = 12) : xE cy (σ.setR 1106 a v) a = some (.inr (11, (xF 12 σ a).set 6 (va_rf v))) := by rw [xE_12 (σ := σ.setR 1106 a v) h]; simp [xF, I_setR, J_setR, R_setR, x_up2]
theorem xP_12_7 {cy : Nat → ClassId} {σ : xS} {a : Nat} (v : Option Nat) (h : σ.K a = 12) : xE cy (σ.setR 1107 a v) a = some (.inr (11, (xF 12 σ a).set 7 (va_rf v))) := by rw [xE_12 (σ := σ.setR 1107 a v) h]; simp [xF, I_setR, J_setR, R_setR, x_up2]
theorem xP_12_8 {cy : Nat → ClassId} {σ : xS} {a : Nat} (v : Option Nat) (h : σ.K a = 12) : xE cy (σ.setR 1108 a v) a = some (.inr (11, (xF 12 σ a).set 8 (va_rf v))) := by rw [xE_12 (σ := σ.setR 1108 a v) h]; simp [xF, I_setR, J_setR, R_setR, x_up2]
theorem xP_12_9 {cy : Nat → ClassId} {σ : xS} {a : Nat} (v : Option Nat) (h : σ.K a = 12) : xE cy (σ.setR 1109 a v) a = some (.inr (11, (xF 12 σ a).set 9 (va_rf v))) := by rw [xE_12 (σ := σ.setR 1109 a v) h]; simp [xF, I_setR, J_setR, R_setR, x_up2]
theorem xP_12_10 {cy : Nat → ClassId} {σ : xS} {a : Nat} (v : Option Nat) (h : σ.K a = 12) : xE cy (σ.setR 1110 a v) a = some (.inr (11, (xF 12 σ a).set 10 (va_rf v))) := by rw [xE_12 (σ := σ.setR 1110 a v) h]; simp [xF, I_setR, J_setR, R_setR, x_up2]
theorem xP_12_11 {cy : Nat → ClassId} {σ : xS} {a : Nat} (v : Option Nat) (h : σ.K a = 12) : xE cy (σ.setR 1111 a v) a = some (.inr (11, (xF 12 σ a).set 11 (va_rf v))) := by rw [xE_12 (σ := σ.setR 1111 a v) h]; simp [xF, I_setR, J_setR, R_setR, x_up2]
theorem xP_12_12 {cy : Nat → ClassId} {σ : xS} {a : Nat} (v : Option Nat) (h : σ.K a = 12) : xE cy (σ.setR 1112 a v) a = some (.inr (11, (xF 12 σ a).set 12 (va_rf v))) := by rw [xE_12 (σ := σ.setR 1112 a v) h]; simp [xF, I_setR, J_setR, R_setR, x_up2]
theorem xP_12_13 {cy : Nat → ClassId} {σ : xS} {a : Nat} (v : Option Nat) (h : σ.K a = 12) : xE cy (σ.setR 1113 a v) a = some (.inr (11, (xF 12 σ a).set 13 (va_rf v))) := by rw [xE_12 (σ := σ.setR 1113 a v) h]; simp [xF, I_setR, J_setR, R_setR, x_up2]
theorem xP_12_14 {cy : Nat → ClassId} {σ : xS} {a : Nat} (v : Option Nat) (h : σ.K a = 12) : xE cy (σ.setR 1114 a v) a = some (.inr (11, (xF 12 σ a).set 14 (va_rf v))) := by rw [xE_12 (σ := σ.setR 1114 a v) h]; simp [xF, I_setR, J_setR, R_setR, x_up2]
theorem xP_12_15 {cy : Nat → ClassId} {σ : xS} {a : Nat} (v : Option Nat) (h : σ.K a = 12) : xE cy (σ.setR 1115 a v) a = some (.inr (11, (xF 12 σ a).set 15 (va_rf v))) := by rw [xE_12 (σ := σ.setR 1115 a v) h]; simp [xF, I_setR, J_setR, R_setR, x_up2]
theorem xP_12_16 {cy : Nat → ClassId} {σ : xS} {a : Nat} (v : Option Nat) (h : σ.K a = 12) : xE cy (σ.setR 1116 a v) a = some (.inr (11, (xF 12 σ a).set 16 (va_rf v))) := by rw [xE_12 (σ := σ.setR 1116 a v) h]; simp [xF, I_setR, J_setR, R_setR, x_up2]
theorem xP_12_17 {cy : Nat → ClassId} {σ : xS} {a : Nat} (v : Option Nat) (h : σ.K a = 12) : xE cy (σ.setR 1117 a v) a = some (.inr (11, (xF 12 σ a).set 17 (va_rf v))) := by rw [xE_12 (σ := σ.setR 1117 a v) h]; simp [xF, I_setR, J_setR, R_setR, x_up2]
theorem xP_12_18 {cy : Nat → ClassId} {σ : xS} {a : Nat} (v : Option Nat) (h : σ.K a = 12) : xE cy (σ.setR 1118 a v) a = some (.inr (11, (xF 12 σ a).set 18 (va_rf v))) := by rw [xE_12 (σ := σ.setR 1118 a v) h]; simp [xF, I_setR, J_setR, R_setR, x_up2]
theorem xP_12_19 {cy : Nat → ClassId} {σ : xS} {a : Nat} (v : Option Nat) (h : σ.K a = 12) : xE cy (σ.setR 1119 a v) a = some (.inr (11, (xF 12 σ a).set 19 (va_rf v))) := by rw [xE_12 (σ := σ.setR 1119 a v) h]; simp [xF, I_setR, J_setR, R_setR, x_up2]
theorem xP_12_20 {cy : Nat → ClassId} {σ : xS} {a : Nat} (v : Option Nat) (h : σ.K a = 12) : xE cy (σ.setR 1120 a v) a = some (.inr (11, (xF 12 σ a).set 20 (va_rf v))) := by rw [xE_12 (σ := σ.setR 1120 a v) h]; simp [xF, I_setR, J_setR, R_setR, x_up2]
theorem xP_12_21 {cy : Nat → ClassId} {σ : xS} {a : Nat} (v : Option Nat) (h : σ.K a = 12) : xE cy (σ.setR 1121 a v) a = some (.inr (11, (xF 12 σ a).set 21 (va_rf v))) := by rw [xE_12 (σ := σ.setR 1121 a v) h]; simp [xF, I_setR, J_setR, R_setR, x_up2]
theorem xP_12_22 {cy : Nat → ClassId} {σ : xS} {a : Nat} (v : Option Nat) (h : σ.K a = 12) : xE cy (σ.setR 1122 a v) a = some (.inr (11, (xF 12 σ a).set 22 (va_rf v))) := by rw [xE_12 (σ := σ.setR 1122 a v) h]; simp [xF, I_setR, J_setR, R_setR, x_up2]
theorem xP_12_23 {cy : Nat → ClassId} {σ : xS} {a : Nat} (v : Option Nat) (h : σ.K a = 12) : xE cy (σ.setR 1123 a v) a = some (.inr (11, (xF 12 σ a).set 23 (va_rf v))) := by rw [xE_12 (σ := σ.setR 1123 a v) h]; simp [xF, I_setR, J_setR, R_setR, x_up2]
theorem xP_12_24 {cy : Nat → ClassId} {σ : xS} {a : Nat} (v : Option Nat) (h : σ.K a = 12) : xE cy (σ.setR 1124 a v) a = some (.inr (11, (xF 12 σ a).set 24 (va_rf v))) := by rw [xE_12 (σ := σ.setR 1124 a v) h]; simp [xF, I_setR, J_setR, R_setR, x_up2]
theorem xP_12_25 {cy : Nat → ClassId} {σ : xS} {a : Nat} (v : Option Nat) (h : σ.K a = 12) : xE cy (σ.setR 1125 a v) a = some (.inr (11, (xF 12 σ a).set 25 (va_rf v))) := by rw [xE_12 (σ := σ.setR 1125 a v) h]; simp [xF, I_setR, J_setR, R_setR, x_up2]
theorem xP_12_26 {cy : Nat → ClassId} {σ : xS} {a : Nat} (v : Option Nat) (h : σ.K a = 12) : xE cy (σ.setR 1126 a v) a = some (.inr (11, (xF 12 σ a).set 26 (va_rf v))) := by rw [xE_12 (σ := σ.setR 1126 a v) h]; simp [xF, I_setR, J_setR, R_setR, x_up2]
theorem xP_12_27 {cy : Nat → ClassId} {σ : xS} {a : Nat} (v : Option Nat) (h : σ.K a = 12) : xE cy (σ.setR 1127 a v) a = some (.inr (11, (xF 12 σ a).set 27 (va_rf v))) := by rw [xE_12 (σ := σ.setR 1127 a v) h]; simp [xF, I_setR, J_setR, R_setR, x_up2]
theorem xP_12_28 {cy : Nat → ClassId} {σ : xS} {a : Nat} (v : Option Nat) (h : σ.K a = 12) : xE cy (σ.setR 1128 a v) a = some (.inr (11, (xF 12 σ a).set 28 (va_rf v))) := by rw [xE_12 (σ := σ.setR 1128 a v) h]; simp [xF, I_setR, J_setR, R_setR, x_up2]
theorem xP_12_29 {cy : Nat → ClassId} {σ : xS} {a : Nat} (v : Option Nat) (h : σ.K a = 12) : xE cy (σ.setR 1129 a v) a = some (.inr (11, (xF 12 σ a).set 29 (va_rf v))) := by rw [xE_12 (σ := σ.setR 1129 a v) h]; simp [xF, I_setR, J_setR, R_setR, x_up2]
theorem xP_12_30 {cy : Nat → ClassId} {σ : xS} {a : Nat} (v : Option Nat) (h : σ.K a = 12) : xE cy (σ.setR 1130 a v) a = some (.inr (11, (xF 12 σ a).set 30 (va_rf v))) := by rw [xE_12 (σ := σ.setR 1130 a v) h]; simp [xF, I_setR, J_setR, R_setR, x_up2]
theorem xP_12_31 {cy : Nat → ClassId} {σ : xS} {a : Nat} (v : Option Nat) (h : σ.K a = 12) : xE cy (σ.setR 1131 a v) a = some (.inr (11, (xF 12 σ a).set 31 (va_rf v))) := by rw [xE_12 (σ := σ.setR 1131 a v) h]; simp [xF, I_setR, J_setR, R_setR, x_up2]
theorem xP_12_32 {cy : Nat → ClassId} {σ : xS} {a : Nat} (v : Option Nat) (h : σ.K a = 12) : xE cy (σ.setR 1132 a v) a = some (.inr (11, (xF 12 σ a).set 32 (va_rf v))) := by rw [xE_12 (σ := σ.setR 1132 a v) h]; simp [xF, I_setR, J_setR, R_setR, x_up2]
theorem xP_12_33 {cy : Nat → ClassId} {σ : xS} {a : Nat} (v : Option Nat) (h : σ.K a = 12) : xE cy (σ.setR 1133 a v) a = some (.inr (11, (xF 12 σ a).set 33 (va_rf v))) := by rw [xE_12 (σ := σ.setR 1133 a v) h]; simp [xF, I_setR, J_setR, R_setR, x_up2]
theorem xP_12_34 {cy : Nat → ClassId} {σ : xS} {a : Nat} (v : Int32) (h : σ.K a = 12) : xE cy (σ.setI 1134 a v) a = some (.inr (11, (xF 12 σ a).set 34 (.int v))) := by rw [xE_12 (σ := σ.setI 1134 a v) h]; simp [xF, I_setI, J_setI, R_setI, x_up2]
theorem xP_12_35 {cy : Nat → ClassId} {σ : xS} {a : Nat} (v : Int32) (h : σ.K a = 12) : xE cy (σ.setI 1135 a v) a = some (.inr (11, (xF 12 σ a).set 35 (.int v))) := by rw [xE_12 (σ := σ.setI 1135 a v) h]; simp [xF, I_setI, J_setI, R_setI, x_up2]
theorem xP_12_36 {cy : Nat → ClassId} {σ : xS} {a : Nat} (v : Int32) (h : σ.K a = 12) : xE cy (σ.setI 1136 a v) a = some (.inr (11, (xF 12 σ a).set 36 (.int v))) := by rw [xE_12 (σ := σ.setI 1136 a v) h]; simp [xF, I_setI, J_setI, R_setI, x_up2]
theorem xP_12_37 {cy : Nat → ClassId} {σ : xS} {a : Nat} (v : Int32) (h : σ.K a = 12) : xE cy (σ.setI 1137 a v) a = some (.inr (11, (xF 12 σ a).set 37 (.int v))) := by rw [xE_12 (σ := σ.setI 1137 a v) h]; simp [xF, I_setI, J_setI, R_setI, x_up2]
theorem xP_12_38 {cy : Nat → ClassId} {σ : xS} {a : Nat} (v : Int32) (h : σ.K a = 12) : xE cy (σ.setI 1138 a v) a = some (.inr (11, (xF 12 σ a).set 38 (.int v))) := by rw [xE_12 (σ := σ.setI 1138 a v) h]; simp [xF, I_setI, J_setI, R_setI, x_up2]
theorem xP_12_39 {cy : Nat → ClassId} {σ : xS} {a : Nat} (v : Int32) (h : σ.K a = 12) : xE cy (σ.setI 1139 a v) a = some (.inr (11, (xF 12 σ a).set 39 (.int v))) := by rw [xE_12 (σ := σ.setI 1139 a v) h]; simp [xF, I_setI, J_setI, R_setI, x_up2]
theorem xP_12_40 {cy : Nat → ClassId} {σ : xS} {a : Nat} (v : Int32) (h : σ.K a = 12) : xE cy (σ.setI 1140 a v) a = some (.inr (11, (xF 12 σ a).set 40 (.int v))) := by rw [xE_12 (σ := σ.setI 1140 a v) h]; simp [xF, I_setI, J_setI, R_setI, x_up2]
theorem xP_12_41 {cy : Nat → ClassId} {σ : xS} {a : Nat} (v : Int32) (h : σ.K a = 12) : xE cy (σ.setI 1141 a v) a = some (.inr (11, (xF 12 σ a).set 41 (.int v))) := by rw [xE_12 (σ := σ.setI 1141 a v) h]; simp [xF, I_setI, J_setI, R_setI, x_up2]
theorem xP_12_42 {cy : Nat → ClassId} {σ : xS} {a : Nat} (v : Int32) (h : σ.K a = 12) : xE cy (σ.setI 1142 a v) a = some (.inr (11, (xF 12 σ a).set 42 (.int v))) := by rw [xE_12 (σ := σ.setI 1142 a v) h]; simp [xF, I_setI, J_setI, R_setI, x_up2]
theorem xP_12_43 {cy : Nat → ClassId} {σ : xS} {a : Nat} (v : Int32) (h : σ.K a = 12) : xE cy (σ.setI 1143 a v) a = some (.inr (11, (xF 12 σ a).set 43 (.int v))) := by rw [xE_12 (σ := σ.setI 1143 a v) h]; simp [xF, I_setI, J_setI, R_setI, x_up2]
theorem xP_12_44 {cy : Nat → ClassId} {σ : xS} {a : Nat} (v : Int32) (h : σ.K a = 12) : xE cy (σ.setI 1144 a v) a = some (.inr (11, (xF 12 σ a).set 44 (.int v))) := by rw [xE_12 (σ := σ.setI 1144 a v) h]; simp [xF, I_setI, J_setI, R_setI, x_up2]
theorem xP_I {cy : Nat → ClassId} {σ : xS} {k a : Nat} {v : Int32} {b : Nat} (h : b ≠ a) : xE cy (σ.setI k a v) b = xE cy σ b := by
  have e : ∀ n, xF n (σ.setI k a v) b = xF n σ b := fun n => by unfold xF; simp only [I_setI, J_setI, R_setI, x_up2_a h]
  simp only [xE, e, K_setI, L_setI, AI_setI, AJ_setI, AR_setI]
  try rfl
theorem xP_J {cy : Nat → ClassId} {σ : xS} {k a : Nat} {v : Int64} {b : Nat} (h : b ≠ a) : xE cy (σ.setJ k a v) b = xE cy σ b := by
  have e : ∀ n, xF n (σ.setJ k a v) b = xF n σ b := fun n => by unfold xF; simp only [I_setJ, J_setJ, R_setJ, x_up2_a h]
  simp only [xE, e, K_setJ, L_setJ, AI_setJ, AJ_setJ, AR_setJ]
  try rfl
theorem xP_R {cy : Nat → ClassId} {σ : xS} {k a : Nat} {v : Option Nat} {b : Nat} (h : b ≠ a) : xE cy (σ.setR k a v) b = xE cy σ b := by
  have e : ∀ n, xF n (σ.setR k a v) b = xF n σ b := fun n => by unfold xF; simp only [I_setR, J_setR, R_setR, x_up2_a h]
  simp only [xE, e, K_setR, L_setR, AI_setR, AJ_setR, AR_setR]
  try rfl
theorem x_up2_row {α : Type} {f : Nat → Nat → α} {a i b : Nat} {v : α} (h : b ≠ a) : x_up2 f a i v b = f b := by funext j; simp [x_up2, h]
theorem x_up2_rowS {α : Type} {f : Nat → Nat → α} {a i : Nat} {v : α} : x_up2 f a i v a = fun j => if j = i then v else f a j := by funext j; simp [x_up2]
theorem xP_AI {cy : Nat → ClassId} {σ : xS} {a i : Nat} {v : Int32} {b : Nat} (h : b ≠ a) : xE cy (σ.setAI a i v) b = xE cy σ b := by
  have e : ∀ n, xF n (σ.setAI a i v) b = xF n σ b := fun n => by unfold xF; simp only [I_setAI, J_setAI, R_setAI]
  simp only [xE, e, K_setAI, L_setAI, AI_setAI, AJ_setAI, AR_setAI, x_up2_row h]
  try rfl
theorem xP_AJ {cy : Nat → ClassId} {σ : xS} {a i : Nat} {v : Int64} {b : Nat} (h : b ≠ a) : xE cy (σ.setAJ a i v) b = xE cy σ b := by
  have e : ∀ n, xF n (σ.setAJ a i v) b = xF n σ b := fun n => by unfold xF; simp only [I_setAJ, J_setAJ, R_setAJ]
  simp only [xE, e, K_setAJ, L_setAJ, AI_setAJ, AJ_setAJ, AR_setAJ, x_up2_row h]
  try rfl
theorem xP_AR {cy : Nat → ClassId} {σ : xS} {a i : Nat} {v : Option Nat} {b : Nat} (h : b ≠ a) : xE cy (σ.setAR a i v) b = xE cy σ b := by
  have e : ∀ n, xF n (σ.setAR a i v) b = xF n σ b := fun n => by unfold xF; simp only [I_setAR, J_setAR, R_setAR]
  simp only [xE, e, K_setAR, L_setAR, AI_setAR, AJ_setAR, AR_setAR, x_up2_row h]
  try rfl
theorem xP_newO {cy : Nat → ClassId} {σ : xS} {k n : Nat} {b : Nat} (h : b ≠ σ.sz) : xE cy (σ.newO k n) b = xE cy σ b := by
  have e : ∀ n2, xF n2 (σ.newO k n) b = xF n2 σ b := fun n2 => by unfold xF; simp only [I_newO, J_newO, R_newO, if_neg h]
  simp only [xE, e, K_newO, L_newO, AI_newO, AJ_newO, AR_newO, va_up, if_neg h]
  try rfl
theorem xP_newA {cy : Nat → ClassId} {σ : xS} {k n : Nat} {b : Nat} (h : b ≠ σ.sz) : xE cy (σ.newA k n) b = xE cy σ b := by
  have e : ∀ n2, xF n2 (σ.newA k n) b = xF n2 σ b := fun n2 => by unfold xF; simp only [I_newA, J_newA, R_newA, if_neg h]
  simp only [xE, e, K_newA, L_newA, AI_newA, AJ_newA, AR_newA, va_up, if_neg h]
  try rfl
theorem xP_skip {cy : Nat → ClassId} {σ : xS} {n : Nat} {b : Nat} (h : b ≠ σ.sz) : xE cy (σ.skip n) b = xE cy σ b := by
  have e : ∀ n2, xF n2 (σ.skip n) b = xF n2 σ b := fun n2 => by unfold xF; simp only [I_skip, J_skip, R_skip, if_neg h]
  simp only [xE, e, K_skip, L_skip, AI_skip, AJ_skip, AR_skip, va_up, if_neg h]
  try rfl
