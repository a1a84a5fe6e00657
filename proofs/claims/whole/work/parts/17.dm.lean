/-! ===== what each method does to the state ===== -/
def dm_J0_length_8abf5 (P : xP) (a0 : Nat) (σ : xS) : xO Int32 := x_chk (σ.K a0 = 13) <| some (.inl (Int32.ofNat (σ.L a0)), σ)
def dm_J0_charAt_5068e (P : xP) (a0 : Nat) (v1 : Int32) (σ : xS) : xO Int32 := x_chk (σ.K a0 = 13 ∧ x_in v1 (σ.L a0)) <| some (.inl (σ.AI a0 v1.toNatClampNeg), σ)
def dm_X11_refuseUnless (P : xP) (v0 : Int32) (σ : xS) : xO Unit :=
  if v0 = 0 then
    x_chk (σ.sz + 1 ≤ P.lim ∧ σ.su + 6 ≤ P.slim) <|
    some (.inr "java/lang/IndexOutOfBoundsException", σ.skip 6)
  else
    some (.inl (), σ)
def dm_X11_moduleAt_p20 (P : xP) (a0 : Nat) (v1 : Int32) (s0 : Int32) (σ : xS) : xO (Option Nat) :=
  x_bind (dm_X11_refuseUnless P s0 σ) (fun _ σ_2 =>
    x_chk (σ_2.K a0 = 11) <|
    x_some (σ_2.R 1004 a0) fun a_5 =>
    x_chk (σ_2.K a_5 = 1) <|
    x_some (σ_2.R 0 a_5) fun a_7 =>
    x_chk (σ_2.K a_7 = 27 ∧ x_in v1 (σ_2.L a_7)) <|
    some (.inl (σ_2.AR a_7 (Int32.toNatClampNeg v1)), σ_2)
    ) (fun E_9 σ_2 =>
    some (.inr E_9, σ_2)
    )
def dm_X11_moduleAt_p19 (P : xP) (a0 : Nat) (v1 : Int32) (σ : xS) : xO (Option Nat) :=
  dm_X11_moduleAt_p20 P a0 v1 0 σ
def dm_X11_moduleAt (P : xP) (a0 : Nat) (v1 : Int32) (σ : xS) : xO (Option Nat) :=
  if v1 < 0 then
    dm_X11_moduleAt_p19 P a0 v1 σ
  else
    x_chk (σ.K a0 = 11) <|
    x_some (σ.R 1004 a0) fun a_3 =>
    x_chk (σ.K a_3 = 1) <|
    if (σ.I 1 a_3) ≤ v1 then
      dm_X11_moduleAt_p19 P a0 v1 σ
    else
      dm_X11_moduleAt_p20 P a0 v1 1 σ
def dm_X6_width (P : xP) (a0 : Nat) (σ : xS) : xO Int32 :=
  x_chk (σ.K a0 = 7) <|
  some (.inl (((σ.I 603 a0) - (σ.I 604 a0)) + 1), σ)
def dm_X6_bitAt_p26 (P : xP) (a0 : Nat) (s0 : Int32) (σ : xS) : xO Int32 :=
  some (.inl s0, σ)
def dm_X6_bitAt (P : xP) (a0 : Nat) (v1 : Int32) (σ : xS) : xO Int32 :=
  x_chk (σ.K a0 = 7) <|
  if (σ.R 602 a0) = none then
    if (((σ.I 605 a0) >>> (v1 &&& 31)) &&& 1) = 1 then
      dm_X6_bitAt_p26 P a0 (-3) σ
    else
      dm_X6_bitAt_p26 P a0 (-2) σ
  else
    x_some (σ.R 602 a0) fun a_3 =>
    x_chk (σ.K a_3 = 5) <|
    some (.inl (((σ.I 403 a_3) + (σ.I 604 a0)) + v1), σ)
def dm_X11_assign_p88 (P : xP) (a0 : Nat) (v4 : Int32) (v6 : Option Nat) (s0 : Int32) (σ : xS) : xO Int32 :=
  x_bind (dm_X11_refuseUnless P s0 σ) (fun _ σ_2 =>
    x_some v6 fun a_4 =>
    x_chk (σ_2.K a_4 = 7) <|
    x_bind (dm_X6_bitAt P a_4 v4 σ_2) (fun v_5 σ_6 =>
      some (.inl v_5, σ_6)
      ) (fun E_9 σ_6 =>
      some (.inr E_9, σ_6)
      )
    ) (fun E_10 σ_2 =>
    some (.inr E_10, σ_2)
    )
def dm_X11_assign_p87 (P : xP) (a0 : Nat) (v4 : Int32) (v6 : Option Nat) (σ : xS) : xO Int32 :=
  dm_X11_assign_p88 P a0 v4 v6 0 σ
def dm_X11_assign_p66 (P : xP) (a0 : Nat) (v4 : Int32) (s0 : Option Nat) (σ : xS) : xO Int32 :=
  if v4 < 0 then
    dm_X11_assign_p87 P a0 v4 s0 σ
  else
    x_some s0 fun a_2 =>
    x_chk (σ.K a_2 = 7) <|
    x_bind (dm_X6_width P a_2 σ) (fun v_3 σ_4 =>
      if v_3 ≤ v4 then
        dm_X11_assign_p87 P a0 v4 s0 σ_4
      else
        dm_X11_assign_p88 P a0 v4 s0 1 σ_4
      ) (fun E_8 σ_4 =>
      some (.inr E_8, σ_4)
      )
def dm_X11_assign_p42 (P : xP) (a0 : Nat) (v2 : Int32) (v3 : Int32) (v4 : Int32) (v5 : Option Nat) (s0 : Int32) (σ : xS) : xO Int32 :=
  x_bind (dm_X11_refuseUnless P s0 σ) (fun _ σ_2 =>
    if v3 = 0 then
      x_some v5 fun a_9 =>
      x_chk (σ_2.K a_9 = 6) <|
      x_some (σ_2.R 507 a_9) fun a_11 =>
      x_chk (σ_2.K a_11 = 28 ∧ x_in v2 (σ_2.L a_11)) <|
      dm_X11_assign_p66 P a0 v4 (σ_2.AR a_11 (Int32.toNatClampNeg v2)) σ_2
    else
      x_some v5 fun a_5 =>
      x_chk (σ_2.K a_5 = 6) <|
      x_some (σ_2.R 508 a_5) fun a_7 =>
      x_chk (σ_2.K a_7 = 28 ∧ x_in v2 (σ_2.L a_7)) <|
      dm_X11_assign_p66 P a0 v4 (σ_2.AR a_7 (Int32.toNatClampNeg v2)) σ_2
    ) (fun E_13 σ_2 =>
    some (.inr E_13, σ_2)
    )
def dm_X11_assign_p37 (P : xP) (a0 : Nat) (v2 : Int32) (v3 : Int32) (v4 : Int32) (v5 : Option Nat) (σ : xS) : xO Int32 :=
  dm_X11_assign_p42 P a0 v2 v3 v4 v5 1 σ
def dm_X11_assign_p25 (P : xP) (a0 : Nat) (v2 : Int32) (v3 : Int32) (v4 : Int32) (v5 : Option Nat) (s0 : Int32) (σ : xS) : xO Int32 :=
  x_bind (dm_X11_refuseUnless P s0 σ) (fun _ σ_2 =>
    if v3 = 0 then
      dm_X11_assign_p37 P a0 v2 v3 v4 v5 σ_2
    else
      if v3 = 1 then
        dm_X11_assign_p37 P a0 v2 v3 v4 v5 σ_2
      else
        dm_X11_assign_p42 P a0 v2 v3 v4 v5 0 σ_2
    ) (fun E_6 σ_2 =>
    some (.inr E_6, σ_2)
    )
def dm_X11_assign_p24 (P : xP) (a0 : Nat) (v2 : Int32) (v3 : Int32) (v4 : Int32) (v5 : Option Nat) (σ : xS) : xO Int32 :=
  dm_X11_assign_p25 P a0 v2 v3 v4 v5 0 σ
def dm_X11_assign (P : xP) (a0 : Nat) (v1 : Int32) (v2 : Int32) (v3 : Int32) (v4 : Int32) (σ : xS) : xO Int32 :=
  x_chk (σ.K a0 = 11) <|
  x_bind (dm_X11_moduleAt P a0 v1 σ) (fun v_1 σ_2 =>
    if v2 < 0 then
      dm_X11_assign_p24 P a0 v2 v3 v4 v_1 σ_2
    else
      x_some v_1 fun a_6 =>
      x_chk (σ_2.K a_6 = 6) <|
      if (σ_2.I 509 a_6) ≤ v2 then
        dm_X11_assign_p24 P a0 v2 v3 v4 v_1 σ_2
      else
        dm_X11_assign_p25 P a0 v2 v3 v4 v_1 1 σ_2
    ) (fun E_9 σ_2 =>
    some (.inr E_9, σ_2)
    )
def dm_L_assign (P : xP) (v0 : Option Nat) (v1 : Int32) (v2 : Int32) (v3 : Int32) (v4 : Int32) (v5 : Option Nat) (σ : xS) : xO Int32 :=
  x_some v0 fun a_1 =>
  x_chk (σ.K a_1 = 11) <|
  x_bind (dm_X11_assign P a_1 v1 v2 v3 v4 σ) (fun v_2 σ_3 =>
    x_some v5 fun a_6 =>
    x_chk (σ_3.K a_6 = 42 ∧ x_in 0 (σ_3.L a_6) ∧ P.base ≤ a_6) <|
    x_let (σ_3.setAJ a_6 (Int32.toNatClampNeg 0) (Int32.toInt64 v_2)) fun σ_8 =>
    some (.inl 0, σ_8)
    ) (fun E_9 σ_3 =>
    x_chk (E_9 = "java/lang/IndexOutOfBoundsException") <|
    some (.inl 1, σ_3)
    )
def dm_X11_count_p38 (P : xP) (a0 : Nat) (s0 : Int32) (σ : xS) : xO Int32 :=
  some (.inl s0, σ)
def dm_X11_count_p14 (P : xP) (a0 : Nat) (v1 : Int32) (s0 : Int32) (σ : xS) : xO Int32 :=
  x_bind (dm_X11_refuseUnless P s0 σ) (fun _ σ_2 =>
    if v1 = 0 then
      x_chk (σ_2.K a0 = 11) <|
      x_some (σ_2.R 1004 a0) fun a_9 =>
      x_chk (σ_2.K a_9 = 1) <|
      dm_X11_count_p38 P a0 (σ_2.I 1 a_9) σ_2
    else
      x_chk (σ_2.K a0 = 11) <|
      x_some (σ_2.R 1000 a0) fun a_6 =>
      x_chk (σ_2.K a_6 = 10) <|
      dm_X11_count_p38 P a0 (σ_2.I 901 a_6) σ_2
    ) (fun E_11 σ_2 =>
    some (.inr E_11, σ_2)
    )
def dm_X11_count_p9 (P : xP) (a0 : Nat) (v1 : Int32) (σ : xS) : xO Int32 :=
  dm_X11_count_p14 P a0 v1 1 σ
def dm_X11_count (P : xP) (a0 : Nat) (v1 : Int32) (σ : xS) : xO Int32 :=
  if v1 = 0 then
    dm_X11_count_p9 P a0 v1 σ
  else
    if v1 = 1 then
      dm_X11_count_p9 P a0 v1 σ
    else
      dm_X11_count_p14 P a0 v1 0 σ
def dm_L_count (P : xP) (v0 : Option Nat) (v1 : Int32) (v2 : Option Nat) (σ : xS) : xO Int32 :=
  x_some v0 fun a_1 =>
  x_chk (σ.K a_1 = 11) <|
  x_bind (dm_X11_count P a_1 v1 σ) (fun v_2 σ_3 =>
    x_some v2 fun a_6 =>
    x_chk (σ_3.K a_6 = 42 ∧ x_in 0 (σ_3.L a_6) ∧ P.base ≤ a_6) <|
    x_let (σ_3.setAJ a_6 (Int32.toNatClampNeg 0) (Int32.toInt64 v_2)) fun σ_8 =>
    some (.inl 0, σ_8)
    ) (fun E_9 σ_3 =>
    x_chk (E_9 = "java/lang/IndexOutOfBoundsException") <|
    some (.inl 1, σ_3)
    )
def dm_X11_instanceAt_p23 (P : xP) (a0 : Nat) (v2 : Int32) (v3 : Option Nat) (s0 : Int32) (σ : xS) : xO (Option Nat) :=
  x_bind (dm_X11_refuseUnless P s0 σ) (fun _ σ_2 =>
    x_some v3 fun a_4 =>
    x_chk (σ_2.K a_4 = 6) <|
    x_some (σ_2.R 510 a_4) fun a_6 =>
    x_chk (σ_2.K a_6 = 24 ∧ x_in v2 (σ_2.L a_6)) <|
    some (.inl (σ_2.AR a_6 (Int32.toNatClampNeg v2)), σ_2)
    ) (fun E_8 σ_2 =>
    some (.inr E_8, σ_2)
    )
def dm_X11_instanceAt_p22 (P : xP) (a0 : Nat) (v2 : Int32) (v3 : Option Nat) (σ : xS) : xO (Option Nat) :=
  dm_X11_instanceAt_p23 P a0 v2 v3 0 σ
def dm_X11_instanceAt (P : xP) (a0 : Nat) (v1 : Int32) (v2 : Int32) (σ : xS) : xO (Option Nat) :=
  x_chk (σ.K a0 = 11) <|
  x_bind (dm_X11_moduleAt P a0 v1 σ) (fun v_1 σ_2 =>
    if v2 < 0 then
      dm_X11_instanceAt_p22 P a0 v2 v_1 σ_2
    else
      x_some v_1 fun a_6 =>
      x_chk (σ_2.K a_6 = 6) <|
      if (σ_2.I 511 a_6) ≤ v2 then
        dm_X11_instanceAt_p22 P a0 v2 v_1 σ_2
      else
        dm_X11_instanceAt_p23 P a0 v2 v_1 1 σ_2
    ) (fun E_9 σ_2 =>
    some (.inr E_9, σ_2)
    )
def dm_X1_pinCount_p21 (P : xP) (a0 : Nat) (s0 : Int32) (σ : xS) : xO Int32 :=
  some (.inl s0, σ)
def dm_X1_pinCount (P : xP) (a0 : Nat) (σ : xS) : xO Int32 :=
  x_chk (σ.K a0 = 2) <|
  if (σ.R 106 a0) = none then
    dm_X1_pinCount_p21 P a0 (σ.I 105 a0) σ
  else
    x_some (σ.R 106 a0) fun a_3 =>
    x_chk (σ.K a_3 = 6) <|
    dm_X1_pinCount_p21 P a0 (σ.I 505 a_3) σ
def dm_X11_instance_p60 (P : xP) (a0 : Nat) (s0 : Int32) (σ : xS) : xO Int32 :=
  some (.inl s0, σ)
def dm_X11_instance_p86 (P : xP) (a0 : Nat) (s0 : Int32) (σ : xS) : xO Int32 :=
  some (.inl s0, σ)
def dm_X11_instance (P : xP) (a0 : Nat) (v1 : Int32) (v2 : Int32) (v3 : Int32) (σ : xS) : xO Int32 :=
  x_chk (σ.K a0 = 11) <|
  x_bind (dm_X11_instanceAt P a0 v1 v2 σ) (fun v_1 σ_2 =>
    x_let (v3) fun v_5 =>
    if v_5 = 0 then
      x_some v_1 fun a_7 =>
      x_chk (σ_2.K a_7 = 2) <|
      if (σ_2.R 106 a_7) = none then
        dm_X11_instance_p60 P a0 (-1) σ_2
      else
        x_some (σ_2.R 106 a_7) fun a_10 =>
        x_chk (σ_2.K a_10 = 6) <|
        dm_X11_instance_p60 P a0 (σ_2.I 500 a_10) σ_2
    else
    if v_5 = 1 then
      x_some v_1 fun a_13 =>
      x_chk (σ_2.K a_13 = 2) <|
      x_bind (dm_X1_pinCount P a_13 σ_2) (fun v_14 σ_15 =>
        some (.inl v_14, σ_15)
        ) (fun E_18 σ_15 =>
        some (.inr E_18, σ_15)
        )
    else
    if v_5 = 2 then
      x_some v_1 fun a_20 =>
      x_chk (σ_2.K a_20 = 2) <|
      some (.inl (σ_2.I 102 a_20), σ_2)
    else
    if v_5 = 3 then
      x_some v_1 fun a_23 =>
      x_chk (σ_2.K a_23 = 2) <|
      if (σ_2.I 103 a_23) = 0 then
        dm_X11_instance_p86 P a0 0 σ_2
      else
        dm_X11_instance_p86 P a0 1 σ_2
    else
      x_chk (σ_2.sz + 1 ≤ P.lim ∧ σ_2.su + 6 ≤ P.slim) <|
      some (.inr "java/lang/IndexOutOfBoundsException", σ_2.skip 6)
    ) (fun E_27 σ_2 =>
    some (.inr E_27, σ_2)
    )
def dm_L_instance (P : xP) (v0 : Option Nat) (v1 : Int32) (v2 : Int32) (v3 : Int32) (v4 : Option Nat) (σ : xS) : xO Int32 :=
  x_some v0 fun a_1 =>
  x_chk (σ.K a_1 = 11) <|
  x_bind (dm_X11_instance P a_1 v1 v2 v3 σ) (fun v_2 σ_3 =>
    x_some v4 fun a_6 =>
    x_chk (σ_3.K a_6 = 42 ∧ x_in 0 (σ_3.L a_6) ∧ P.base ≤ a_6) <|
    x_let (σ_3.setAJ a_6 (Int32.toNatClampNeg 0) (Int32.toInt64 v_2)) fun σ_8 =>
    some (.inl 0, σ_8)
    ) (fun E_9 σ_3 =>
    x_chk (E_9 = "java/lang/IndexOutOfBoundsException") <|
    some (.inl 1, σ_3)
    )
def dm_X1_pinWidth_p48 (P : xP) (a0 : Nat) (s0 : Int32) (σ : xS) : xO Int32 :=
  some (.inl s0, σ)
def dm_X1_pinWidth (P : xP) (a0 : Nat) (v1 : Int32) (σ : xS) : xO Int32 :=
  x_chk (σ.K a0 = 2) <|
  if (σ.R 106 a0) = none then
    x_some (σ.R 104 a0) fun a_3 =>
    x_chk (σ.K a_3 = 25 ∧ x_in v1 (σ.L a_3)) <|
    x_some (σ.AR a_3 (Int32.toNatClampNeg v1)) fun a_5 =>
    x_chk (σ.K a_5 = 3) <|
    if (σ.R 202 a_5) = none then
      dm_X1_pinWidth_p48 P a0 1 σ
    else
      x_some (σ.R 202 a_5) fun a_8 =>
      x_chk (σ.K a_8 = 7) <|
      x_bind (dm_X6_width P a_8 σ) (fun v_9 σ_10 =>
        dm_X1_pinWidth_p48 P a0 v_9 σ_10
        ) (fun E_13 σ_10 =>
        some (.inr E_13, σ_10)
        )
  else
    x_some (σ.R 106 a0) fun a_14 =>
    x_chk (σ.K a_14 = 6) <|
    x_some (σ.R 503 a_14) fun a_16 =>
    x_chk (σ.K a_16 = 26 ∧ x_in v1 (σ.L a_16)) <|
    x_some (σ.AR a_16 (Int32.toNatClampNeg v1)) fun a_18 =>
    x_chk (σ.K a_18 = 5) <|
    some (.inl (σ.I 402 a_18), σ)
def dm_X1_linkTo_L2 (P : xP) (a0 : Nat) : Nat → Int64 → Int32 → xS → xO (Option Nat)
  | 0, _, _, _ => none
  | n + 1, v1, v3, σ =>
    x_chk (σ.K a0 = 2) <|
    if (σ.I 105 a0) ≤ v3 then
      some (.inl none, σ)
    else
      x_some (σ.R 104 a0) fun a_3 =>
      x_chk (σ.K a_3 = 25 ∧ x_in v3 (σ.L a_3)) <|
      x_some (σ.AR a_3 (Int32.toNatClampNeg v3)) fun a_5 =>
      x_chk (σ.K a_5 = 3) <|
      if (lg_cmp (σ.J 200 a_5) v1) = 0 then
        some (.inl (σ.AR a_3 (Int32.toNatClampNeg v3)), σ)
      else
        x_let (v3 + 1) fun v_8 =>
        dm_X1_linkTo_L2 P a0 n v1 v_8 σ
def dm_X1_linkTo (P : xP) (a0 : Nat) (v1 : Int64) (σ : xS) : xO (Option Nat) :=
  dm_X1_linkTo_L2 P a0 P.N v1 0 σ
def dm_X1_partAt_p52 (P : xP) (a0 : Nat) (s0 : Option Nat) (σ : xS) : xO (Option Nat) :=
  some (.inl s0, σ)
def dm_X1_partAt_p39 (P : xP) (a0 : Nat) (s0 : Option Nat) (σ : xS) : xO (Option Nat) :=
  if s0 = none then
    dm_X1_partAt_p52 P a0 none σ
  else
    x_some s0 fun a_2 =>
    x_chk (σ.K a_2 = 3) <|
    dm_X1_partAt_p52 P a0 (σ.R 202 a_2) σ
def dm_X1_partAt_p33 (P : xP) (a0 : Nat) (v1 : Int32) (σ : xS) : xO (Option Nat) :=
  x_chk (σ.K a0 = 2) <|
  x_some (σ.R 104 a0) fun a_2 =>
  x_chk (σ.K a_2 = 25 ∧ x_in v1 (σ.L a_2)) <|
  dm_X1_partAt_p39 P a0 (σ.AR a_2 (Int32.toNatClampNeg v1)) σ
def dm_X1_partAt (P : xP) (a0 : Nat) (v1 : Int32) (σ : xS) : xO (Option Nat) :=
  x_chk (σ.K a0 = 2) <|
  if (σ.R 106 a0) = none then
    dm_X1_partAt_p33 P a0 v1 σ
  else
    if (σ.I 103 a0) = 0 then
      dm_X1_partAt_p33 P a0 v1 σ
    else
      x_some (σ.R 106 a0) fun a_4 =>
      x_chk (σ.K a_4 = 6) <|
      x_some (σ.R 503 a_4) fun a_6 =>
      x_chk (σ.K a_6 = 26 ∧ x_in v1 (σ.L a_6)) <|
      x_some (σ.AR a_6 (Int32.toNatClampNeg v1)) fun a_8 =>
      x_chk (σ.K a_8 = 5) <|
      x_bind (dm_X1_linkTo P a0 (σ.J 400 a_8) σ) (fun v_10 σ_11 =>
        dm_X1_partAt_p39 P a0 v_10 σ_11
        ) (fun E_13 σ_11 =>
        some (.inr E_13, σ_11)
        )
def dm_X11_joined_p77 (P : xP) (a0 : Nat) (s0 : Int32) (σ : xS) : xO Int32 :=
  some (.inl s0, σ)
def dm_X11_joined_p50 (P : xP) (a0 : Nat) (v3 : Int32) (v4 : Int32) (v5 : Option Nat) (s0 : Int32) (σ : xS) : xO Int32 :=
  x_bind (dm_X11_refuseUnless P s0 σ) (fun _ σ_2 =>
    x_some v5 fun a_4 =>
    x_chk (σ_2.K a_4 = 2) <|
    x_bind (dm_X1_partAt P a_4 v3 σ_2) (fun v_5 σ_6 =>
      if v_5 = none then
        dm_X11_joined_p77 P a0 (-1) σ_6
      else
        x_some v_5 fun a_10 =>
        x_chk (σ_6.K a_10 = 7) <|
        x_bind (dm_X6_bitAt P a_10 v4 σ_6) (fun v_11 σ_12 =>
          dm_X11_joined_p77 P a0 v_11 σ_12
          ) (fun E_15 σ_12 =>
          some (.inr E_15, σ_12)
          )
      ) (fun E_16 σ_6 =>
      some (.inr E_16, σ_6)
      )
    ) (fun E_17 σ_2 =>
    some (.inr E_17, σ_2)
    )
def dm_X11_joined_p49 (P : xP) (a0 : Nat) (v3 : Int32) (v4 : Int32) (v5 : Option Nat) (σ : xS) : xO Int32 :=
  dm_X11_joined_p50 P a0 v3 v4 v5 0 σ
def dm_X11_joined_p26 (P : xP) (a0 : Nat) (v3 : Int32) (v4 : Int32) (v5 : Option Nat) (s0 : Int32) (σ : xS) : xO Int32 :=
  x_bind (dm_X11_refuseUnless P s0 σ) (fun _ σ_2 =>
    if v4 < 0 then
      dm_X11_joined_p49 P a0 v3 v4 v5 σ_2
    else
      x_some v5 fun a_5 =>
      x_chk (σ_2.K a_5 = 2) <|
      x_bind (dm_X1_pinWidth P a_5 v3 σ_2) (fun v_6 σ_7 =>
        if v_6 ≤ v4 then
          dm_X11_joined_p49 P a0 v3 v4 v5 σ_7
        else
          dm_X11_joined_p50 P a0 v3 v4 v5 1 σ_7
        ) (fun E_11 σ_7 =>
        some (.inr E_11, σ_7)
        )
    ) (fun E_12 σ_2 =>
    some (.inr E_12, σ_2)
    )
def dm_X11_joined_p25 (P : xP) (a0 : Nat) (v3 : Int32) (v4 : Int32) (v5 : Option Nat) (σ : xS) : xO Int32 :=
  dm_X11_joined_p26 P a0 v3 v4 v5 0 σ
def dm_X11_joined (P : xP) (a0 : Nat) (v1 : Int32) (v2 : Int32) (v3 : Int32) (v4 : Int32) (σ : xS) : xO Int32 :=
  x_chk (σ.K a0 = 11) <|
  x_bind (dm_X11_instanceAt P a0 v1 v2 σ) (fun v_1 σ_2 =>
    if v3 < 0 then
      dm_X11_joined_p25 P a0 v3 v4 v_1 σ_2
    else
      x_some v_1 fun a_6 =>
      x_chk (σ_2.K a_6 = 2) <|
      x_bind (dm_X1_pinCount P a_6 σ_2) (fun v_7 σ_8 =>
        if v_7 ≤ v3 then
          dm_X11_joined_p25 P a0 v3 v4 v_1 σ_8
        else
          dm_X11_joined_p26 P a0 v3 v4 v_1 1 σ_8
        ) (fun E_12 σ_8 =>
        some (.inr E_12, σ_8)
        )
    ) (fun E_13 σ_2 =>
    some (.inr E_13, σ_2)
    )
def dm_L_joined (P : xP) (v0 : Option Nat) (v1 : Int32) (v2 : Int32) (v3 : Int32) (v4 : Int32) (v5 : Option Nat) (σ : xS) : xO Int32 :=
  x_some v0 fun a_1 =>
  x_chk (σ.K a_1 = 11) <|
  x_bind (dm_X11_joined P a_1 v1 v2 v3 v4 σ) (fun v_2 σ_3 =>
    x_some v5 fun a_6 =>
    x_chk (σ_3.K a_6 = 42 ∧ x_in 0 (σ_3.L a_6) ∧ P.base ≤ a_6) <|
    x_let (σ_3.setAJ a_6 (Int32.toNatClampNeg 0) (Int32.toInt64 v_2)) fun σ_8 =>
    some (.inl 0, σ_8)
    ) (fun E_9 σ_3 =>
    x_chk (E_9 = "java/lang/IndexOutOfBoundsException") <|
    some (.inl 1, σ_3)
    )
def dm_X10_init (P : xP) (a0 : Nat) (σ : xS) : xO Unit :=
  x_chk (¬ (1000 : Int32) < 0 ∧ (Int32.toNatClampNeg 1000) ≤ 60000000 ∧ σ.sz + 1 ≤ P.lim ∧ σ.su + (Int32.toNatClampNeg 1000) ≤ P.slim) <|
  x_let (σ.newA 20 (Int32.toNatClampNeg 1000)) fun σ_2 =>
  x_chk ((σ_2.K a0 = 10) ∧ P.base ≤ a0) <|
  x_let (σ_2.setR 900 a0 (some σ.sz)) fun σ_4 =>
  x_chk ((σ_4.K a0 = 10) ∧ P.base ≤ a0) <|
  x_let (σ_4.setI 901 a0 0) fun σ_6 =>
  x_chk (¬ (1001 : Int32) < 0 ∧ (Int32.toNatClampNeg 1001) ≤ 60000000 ∧ σ_6.sz + 1 ≤ P.lim ∧ σ_6.su + (Int32.toNatClampNeg 1001) ≤ P.slim) <|
  x_let (σ_6.newA 21 (Int32.toNatClampNeg 1001)) fun σ_8 =>
  x_chk ((σ_8.K a0 = 10) ∧ P.base ≤ a0) <|
  x_let (σ_8.setR 902 a0 (some σ_6.sz)) fun σ_10 =>
  x_chk (¬ (1001 : Int32) < 0 ∧ (Int32.toNatClampNeg 1001) ≤ 60000000 ∧ σ_10.sz + 1 ≤ P.lim ∧ σ_10.su + (Int32.toNatClampNeg 1001) ≤ P.slim) <|
  x_let (σ_10.newA 21 (Int32.toNatClampNeg 1001)) fun σ_12 =>
  x_chk ((σ_12.K a0 = 10) ∧ P.base ≤ a0) <|
  x_let (σ_12.setR 903 a0 (some σ_10.sz)) fun σ_14 =>
  x_chk (¬ (1001 : Int32) < 0 ∧ (Int32.toNatClampNeg 1001) ≤ 60000000 ∧ σ_14.sz + 1 ≤ P.lim ∧ σ_14.su + (Int32.toNatClampNeg 1001) ≤ P.slim) <|
  x_let (σ_14.newA 22 (Int32.toNatClampNeg 1001)) fun σ_16 =>
  x_chk ((σ_16.K a0 = 10) ∧ P.base ≤ a0) <|
  x_let (σ_16.setR 904 a0 (some σ_14.sz)) fun σ_18 =>
  x_chk ((σ_18.K a0 = 10) ∧ P.base ≤ a0) <|
  x_let (σ_18.setI 905 a0 0) fun σ_20 =>
  x_chk ((σ_20.K a0 = 10) ∧ P.base ≤ a0) <|
  x_let (σ_20.setI 906 a0 0) fun σ_22 =>
  some (.inl (), σ_22)
def dm_X8_init (P : xP) (a0 : Nat) (v1 : Option Nat) (σ : xS) : xO Unit :=
  x_chk ((σ.K a0 = 4 ∨ σ.K a0 = 9) ∧ P.base ≤ a0) <|
  x_let (σ.setR 301 a0 none) fun σ_2 =>
  x_chk ((σ_2.K a0 = 4 ∨ σ_2.K a0 = 9) ∧ P.base ≤ a0) <|
  x_let (σ_2.setR 302 a0 none) fun σ_4 =>
  x_chk ((σ_4.K a0 = 4 ∨ σ_4.K a0 = 9) ∧ P.base ≤ a0) <|
  x_let (σ_4.setR 300 a0 v1) fun σ_6 =>
  some (.inl (), σ_6)
def dm_X3_init (P : xP) (a0 : Nat) (v1 : Option Nat) (σ : xS) : xO Unit :=
  x_bind (dm_X8_init P a0 v1 σ) (fun _ σ_2 =>
    some (.inl (), σ_2)
    ) (fun E_4 σ_2 =>
    some (.inr E_4, σ_2)
    )
def dm_X9_init (P : xP) (a0 : Nat) (v1 : Option Nat) (σ : xS) : xO Unit :=
  x_bind (dm_X8_init P a0 v1 σ) (fun _ σ_2 =>
    some (.inl (), σ_2)
    ) (fun E_4 σ_2 =>
    some (.inr E_4, σ_2)
    )
def dm_X7_init (P : xP) (a0 : Nat) (σ : xS) : xO Unit :=
  x_chk ((σ.K a0 = 8) ∧ P.base ≤ a0 ∧ x_bool 1) <|
  x_let (σ.setI 700 a0 1) fun σ_2 =>
  x_chk ((σ_2.K a0 = 8) ∧ P.base ≤ a0) <|
  x_let (σ_2.setI 701 a0 0) fun σ_4 =>
  x_chk ((σ_4.K a0 = 8) ∧ P.base ≤ a0) <|
  x_let (σ_4.setI 702 a0 (-1)) fun σ_6 =>
  some (.inl (), σ_6)
def dm_X0_init (P : xP) (a0 : Nat) (σ : xS) : xO Unit :=
  x_chk (¬ (8 : Int32) < 0 ∧ (Int32.toNatClampNeg 8) ≤ 60000000 ∧ σ.sz + 1 ≤ P.lim ∧ σ.su + (Int32.toNatClampNeg 8) ≤ P.slim) <|
  x_let (σ.newA 27 (Int32.toNatClampNeg 8)) fun σ_2 =>
  x_chk ((σ_2.K a0 = 1) ∧ P.base ≤ a0) <|
  x_let (σ_2.setR 0 a0 (some σ.sz)) fun σ_4 =>
  x_chk ((σ_4.K a0 = 1) ∧ P.base ≤ a0) <|
  x_let (σ_4.setI 1 a0 0) fun σ_6 =>
  some (.inl (), σ_6)
def dm_X11_init (P : xP) (a0 : Nat) (σ : xS) : xO Unit :=
  x_chk (σ.sz + 1 ≤ P.lim ∧ σ.su + 7 ≤ P.slim) <|
  x_let (σ.newO 10 7) fun σ_2 =>
  x_bind (dm_X10_init P σ.sz σ_2) (fun _ σ_4 =>
    x_chk ((σ_4.K a0 = 11) ∧ P.base ≤ a0) <|
    x_let (σ_4.setR 1000 a0 (some σ.sz)) fun σ_7 =>
    x_chk (σ_7.sz + 1 ≤ P.lim ∧ σ_7.su + 3 ≤ P.slim) <|
    x_let (σ_7.newO 4 3) fun σ_9 =>
    x_chk (σ_9.K a0 = 11) <|
    x_bind (dm_X3_init P σ_7.sz (σ_9.R 1000 a0) σ_9) (fun _ σ_12 =>
      x_chk ((σ_12.K a0 = 11) ∧ P.base ≤ a0) <|
      x_let (σ_12.setR 1001 a0 (some σ_7.sz)) fun σ_15 =>
      x_chk (σ_15.sz + 1 ≤ P.lim ∧ σ_15.su + 3 ≤ P.slim) <|
      x_let (σ_15.newO 9 3) fun σ_17 =>
      x_chk (σ_17.K a0 = 11) <|
      x_bind (dm_X9_init P σ_15.sz (σ_17.R 1000 a0) σ_17) (fun _ σ_20 =>
        x_chk ((σ_20.K a0 = 11) ∧ P.base ≤ a0) <|
        x_let (σ_20.setR 1002 a0 (some σ_15.sz)) fun σ_23 =>
        x_chk (σ_23.sz + 1 ≤ P.lim ∧ σ_23.su + 3 ≤ P.slim) <|
        x_let (σ_23.newO 8 3) fun σ_25 =>
        x_bind (dm_X7_init P σ_23.sz σ_25) (fun _ σ_27 =>
          x_chk ((σ_27.K a0 = 11) ∧ P.base ≤ a0) <|
          x_let (σ_27.setR 1003 a0 (some σ_23.sz)) fun σ_30 =>
          x_chk (σ_30.sz + 1 ≤ P.lim ∧ σ_30.su + 2 ≤ P.slim) <|
          x_let (σ_30.newO 1 2) fun σ_32 =>
          x_bind (dm_X0_init P σ_30.sz σ_32) (fun _ σ_34 =>
            x_chk ((σ_34.K a0 = 11) ∧ P.base ≤ a0) <|
            x_let (σ_34.setR 1004 a0 (some σ_30.sz)) fun σ_37 =>
            some (.inl (), σ_37)
            ) (fun E_38 σ_34 =>
            some (.inr E_38, σ_34)
            )
          ) (fun E_39 σ_27 =>
          some (.inr E_39, σ_27)
          )
        ) (fun E_40 σ_20 =>
        some (.inr E_40, σ_20)
        )
      ) (fun E_41 σ_12 =>
      some (.inr E_41, σ_12)
      )
    ) (fun E_42 σ_4 =>
    some (.inr E_42, σ_4)
    )
def dm_X12_init (P : xP) (a0 : Nat) (σ : xS) : xO Unit :=
  x_chk (¬ (1000 : Int32) < 0 ∧ (Int32.toNatClampNeg 1000) ≤ 60000000 ∧ σ.sz + 1 ≤ P.lim ∧ σ.su + (Int32.toNatClampNeg 1000) ≤ P.slim) <|
  x_let (σ.newA 31 (Int32.toNatClampNeg 1000)) fun σ_2 =>
  x_chk ((σ_2.K a0 = 12) ∧ P.base ≤ a0) <|
  x_let (σ_2.setR 1101 a0 (some σ.sz)) fun σ_4 =>
  x_chk (¬ (2000 : Int32) < 0 ∧ (Int32.toNatClampNeg 2000) ≤ 60000000 ∧ σ_4.sz + 1 ≤ P.lim ∧ σ_4.su + (Int32.toNatClampNeg 2000) ≤ P.slim) <|
  x_let (σ_4.newA 31 (Int32.toNatClampNeg 2000)) fun σ_6 =>
  x_chk ((σ_6.K a0 = 12) ∧ P.base ≤ a0) <|
  x_let (σ_6.setR 1104 a0 (some σ_4.sz)) fun σ_8 =>
  x_chk (¬ (2 : Int32) < 0 ∧ (Int32.toNatClampNeg 2) ≤ 60000000 ∧ σ_8.sz + 1 ≤ P.lim ∧ σ_8.su + (Int32.toNatClampNeg 2) ≤ P.slim) <|
  x_let (σ_8.newA 31 (Int32.toNatClampNeg 2)) fun σ_10 =>
  x_chk ((σ_10.K a0 = 12) ∧ P.base ≤ a0) <|
  x_let (σ_10.setR 1105 a0 (some σ_8.sz)) fun σ_12 =>
  x_chk (¬ (2 : Int32) < 0 ∧ (Int32.toNatClampNeg 2) ≤ 60000000 ∧ σ_12.sz + 1 ≤ P.lim ∧ σ_12.su + (Int32.toNatClampNeg 2) ≤ P.slim) <|
  x_let (σ_12.newA 31 (Int32.toNatClampNeg 2)) fun σ_14 =>
  x_chk ((σ_14.K a0 = 12) ∧ P.base ≤ a0) <|
  x_let (σ_14.setR 1106 a0 (some σ_12.sz)) fun σ_16 =>
  x_chk (¬ (16 : Int32) < 0 ∧ (Int32.toNatClampNeg 16) ≤ 60000000 ∧ σ_16.sz + 1 ≤ P.lim ∧ σ_16.su + (Int32.toNatClampNeg 16) ≤ P.slim) <|
  x_let (σ_16.newA 31 (Int32.toNatClampNeg 16)) fun σ_18 =>
  x_chk ((σ_18.K a0 = 12) ∧ P.base ≤ a0) <|
  x_let (σ_18.setR 1107 a0 (some σ_16.sz)) fun σ_20 =>
  x_chk (¬ (16 : Int32) < 0 ∧ (Int32.toNatClampNeg 16) ≤ 60000000 ∧ σ_20.sz + 1 ≤ P.lim ∧ σ_20.su + (Int32.toNatClampNeg 16) ≤ P.slim) <|
  x_let (σ_20.newA 31 (Int32.toNatClampNeg 16)) fun σ_22 =>
  x_chk ((σ_22.K a0 = 12) ∧ P.base ≤ a0) <|
  x_let (σ_22.setR 1108 a0 (some σ_20.sz)) fun σ_24 =>
  x_chk (¬ (16 : Int32) < 0 ∧ (Int32.toNatClampNeg 16) ≤ 60000000 ∧ σ_24.sz + 1 ≤ P.lim ∧ σ_24.su + (Int32.toNatClampNeg 16) ≤ P.slim) <|
  x_let (σ_24.newA 31 (Int32.toNatClampNeg 16)) fun σ_26 =>
  x_chk ((σ_26.K a0 = 12) ∧ P.base ≤ a0) <|
  x_let (σ_26.setR 1109 a0 (some σ_24.sz)) fun σ_28 =>
  x_chk (¬ (256 : Int32) < 0 ∧ (Int32.toNatClampNeg 256) ≤ 60000000 ∧ σ_28.sz + 1 ≤ P.lim ∧ σ_28.su + (Int32.toNatClampNeg 256) ≤ P.slim) <|
  x_let (σ_28.newA 31 (Int32.toNatClampNeg 256)) fun σ_30 =>
  x_chk ((σ_30.K a0 = 12) ∧ P.base ≤ a0) <|
  x_let (σ_30.setR 1110 a0 (some σ_28.sz)) fun σ_32 =>
  x_chk (¬ (256 : Int32) < 0 ∧ (Int32.toNatClampNeg 256) ≤ 60000000 ∧ σ_32.sz + 1 ≤ P.lim ∧ σ_32.su + (Int32.toNatClampNeg 256) ≤ P.slim) <|
  x_let (σ_32.newA 31 (Int32.toNatClampNeg 256)) fun σ_34 =>
  x_chk ((σ_34.K a0 = 12) ∧ P.base ≤ a0) <|
  x_let (σ_34.setR 1111 a0 (some σ_32.sz)) fun σ_36 =>
  x_chk (¬ (256 : Int32) < 0 ∧ (Int32.toNatClampNeg 256) ≤ 60000000 ∧ σ_36.sz + 1 ≤ P.lim ∧ σ_36.su + (Int32.toNatClampNeg 256) ≤ P.slim) <|
  x_let (σ_36.newA 31 (Int32.toNatClampNeg 256)) fun σ_38 =>
  x_chk ((σ_38.K a0 = 12) ∧ P.base ≤ a0) <|
  x_let (σ_38.setR 1112 a0 (some σ_36.sz)) fun σ_40 =>
  x_chk (¬ (256 : Int32) < 0 ∧ (Int32.toNatClampNeg 256) ≤ 60000000 ∧ σ_40.sz + 1 ≤ P.lim ∧ σ_40.su + (Int32.toNatClampNeg 256) ≤ P.slim) <|
  x_let (σ_40.newA 31 (Int32.toNatClampNeg 256)) fun σ_42 =>
  x_chk ((σ_42.K a0 = 12) ∧ P.base ≤ a0) <|
  x_let (σ_42.setR 1113 a0 (some σ_40.sz)) fun σ_44 =>
  x_chk (¬ (256 : Int32) < 0 ∧ (Int32.toNatClampNeg 256) ≤ 60000000 ∧ σ_44.sz + 1 ≤ P.lim ∧ σ_44.su + (Int32.toNatClampNeg 256) ≤ P.slim) <|
  x_let (σ_44.newA 33 (Int32.toNatClampNeg 256)) fun σ_46 =>
  x_chk ((σ_46.K a0 = 12) ∧ P.base ≤ a0) <|
  x_let (σ_46.setR 1114 a0 (some σ_44.sz)) fun σ_48 =>
  x_chk (¬ (2 : Int32) < 0 ∧ (Int32.toNatClampNeg 2) ≤ 60000000 ∧ σ_48.sz + 1 ≤ P.lim ∧ σ_48.su + (Int32.toNatClampNeg 2) ≤ P.slim) <|
  x_let (σ_48.newA 31 (Int32.toNatClampNeg 2)) fun σ_50 =>
  x_chk ((σ_50.K a0 = 12) ∧ P.base ≤ a0) <|
  x_let (σ_50.setR 1115 a0 (some σ_48.sz)) fun σ_52 =>
  x_chk (¬ (1024 : Int32) < 0 ∧ (Int32.toNatClampNeg 1024) ≤ 60000000 ∧ σ_52.sz + 1 ≤ P.lim ∧ σ_52.su + (Int32.toNatClampNeg 1024) ≤ P.slim) <|
  x_let (σ_52.newA 31 (Int32.toNatClampNeg 1024)) fun σ_54 =>
  x_chk ((σ_54.K a0 = 12) ∧ P.base ≤ a0) <|
  x_let (σ_54.setR 1116 a0 (some σ_52.sz)) fun σ_56 =>
  x_chk (¬ (1024 : Int32) < 0 ∧ (Int32.toNatClampNeg 1024) ≤ 60000000 ∧ σ_56.sz + 1 ≤ P.lim ∧ σ_56.su + (Int32.toNatClampNeg 1024) ≤ P.slim) <|
  x_let (σ_56.newA 31 (Int32.toNatClampNeg 1024)) fun σ_58 =>
  x_chk ((σ_58.K a0 = 12) ∧ P.base ≤ a0) <|
  x_let (σ_58.setR 1117 a0 (some σ_56.sz)) fun σ_60 =>
  x_chk (¬ (1024 : Int32) < 0 ∧ (Int32.toNatClampNeg 1024) ≤ 60000000 ∧ σ_60.sz + 1 ≤ P.lim ∧ σ_60.su + (Int32.toNatClampNeg 1024) ≤ P.slim) <|
  x_let (σ_60.newA 31 (Int32.toNatClampNeg 1024)) fun σ_62 =>
  x_chk ((σ_62.K a0 = 12) ∧ P.base ≤ a0) <|
  x_let (σ_62.setR 1118 a0 (some σ_60.sz)) fun σ_64 =>
  x_chk (¬ (1024 : Int32) < 0 ∧ (Int32.toNatClampNeg 1024) ≤ 60000000 ∧ σ_64.sz + 1 ≤ P.lim ∧ σ_64.su + (Int32.toNatClampNeg 1024) ≤ P.slim) <|
  x_let (σ_64.newA 31 (Int32.toNatClampNeg 1024)) fun σ_66 =>
  x_chk ((σ_66.K a0 = 12) ∧ P.base ≤ a0) <|
  x_let (σ_66.setR 1119 a0 (some σ_64.sz)) fun σ_68 =>
  x_chk (¬ (1024 : Int32) < 0 ∧ (Int32.toNatClampNeg 1024) ≤ 60000000 ∧ σ_68.sz + 1 ≤ P.lim ∧ σ_68.su + (Int32.toNatClampNeg 1024) ≤ P.slim) <|
  x_let (σ_68.newA 31 (Int32.toNatClampNeg 1024)) fun σ_70 =>
  x_chk ((σ_70.K a0 = 12) ∧ P.base ≤ a0) <|
  x_let (σ_70.setR 1120 a0 (some σ_68.sz)) fun σ_72 =>
  x_chk (¬ (16 : Int32) < 0 ∧ (Int32.toNatClampNeg 16) ≤ 60000000 ∧ σ_72.sz + 1 ≤ P.lim ∧ σ_72.su + (Int32.toNatClampNeg 16) ≤ P.slim) <|
  x_let (σ_72.newA 31 (Int32.toNatClampNeg 16)) fun σ_74 =>
  x_chk ((σ_74.K a0 = 12) ∧ P.base ≤ a0) <|
  x_let (σ_74.setR 1121 a0 (some σ_72.sz)) fun σ_76 =>
  x_chk (¬ (128 : Int32) < 0 ∧ (Int32.toNatClampNeg 128) ≤ 60000000 ∧ σ_76.sz + 1 ≤ P.lim ∧ σ_76.su + (Int32.toNatClampNeg 128) ≤ P.slim) <|
  x_let (σ_76.newA 31 (Int32.toNatClampNeg 128)) fun σ_78 =>
  x_chk ((σ_78.K a0 = 12) ∧ P.base ≤ a0) <|
  x_let (σ_78.setR 1122 a0 (some σ_76.sz)) fun σ_80 =>
  x_chk (¬ (128 : Int32) < 0 ∧ (Int32.toNatClampNeg 128) ≤ 60000000 ∧ σ_80.sz + 1 ≤ P.lim ∧ σ_80.su + (Int32.toNatClampNeg 128) ≤ P.slim) <|
  x_let (σ_80.newA 31 (Int32.toNatClampNeg 128)) fun σ_82 =>
  x_chk ((σ_82.K a0 = 12) ∧ P.base ≤ a0) <|
  x_let (σ_82.setR 1123 a0 (some σ_80.sz)) fun σ_84 =>
  x_chk (¬ (16 : Int32) < 0 ∧ (Int32.toNatClampNeg 16) ≤ 60000000 ∧ σ_84.sz + 1 ≤ P.lim ∧ σ_84.su + (Int32.toNatClampNeg 16) ≤ P.slim) <|
  x_let (σ_84.newA 31 (Int32.toNatClampNeg 16)) fun σ_86 =>
  x_chk ((σ_86.K a0 = 12) ∧ P.base ≤ a0) <|
  x_let (σ_86.setR 1124 a0 (some σ_84.sz)) fun σ_88 =>
  x_chk (¬ (192 : Int32) < 0 ∧ (Int32.toNatClampNeg 192) ≤ 60000000 ∧ σ_88.sz + 1 ≤ P.lim ∧ σ_88.su + (Int32.toNatClampNeg 192) ≤ P.slim) <|
  x_let (σ_88.newA 31 (Int32.toNatClampNeg 192)) fun σ_90 =>
  x_chk ((σ_90.K a0 = 12) ∧ P.base ≤ a0) <|
  x_let (σ_90.setR 1125 a0 (some σ_88.sz)) fun σ_92 =>
  x_chk (¬ (192 : Int32) < 0 ∧ (Int32.toNatClampNeg 192) ≤ 60000000 ∧ σ_92.sz + 1 ≤ P.lim ∧ σ_92.su + (Int32.toNatClampNeg 192) ≤ P.slim) <|
  x_let (σ_92.newA 31 (Int32.toNatClampNeg 192)) fun σ_94 =>
  x_chk ((σ_94.K a0 = 12) ∧ P.base ≤ a0) <|
  x_let (σ_94.setR 1126 a0 (some σ_92.sz)) fun σ_96 =>
  x_chk (¬ (192 : Int32) < 0 ∧ (Int32.toNatClampNeg 192) ≤ 60000000 ∧ σ_96.sz + 1 ≤ P.lim ∧ σ_96.su + (Int32.toNatClampNeg 192) ≤ P.slim) <|
  x_let (σ_96.newA 33 (Int32.toNatClampNeg 192)) fun σ_98 =>
  x_chk ((σ_98.K a0 = 12) ∧ P.base ≤ a0) <|
  x_let (σ_98.setR 1127 a0 (some σ_96.sz)) fun σ_100 =>
  x_chk (¬ (192 : Int32) < 0 ∧ (Int32.toNatClampNeg 192) ≤ 60000000 ∧ σ_100.sz + 1 ≤ P.lim ∧ σ_100.su + (Int32.toNatClampNeg 192) ≤ P.slim) <|
  x_let (σ_100.newA 31 (Int32.toNatClampNeg 192)) fun σ_102 =>
  x_chk ((σ_102.K a0 = 12) ∧ P.base ≤ a0) <|
  x_let (σ_102.setR 1128 a0 (some σ_100.sz)) fun σ_104 =>
  x_chk (¬ (192 : Int32) < 0 ∧ (Int32.toNatClampNeg 192) ≤ 60000000 ∧ σ_104.sz + 1 ≤ P.lim ∧ σ_104.su + (Int32.toNatClampNeg 192) ≤ P.slim) <|
  x_let (σ_104.newA 31 (Int32.toNatClampNeg 192)) fun σ_106 =>
  x_chk ((σ_106.K a0 = 12) ∧ P.base ≤ a0) <|
  x_let (σ_106.setR 1129 a0 (some σ_104.sz)) fun σ_108 =>
  x_chk (¬ (3072 : Int32) < 0 ∧ (Int32.toNatClampNeg 3072) ≤ 60000000 ∧ σ_108.sz + 1 ≤ P.lim ∧ σ_108.su + (Int32.toNatClampNeg 3072) ≤ P.slim) <|
  x_let (σ_108.newA 31 (Int32.toNatClampNeg 3072)) fun σ_110 =>
  x_chk ((σ_110.K a0 = 12) ∧ P.base ≤ a0) <|
  x_let (σ_110.setR 1130 a0 (some σ_108.sz)) fun σ_112 =>
  x_chk (¬ (3072 : Int32) < 0 ∧ (Int32.toNatClampNeg 3072) ≤ 60000000 ∧ σ_112.sz + 1 ≤ P.lim ∧ σ_112.su + (Int32.toNatClampNeg 3072) ≤ P.slim) <|
  x_let (σ_112.newA 31 (Int32.toNatClampNeg 3072)) fun σ_114 =>
  x_chk ((σ_114.K a0 = 12) ∧ P.base ≤ a0) <|
  x_let (σ_114.setR 1131 a0 (some σ_112.sz)) fun σ_116 =>
  x_chk (¬ (3072 : Int32) < 0 ∧ (Int32.toNatClampNeg 3072) ≤ 60000000 ∧ σ_116.sz + 1 ≤ P.lim ∧ σ_116.su + (Int32.toNatClampNeg 3072) ≤ P.slim) <|
  x_let (σ_116.newA 31 (Int32.toNatClampNeg 3072)) fun σ_118 =>
  x_chk ((σ_118.K a0 = 12) ∧ P.base ≤ a0) <|
  x_let (σ_118.setR 1132 a0 (some σ_116.sz)) fun σ_120 =>
  x_chk (¬ (16 : Int32) < 0 ∧ (Int32.toNatClampNeg 16) ≤ 60000000 ∧ σ_120.sz + 1 ≤ P.lim ∧ σ_120.su + (Int32.toNatClampNeg 16) ≤ P.slim) <|
  x_let (σ_120.newA 31 (Int32.toNatClampNeg 16)) fun σ_122 =>
  x_chk ((σ_122.K a0 = 12) ∧ P.base ≤ a0) <|
  x_let (σ_122.setR 1133 a0 (some σ_120.sz)) fun σ_124 =>
  x_chk ((σ_124.K a0 = 12) ∧ P.base ≤ a0) <|
  x_let (σ_124.setI 1139 a0 (-1)) fun σ_126 =>
  some (.inl (), σ_126)
def dm_X10_isCharacter_p23 (P : xP) (s0 : Int32) (σ : xS) : xO Int32 :=
  x_chk (x_bool s0) <|
  some (.inl s0, σ)
def dm_X10_isCharacter_p18 (P : xP) (σ : xS) : xO Int32 :=
  dm_X10_isCharacter_p23 P 1 σ
def dm_X10_isCharacter_p12 (P : xP) (v0 : Int32) (σ : xS) : xO Int32 :=
  if v0 = 10 then
    dm_X10_isCharacter_p18 P σ
  else
    dm_X10_isCharacter_p23 P 0 σ
def dm_X10_isCharacter (P : xP) (v0 : Int32) (σ : xS) : xO Int32 :=
  if v0 < 32 then
    dm_X10_isCharacter_p12 P v0 σ
  else
    if v0 ≤ 126 then
      dm_X10_isCharacter_p18 P σ
    else
      dm_X10_isCharacter_p12 P v0 σ
def dm_X10_room (P : xP) (a0 : Nat) (σ : xS) : xO Int32 :=
  x_chk (σ.K a0 = 10) <|
  some (.inl (1000 - (σ.I 901 a0)), σ)
def dm_X10_append_p30 (P : xP) (a0 : Nat) (σ : xS) : xO Unit :=
  some (.inl (), σ)
def dm_X10_append (P : xP) (a0 : Nat) (v1 : Int32) (σ : xS) : xO Unit :=
  x_chk (σ.K a0 = 10) <|
  if 1000 ≤ (σ.I 901 a0) then
    dm_X10_append_p30 P a0 σ
  else
    x_some (σ.R 900 a0) fun a_3 =>
    x_chk (σ.K a_3 = 20 ∧ x_in (σ.I 901 a0) (σ.L a_3) ∧ P.base ≤ a_3 ∧ x_char v1) <|
    x_let (σ.setAI a_3 (Int32.toNatClampNeg (σ.I 901 a0)) v1) fun σ_5 =>
    x_chk (σ_5.K a0 = 10) <|
    x_chk ((σ_5.K a0 = 10) ∧ P.base ≤ a0) <|
    x_let (σ_5.setI 901 a0 ((σ_5.I 901 a0) + 1)) fun σ_8 =>
    dm_X10_append_p30 P a0 σ_8
def dm_X11_unit_p18 (P : xP) (a0 : Nat) (σ : xS) : xO Int32 :=
  some (.inl 0, σ)
def dm_X11_unit (P : xP) (a0 : Nat) (v1 : Int32) (σ : xS) : xO Int32 :=
  x_bind (dm_X10_isCharacter P v1 σ) (fun v_1 σ_2 =>
    if v_1 = 0 then
      dm_X11_unit_p18 P a0 σ_2
    else
      x_chk (σ_2.K a0 = 11) <|
      x_some (σ_2.R 1000 a0) fun a_6 =>
      x_chk (σ_2.K a_6 = 10) <|
      x_bind (dm_X10_room P a_6 σ_2) (fun v_7 σ_8 =>
        if 1 ≤ v_7 then
          x_chk (σ_8.K a0 = 11) <|
          x_some (σ_8.R 1000 a0) fun a_13 =>
          x_chk (σ_8.K a_13 = 10) <|
          x_bind (dm_X10_append P a_13 (UInt32.toInt32 (Int32.toUInt32 v1 % 65536)) σ_8) (fun _ σ_15 =>
            some (.inl 1, σ_15)
            ) (fun E_18 σ_15 =>
            some (.inr E_18, σ_15)
            )
        else
          dm_X11_unit_p18 P a0 σ_8
        ) (fun E_19 σ_8 =>
        some (.inr E_19, σ_8)
        )
    ) (fun E_20 σ_2 =>
    some (.inr E_20, σ_2)
    )
def dm_X12_isCharacter_p23 (P : xP) (s0 : Int32) (σ : xS) : xO Int32 :=
  x_chk (x_bool s0) <|
  some (.inl s0, σ)
def dm_X12_isCharacter_p18 (P : xP) (σ : xS) : xO Int32 :=
  dm_X12_isCharacter_p23 P 1 σ
def dm_X12_isCharacter_p12 (P : xP) (v0 : Int32) (σ : xS) : xO Int32 :=
  if v0 = 10 then
    dm_X12_isCharacter_p18 P σ
  else
    dm_X12_isCharacter_p23 P 0 σ
def dm_X12_isCharacter (P : xP) (v0 : Int32) (σ : xS) : xO Int32 :=
  if v0 < 32 then
    dm_X12_isCharacter_p12 P v0 σ
  else
    if v0 ≤ 126 then
      dm_X12_isCharacter_p18 P σ
    else
      dm_X12_isCharacter_p12 P v0 σ
def dm_X12_unit_p22 (P : xP) (a0 : Nat) (σ : xS) : xO Int32 :=
  some (.inl 0, σ)
def dm_X12_unit (P : xP) (a0 : Nat) (v1 : Int32) (σ : xS) : xO Int32 :=
  x_chk ((σ.K a0 = 12) ∧ P.base ≤ a0) <|
  x_let (σ.setI 1100 a0 0) fun σ_2 =>
  x_bind (dm_X12_isCharacter P v1 σ_2) (fun v_3 σ_4 =>
    if v_3 = 0 then
      dm_X12_unit_p22 P a0 σ_4
    else
      x_chk (σ_4.K a0 = 12) <|
      if (σ_4.I 1102 a0) = 1000 then
        dm_X12_unit_p22 P a0 σ_4
      else
        x_some (σ_4.R 1101 a0) fun a_9 =>
        x_chk (σ_4.K a_9 = 31 ∧ x_in (σ_4.I 1102 a0) (σ_4.L a_9) ∧ P.base ≤ a_9) <|
        x_let (σ_4.setAI a_9 (Int32.toNatClampNeg (σ_4.I 1102 a0)) v1) fun σ_11 =>
        x_chk (σ_11.K a0 = 12) <|
        x_chk ((σ_11.K a0 = 12) ∧ P.base ≤ a0) <|
        x_let (σ_11.setI 1102 a0 ((σ_11.I 1102 a0) + 1)) fun σ_14 =>
        some (.inl 1, σ_14)
    ) (fun E_15 σ_4 =>
    some (.inr E_15, σ_4)
    )
def dm_X11_units_p44 (P : xP) (k5 : Int32 → Int32 → Int32 → xS → xO Int32) (a0 : Nat) (v1 : Int32) (v3 : Int32) (s0 : Int32) (s1 : Int32) (σ : xS) : xO Int32 :=
  x_let ((s0 + s1)) fun v_1 =>
  x_let (v3 + (-8)) fun v_2 =>
  k5 v1 v_1 v_2 σ
def dm_X11_units_p33 (P : xP) (k5 : Int32 → Int32 → Int32 → xS → xO Int32) (a0 : Nat) (v1 : Int32) (v2 : Int32) (v3 : Int32) (v4 : Int32) (σ : xS) : xO Int32 :=
  if v4 = 0 then
    dm_X11_units_p44 P k5 a0 v1 v3 v2 0 σ
  else
    dm_X11_units_p44 P k5 a0 v1 v3 v2 1 σ
def dm_X11_units_p96 (P : xP) (k68 : Int32 → Int32 → xS → xO Int32) (a0 : Nat) (v1 : Int32) (v3 : Int32) (σ : xS) : xO Int32 :=
  x_let (v3 + (-8)) fun v_1 =>
  k68 v1 v_1 σ
def dm_X11_units_L68 (P : xP) (a0 : Nat) : Nat → Int32 → Int32 → xS → xO Int32
  | 0, _, _, _ => none
  | n + 1, v1, v3, σ =>
    if v3 < 0 then
      some (.inl 1, σ)
    else
      x_let (((UInt32.toInt32 (Int32.toUInt32 v1 >>> (Int32.toUInt32 v3 &&& Int32.toUInt32 31))) &&& 255)) fun v_2 =>
      if v_2 = 0 then
        dm_X11_units_p96 P (dm_X11_units_L68 P a0 n) a0 v1 v3 σ
      else
        x_chk (σ.K a0 = 11) <|
        x_some (σ.R 1000 a0) fun a_5 =>
        x_chk (σ.K a_5 = 10) <|
        x_bind (dm_X10_append P a_5 (UInt32.toInt32 (Int32.toUInt32 v_2 % 65536)) σ) (fun _ σ_7 =>
          dm_X11_units_p96 P (dm_X11_units_L68 P a0 n) a0 v1 v3 σ_7
          ) (fun E_10 σ_7 =>
          some (.inr E_10, σ_7)
          )
def dm_X11_units_L5 (P : xP) (a0 : Nat) : Nat → Int32 → Int32 → Int32 → xS → xO Int32
  | 0, _, _, _, _ => none
  | n + 1, v1, v2, v3, σ =>
    if v3 < 0 then
      x_chk (σ.K a0 = 11) <|
      x_some (σ.R 1000 a0) fun a_3 =>
      x_chk (σ.K a_3 = 10) <|
      x_bind (dm_X10_room P a_3 σ) (fun v_4 σ_5 =>
        if v2 ≤ v_4 then
          dm_X11_units_L68 P a0 P.N v1 24 σ_5
        else
          some (.inl 0, σ_5)
        ) (fun E_9 σ_5 =>
        some (.inr E_9, σ_5)
        )
    else
      x_let (((UInt32.toInt32 (Int32.toUInt32 v1 >>> (Int32.toUInt32 v3 &&& Int32.toUInt32 31))) &&& 255)) fun v_10 =>
      if v_10 = 0 then
        dm_X11_units_p33 P (dm_X11_units_L5 P a0 n) a0 v1 v2 v3 v_10 σ
      else
        x_bind (dm_X10_isCharacter P v_10 σ) (fun v_12 σ_13 =>
          if v_12 = 0 then
            some (.inl 0, σ_13)
          else
            dm_X11_units_p33 P (dm_X11_units_L5 P a0 n) a0 v1 v2 v3 v_10 σ_13
          ) (fun E_16 σ_13 =>
          some (.inr E_16, σ_13)
          )
def dm_X11_units (P : xP) (a0 : Nat) (v1 : Int32) (σ : xS) : xO Int32 :=
  dm_X11_units_L5 P a0 P.N v1 0 24 σ
def dm_X12_units_p63 (P : xP) (k13 : Int32 → Int32 → Int32 → Int32 → xS → xO Int32) (a0 : Nat) (v1 : Int32) (v2 : Int32) (v4 : Int32) (s0 : Int32) (σ : xS) : xO Int32 :=
  x_let (v4 + (-8)) fun v_1 =>
  k13 v1 v2 s0 v_1 σ
def dm_X12_units_p58 (P : xP) (k13 : Int32 → Int32 → Int32 → Int32 → xS → xO Int32) (a0 : Nat) (v1 : Int32) (v2 : Int32) (v4 : Int32) (σ : xS) : xO Int32 :=
  dm_X12_units_p63 P k13 a0 v1 v2 v4 1 σ
def dm_X12_units_p62 (P : xP) (k13 : Int32 → Int32 → Int32 → Int32 → xS → xO Int32) (a0 : Nat) (v1 : Int32) (v2 : Int32) (v4 : Int32) (σ : xS) : xO Int32 :=
  dm_X12_units_p63 P k13 a0 v1 v2 v4 0 σ
def dm_X12_units_p40 (P : xP) (k13 : Int32 → Int32 → Int32 → Int32 → xS → xO Int32) (a0 : Nat) (v1 : Int32) (v3 : Int32) (v4 : Int32) (v5 : Int32) (s0 : Int32) (σ : xS) : xO Int32 :=
  if v3 = 0 then
    dm_X12_units_p62 P k13 a0 v1 s0 v4 σ
  else
    if v5 = 0 then
      dm_X12_units_p58 P k13 a0 v1 s0 v4 σ
    else
      x_bind (dm_X12_isCharacter P v5 σ) (fun v_3 σ_4 =>
        if v_3 = 0 then
          dm_X12_units_p62 P k13 a0 v1 s0 v4 σ_4
        else
          dm_X12_units_p58 P k13 a0 v1 s0 v4 σ_4
        ) (fun E_7 σ_4 =>
        some (.inr E_7, σ_4)
        )
def dm_X12_units_p86 (P : xP) (a0 : Nat) (σ : xS) : xO Int32 :=
  some (.inl 0, σ)
def dm_X12_units_p133 (P : xP) (k92 : Int32 → Int32 → xS → xO Int32) (a0 : Nat) (v1 : Int32) (v4 : Int32) (σ : xS) : xO Int32 :=
  x_let (v4 + (-8)) fun v_1 =>
  k92 v1 v_1 σ
def dm_X12_units_L92 (P : xP) (a0 : Nat) : Nat → Int32 → Int32 → xS → xO Int32
  | 0, _, _, _ => none
  | n + 1, v1, v4, σ =>
    if v4 < 0 then
      some (.inl 1, σ)
    else
      x_let (((UInt32.toInt32 (Int32.toUInt32 v1 >>> (Int32.toUInt32 v4 &&& Int32.toUInt32 31))) &&& 255)) fun v_2 =>
      if v_2 ≤ 0 then
        dm_X12_units_p133 P (dm_X12_units_L92 P a0 n) a0 v1 v4 σ
      else
        x_chk (σ.K a0 = 12) <|
        x_some (σ.R 1101 a0) fun a_5 =>
        x_chk (σ.K a_5 = 31 ∧ x_in (σ.I 1102 a0) (σ.L a_5) ∧ P.base ≤ a_5) <|
        x_let (σ.setAI a_5 (Int32.toNatClampNeg (σ.I 1102 a0)) v_2) fun σ_7 =>
        x_chk (σ_7.K a0 = 12) <|
        x_chk ((σ_7.K a0 = 12) ∧ P.base ≤ a0) <|
        x_let (σ_7.setI 1102 a0 ((σ_7.I 1102 a0) + 1)) fun σ_10 =>
        dm_X12_units_p133 P (dm_X12_units_L92 P a0 n) a0 v1 v4 σ_10
def dm_X12_units_L13 (P : xP) (a0 : Nat) : Nat → Int32 → Int32 → Int32 → Int32 → xS → xO Int32
  | 0, _, _, _, _, _ => none
  | n + 1, v1, v2, v3, v4, σ =>
    if v4 < 0 then
      if v3 = 0 then
        dm_X12_units_p86 P a0 σ
      else
        x_chk (σ.K a0 = 12) <|
        if ((σ.I 1102 a0) + v2) ≤ 1000 then
          dm_X12_units_L92 P a0 P.N v1 24 σ
        else
          dm_X12_units_p86 P a0 σ
    else
      x_let (((UInt32.toInt32 (Int32.toUInt32 v1 >>> (Int32.toUInt32 v4 &&& Int32.toUInt32 31))) &&& 255)) fun v_5 =>
      if v_5 ≤ 0 then
        dm_X12_units_p40 P (dm_X12_units_L13 P a0 n) a0 v1 v3 v4 v_5 v2 σ
      else
        dm_X12_units_p40 P (dm_X12_units_L13 P a0 n) a0 v1 v3 v4 v_5 (v2 + 1) σ
def dm_X12_units (P : xP) (a0 : Nat) (v1 : Int32) (σ : xS) : xO Int32 :=
  x_chk ((σ.K a0 = 12) ∧ P.base ≤ a0) <|
  x_let (σ.setI 1100 a0 0) fun σ_2 =>
  dm_X12_units_L13 P a0 P.N v1 0 1 24 σ_2
def dm_X10_behindBlanks_p84 (P : xP) (k4 : Int32 → Int32 → xS → xO Int32) (a0 : Nat) (v2 : Int32) (v3 : Int32) (σ : xS) : xO Int32 :=
  x_let (v3 + 1) fun v_1 =>
  k4 v2 v_1 σ
def dm_X10_behindBlanks_p71 (P : xP) (k4 : Int32 → Int32 → xS → xO Int32) (a0 : Nat) (v2 : Int32) (v3 : Int32) (v4 : Int32) (σ : xS) : xO Int32 :=
  if v2 = 0 then
    if v4 = 32 then
      dm_X10_behindBlanks_p84 P k4 a0 v2 v3 σ
    else
      some (.inl v3, σ)
  else
    dm_X10_behindBlanks_p84 P k4 a0 v2 v3 σ
def dm_X10_behindBlanks_L4 (P : xP) (a0 : Nat) : Nat → Int32 → Int32 → xS → xO Int32
  | 0, _, _, _ => none
  | n + 1, v2, v3, σ =>
    x_chk (σ.K a0 = 10) <|
    if (σ.I 901 a0) ≤ v3 then
      some (.inl (σ.I 901 a0), σ)
    else
      x_some (σ.R 900 a0) fun a_3 =>
      x_chk (σ.K a_3 = 20 ∧ x_in v3 (σ.L a_3)) <|
      x_let ((σ.AI a_3 (Int32.toNatClampNeg v3))) fun v_5 =>
      if v_5 = 10 then
        dm_X10_behindBlanks_p84 P (dm_X10_behindBlanks_L4 P a0 n) a0 0 v3 σ
      else
        if v2 = 0 then
          if v_5 = 47 then
            if (σ.I 901 a0) ≤ (v3 + 1) then
              dm_X10_behindBlanks_p71 P (dm_X10_behindBlanks_L4 P a0 n) a0 v2 v3 v_5 σ
            else
              x_chk (σ.K a_3 = 20 ∧ x_in (v3 + 1) (σ.L a_3)) <|
              if (σ.AI a_3 (Int32.toNatClampNeg (v3 + 1))) = 47 then
                dm_X10_behindBlanks_p84 P (dm_X10_behindBlanks_L4 P a0 n) a0 1 v3 σ
              else
                dm_X10_behindBlanks_p71 P (dm_X10_behindBlanks_L4 P a0 n) a0 v2 v3 v_5 σ
          else
            dm_X10_behindBlanks_p71 P (dm_X10_behindBlanks_L4 P a0 n) a0 v2 v3 v_5 σ
        else
          dm_X10_behindBlanks_p71 P (dm_X10_behindBlanks_L4 P a0 n) a0 v2 v3 v_5 σ
def dm_X10_behindBlanks (P : xP) (a0 : Nat) (v1 : Int32) (σ : xS) : xO Int32 :=
  dm_X10_behindBlanks_L4 P a0 P.N 0 v1 σ
def dm_X10_isDigit_p17 (P : xP) (s0 : Int32) (σ : xS) : xO Int32 :=
  x_chk (x_bool s0) <|
  some (.inl s0, σ)
def dm_X10_isDigit_p16 (P : xP) (σ : xS) : xO Int32 :=
  dm_X10_isDigit_p17 P 0 σ
def dm_X10_isDigit (P : xP) (v0 : Int32) (σ : xS) : xO Int32 :=
  if v0 < 48 then
    dm_X10_isDigit_p16 P σ
  else
    if 57 < v0 then
      dm_X10_isDigit_p16 P σ
    else
      dm_X10_isDigit_p17 P 1 σ
def dm_X10_isLetter_p35 (P : xP) (s0 : Int32) (σ : xS) : xO Int32 :=
  x_chk (x_bool s0) <|
  some (.inl s0, σ)
def dm_X10_isLetter_p30 (P : xP) (σ : xS) : xO Int32 :=
  dm_X10_isLetter_p35 P 1 σ
def dm_X10_isLetter_p24 (P : xP) (v0 : Int32) (σ : xS) : xO Int32 :=
  if v0 = 95 then
    dm_X10_isLetter_p30 P σ
  else
    dm_X10_isLetter_p35 P 0 σ
def dm_X10_isLetter_p12 (P : xP) (v0 : Int32) (σ : xS) : xO Int32 :=
  if v0 < 65 then
    dm_X10_isLetter_p24 P v0 σ
  else
    if v0 ≤ 90 then
      dm_X10_isLetter_p30 P σ
    else
      dm_X10_isLetter_p24 P v0 σ
def dm_X10_isLetter (P : xP) (v0 : Int32) (σ : xS) : xO Int32 :=
  if v0 < 97 then
    dm_X10_isLetter_p12 P v0 σ
  else
    if v0 ≤ 122 then
      dm_X10_isLetter_p30 P σ
    else
      dm_X10_isLetter_p12 P v0 σ
def dm_X10_rowEnd_p70 (P : xP) (a0 : Nat) (v3 : Int32) (σ : xS) : xO Int32 :=
  some (.inl v3, σ)
def dm_X10_rowEnd_p72 (P : xP) (k34 : Int32 → Int32 → xS → xO Int32) (a0 : Nat) (v2 : Int32) (v3 : Int32) (σ : xS) : xO Int32 :=
  x_let (v3 + 1) fun v_1 =>
  k34 v2 v_1 σ
def dm_X10_rowEnd_L34 (P : xP) (a0 : Nat) : Nat → Int32 → Int32 → xS → xO Int32
  | 0, _, _, _ => none
  | n + 1, v2, v3, σ =>
    x_chk (σ.K a0 = 10) <|
    if (σ.I 901 a0) ≤ v3 then
      some (.inl (σ.I 901 a0), σ)
    else
      x_some (σ.R 900 a0) fun a_3 =>
      x_chk (σ.K a_3 = 20 ∧ x_in v3 (σ.L a_3)) <|
      x_bind (dm_X10_isDigit P (σ.AI a_3 (Int32.toNatClampNeg v3)) σ) (fun v_5 σ_6 =>
        if v_5 = 0 then
          if v2 = 0 then
            x_chk (σ_6.K a0 = 10) <|
            x_some (σ_6.R 900 a0) fun a_11 =>
            x_chk (σ_6.K a_11 = 20 ∧ x_in v3 (σ_6.L a_11)) <|
            x_bind (dm_X10_isLetter P (σ_6.AI a_11 (Int32.toNatClampNeg v3)) σ_6) (fun v_13 σ_14 =>
              if v_13 = 0 then
                dm_X10_rowEnd_p70 P a0 v3 σ_14
              else
                dm_X10_rowEnd_p72 P (dm_X10_rowEnd_L34 P a0 n) a0 v2 v3 σ_14
              ) (fun E_17 σ_14 =>
              some (.inr E_17, σ_14)
              )
          else
            dm_X10_rowEnd_p70 P a0 v3 σ_6
        else
          dm_X10_rowEnd_p72 P (dm_X10_rowEnd_L34 P a0 n) a0 v2 v3 σ_6
        ) (fun E_18 σ_6 =>
        some (.inr E_18, σ_6)
        )
def dm_X10_rowEnd_p30 (P : xP) (a0 : Nat) (v1 : Int32) (v2 : Int32) (σ : xS) : xO Int32 :=
  x_let ((v1 + 1)) fun v_1 =>
  dm_X10_rowEnd_L34 P a0 P.N v2 v_1 σ
def dm_X10_rowEnd (P : xP) (a0 : Nat) (v1 : Int32) (σ : xS) : xO Int32 :=
  x_chk (σ.K a0 = 10) <|
  x_some (σ.R 900 a0) fun a_2 =>
  x_chk (σ.K a_2 = 20 ∧ x_in v1 (σ.L a_2)) <|
  x_bind (dm_X10_isDigit P (σ.AI a_2 (Int32.toNatClampNeg v1)) σ) (fun v_4 σ_5 =>
    if v_4 = 0 then
      x_chk (σ_5.K a0 = 10) <|
      x_some (σ_5.R 900 a0) fun a_9 =>
      x_chk (σ_5.K a_9 = 20 ∧ x_in v1 (σ_5.L a_9)) <|
      x_bind (dm_X10_isLetter P (σ_5.AI a_9 (Int32.toNatClampNeg v1)) σ_5) (fun v_11 σ_12 =>
        if v_11 = 0 then
          some (.inl (v1 + 1), σ_12)
        else
          dm_X10_rowEnd_p30 P a0 v1 v_4 σ_12
        ) (fun E_15 σ_12 =>
        some (.inr E_15, σ_12)
        )
    else
      dm_X10_rowEnd_p30 P a0 v1 v_4 σ_5
    ) (fun E_16 σ_5 =>
    some (.inr E_16, σ_5)
    )
def dm_X10_numberIn_p41 (P : xP) (a0 : Nat) (v3 : Int32) (σ : xS) : xO Int32 :=
  some (.inl v3, σ)
def dm_X10_numberIn_L5 (P : xP) (a0 : Nat) : Nat → Int32 → Int32 → Int32 → Int32 → xS → xO Int32
  | 0, _, _, _, _, _ => none
  | n + 1, v1, v2, v3, v4, σ =>
    if v2 ≤ v4 then
      dm_X10_numberIn_p41 P a0 v3 σ
    else
      if (v1 + 2) ≤ v4 then
        dm_X10_numberIn_p41 P a0 v3 σ
      else
        x_chk (σ.K a0 = 10) <|
        x_some (σ.R 900 a0) fun a_4 =>
        x_chk (σ.K a_4 = 20 ∧ x_in v4 (σ.L a_4)) <|
        x_let ((((v3 * 10) + (σ.AI a_4 (Int32.toNatClampNeg v4))) - 48)) fun v_6 =>
        x_let (v4 + 1) fun v_7 =>
        dm_X10_numberIn_L5 P a0 n v1 v2 v_6 v_7 σ
def dm_X10_numberIn (P : xP) (a0 : Nat) (v1 : Int32) (v2 : Int32) (σ : xS) : xO Int32 :=
  dm_X10_numberIn_L5 P a0 P.N v1 v2 0 v1 σ
def dm_X10_nameIn_p48 (P : xP) (a0 : Nat) (v3 : Int64) (σ : xS) : xO Int64 :=
  some (.inl v3, σ)
def dm_X10_nameIn_L5 (P : xP) (a0 : Nat) : Nat → Int32 → Int32 → Int64 → Int32 → xS → xO Int64
  | 0, _, _, _, _, _ => none
  | n + 1, v1, v2, v3, v5, σ =>
    if 8 ≤ v5 then
      dm_X10_nameIn_p48 P a0 v3 σ
    else
      if v2 ≤ (v1 + v5) then
        dm_X10_nameIn_p48 P a0 v3 σ
      else
        x_chk (σ.K a0 = 10) <|
        x_some (σ.R 900 a0) fun a_4 =>
        x_chk (σ.K a_4 = 20 ∧ x_in (v1 + v5) (σ.L a_4)) <|
        x_let ((v3 ||| ((Int32.toInt64 (σ.AI a_4 (Int32.toNatClampNeg (v1 + v5)))) <<< (Int32.toInt64 (56 - (8 * v5)) &&& 63)))) fun v_6 =>
        x_let (v5 + 1) fun v_7 =>
        dm_X10_nameIn_L5 P a0 n v1 v2 v_6 v_7 σ
def dm_X10_nameIn (P : xP) (a0 : Nat) (v1 : Int32) (v2 : Int32) (σ : xS) : xO Int64 :=
  dm_X10_nameIn_L5 P a0 P.N v1 v2 0 0 σ
def dm_X10_packed_p41 (P : xP) (v1 : Int64) (σ : xS) : xO Int64 :=
  some (.inl v1, σ)
def dm_X10_packed_L4 (P : xP) : Nat → Option Nat → Int64 → Int32 → xS → xO Int64
  | 0, _, _, _, _ => none
  | n + 1, v0, v1, v3, σ =>
    x_some v0 fun a_1 =>
    x_chk (σ.K a_1 = 13) <|
    x_bind (dm_J0_length_8abf5 P a_1 σ) (fun v_2 σ_3 =>
      if v_2 ≤ v3 then
        dm_X10_packed_p41 P v1 σ_3
      else
        if 8 ≤ v3 then
          dm_X10_packed_p41 P v1 σ_3
        else
          x_chk (σ_3.K a_1 = 13) <|
          x_bind (dm_J0_charAt_5068e P a_1 v3 σ_3) (fun v_8 σ_9 =>
            x_let ((v1 ||| ((Int32.toInt64 v_8) <<< (Int32.toInt64 (56 - (8 * v3)) &&& 63)))) fun v_12 =>
            x_let (v3 + 1) fun v_13 =>
            dm_X10_packed_L4 P n v0 v_12 v_13 σ_9
            ) (fun E_14 σ_9 =>
            some (.inr E_14, σ_9)
            )
      ) (fun E_15 σ_3 =>
      some (.inr E_15, σ_3)
      )
def dm_X10_packed (P : xP) (v0 : Option Nat) (σ : xS) : xO Int64 :=
  dm_X10_packed_L4 P P.N v0 0 0 σ
def dm_X10_isKeyword_p65 (P : xP) (s0 : Int32) (σ : xS) : xO Int32 :=
  x_chk (x_bool s0) <|
  some (.inl s0, σ)
def dm_X10_isKeyword_p60 (P : xP) (σ : xS) : xO Int32 :=
  dm_X10_isKeyword_p65 P 1 σ
def dm_X10_isKeyword (P : xP) (v0 : Int64) (σ : xS) : xO Int32 :=
  x_bind (dm_X10_packed P (some (P.ad 19)) σ) (fun v_1 σ_2 =>
    if (lg_cmp v0 v_1) = 0 then
      dm_X10_isKeyword_p60 P σ_2
    else
      x_bind (dm_X10_packed P (some (P.ad 15)) σ_2) (fun v_5 σ_6 =>
        if (lg_cmp v0 v_5) = 0 then
          dm_X10_isKeyword_p60 P σ_6
        else
          x_bind (dm_X10_packed P (some (P.ad 23)) σ_6) (fun v_9 σ_10 =>
            if (lg_cmp v0 v_9) = 0 then
              dm_X10_isKeyword_p60 P σ_10
            else
              x_bind (dm_X10_packed P (some (P.ad 29)) σ_10) (fun v_13 σ_14 =>
                if (lg_cmp v0 v_13) = 0 then
                  dm_X10_isKeyword_p60 P σ_14
                else
                  x_bind (dm_X10_packed P (some (P.ad 7)) σ_14) (fun v_17 σ_18 =>
                    if (lg_cmp v0 v_17) = 0 then
                      dm_X10_isKeyword_p60 P σ_18
                    else
                      x_bind (dm_X10_packed P (some (P.ad 11)) σ_18) (fun v_21 σ_22 =>
                        if (lg_cmp v0 v_21) = 0 then
                          dm_X10_isKeyword_p60 P σ_22
                        else
                          dm_X10_isKeyword_p65 P 0 σ_22
                        ) (fun E_25 σ_22 =>
                        some (.inr E_25, σ_22)
                        )
                    ) (fun E_26 σ_18 =>
                    some (.inr E_26, σ_18)
                    )
                ) (fun E_27 σ_14 =>
                some (.inr E_27, σ_14)
                )
            ) (fun E_28 σ_10 =>
            some (.inr E_28, σ_10)
            )
        ) (fun E_29 σ_6 =>
        some (.inr E_29, σ_6)
        )
    ) (fun E_30 σ_2 =>
    some (.inr E_30, σ_2)
    )
def dm_X10_addWord_p153 (P : xP) (a0 : Nat) (σ : xS) : xO Unit :=
  x_chk (σ.K a0 = 10) <|
  x_chk ((σ.K a0 = 10) ∧ P.base ≤ a0) <|
  x_let (σ.setI 905 a0 ((σ.I 905 a0) + 1)) fun σ_3 =>
  some (.inl (), σ_3)
def dm_X10_addWord_p58 (P : xP) (a0 : Nat) (s0 : Option Nat) (s1 : Int32) (s2 : Int32) (σ : xS) : xO Unit :=
  x_some s0 fun a_1 =>
  x_chk (σ.K a_1 = 21 ∧ x_in s1 (σ.L a_1) ∧ P.base ≤ a_1) <|
  x_let (σ.setAI a_1 (Int32.toNatClampNeg s1) s2) fun σ_3 =>
  dm_X10_addWord_p153 P a0 σ_3
def dm_X10_addWord_p123 (P : xP) (a0 : Nat) (s0 : Option Nat) (s1 : Int32) (s2 : Int32) (σ : xS) : xO Unit :=
  x_some s0 fun a_1 =>
  x_chk (σ.K a_1 = 21 ∧ x_in s1 (σ.L a_1) ∧ P.base ≤ a_1) <|
  x_let (σ.setAI a_1 (Int32.toNatClampNeg s1) s2) fun σ_3 =>
  dm_X10_addWord_p153 P a0 σ_3
def dm_X10_addWord (P : xP) (a0 : Nat) (v1 : Int32) (v2 : Int32) (σ : xS) : xO Unit :=
  x_chk (σ.K a0 = 10) <|
  x_some (σ.R 902 a0) fun a_2 =>
  x_chk (σ.K a_2 = 21 ∧ x_in (σ.I 905 a0) (σ.L a_2) ∧ P.base ≤ a_2) <|
  x_let (σ.setAI a_2 (Int32.toNatClampNeg (σ.I 905 a0)) v1) fun σ_4 =>
  x_chk (σ_4.K a0 = 10) <|
  x_some (σ_4.R 900 a0) fun a_6 =>
  x_chk (σ_4.K a_6 = 20 ∧ x_in v1 (σ_4.L a_6)) <|
  x_bind (dm_X10_isDigit P (σ_4.AI a_6 (Int32.toNatClampNeg v1)) σ_4) (fun v_8 σ_9 =>
    if v_8 = 0 then
      x_chk (σ_9.K a0 = 10) <|
      x_some (σ_9.R 900 a0) fun a_13 =>
      x_chk (σ_9.K a_13 = 20 ∧ x_in v1 (σ_9.L a_13)) <|
      x_bind (dm_X10_isLetter P (σ_9.AI a_13 (Int32.toNatClampNeg v1)) σ_9) (fun v_15 σ_16 =>
        if v_15 = 0 then
          x_chk (σ_16.K a0 = 10) <|
          x_some (σ_16.R 900 a0) fun a_20 =>
          x_chk (σ_16.K a_20 = 20 ∧ x_in v1 (σ_16.L a_20)) <|
          x_some (σ_16.R 904 a0) fun a_22 =>
          x_chk (σ_16.K a_22 = 22 ∧ x_in (σ_16.I 905 a0) (σ_16.L a_22) ∧ P.base ≤ a_22) <|
          x_let (σ_16.setAJ a_22 (Int32.toNatClampNeg (σ_16.I 905 a0)) (Int32.toInt64 (σ_16.AI a_20 (Int32.toNatClampNeg v1)))) fun σ_24 =>
          x_chk (σ_24.K a0 = 10) <|
          x_some (σ_24.R 903 a0) fun a_26 =>
          x_chk (σ_24.K a_26 = 21 ∧ x_in (σ_24.I 905 a0) (σ_24.L a_26) ∧ P.base ≤ a_26) <|
          x_let (σ_24.setAI a_26 (Int32.toNatClampNeg (σ_24.I 905 a0)) 3) fun σ_28 =>
          dm_X10_addWord_p153 P a0 σ_28
        else
          x_chk (σ_16.K a0 = 10) <|
          x_bind (dm_X10_nameIn P a0 v1 v2 σ_16) (fun v_29 σ_30 =>
            x_chk (σ_30.K a0 = 10) <|
            x_some (σ_30.R 904 a0) fun a_34 =>
            x_chk (σ_30.K a_34 = 22 ∧ x_in (σ_30.I 905 a0) (σ_30.L a_34) ∧ P.base ≤ a_34) <|
            x_let (σ_30.setAJ a_34 (Int32.toNatClampNeg (σ_30.I 905 a0)) v_29) fun σ_36 =>
            x_chk (σ_36.K a0 = 10) <|
            if (v2 - v1) ≤ 8 then
              x_bind (dm_X10_isKeyword P v_29 σ_36) (fun v_39 σ_40 =>
                if v_39 = 0 then
                  dm_X10_addWord_p123 P a0 (σ_36.R 903 a0) (σ_36.I 905 a0) 0 σ_40
                else
                  dm_X10_addWord_p123 P a0 (σ_36.R 903 a0) (σ_36.I 905 a0) 1 σ_40
                ) (fun E_43 σ_40 =>
                some (.inr E_43, σ_40)
                )
            else
              dm_X10_addWord_p123 P a0 (σ_36.R 903 a0) (σ_36.I 905 a0) 4 σ_36
            ) (fun E_44 σ_30 =>
            some (.inr E_44, σ_30)
            )
        ) (fun E_45 σ_16 =>
        some (.inr E_45, σ_16)
        )
    else
      x_chk (σ_9.K a0 = 10) <|
      x_bind (dm_X10_numberIn P a0 v1 v2 σ_9) (fun v_47 σ_48 =>
        x_some (σ_9.R 904 a0) fun a_50 =>
        x_chk (σ_48.K a_50 = 22 ∧ x_in (σ_9.I 905 a0) (σ_48.L a_50) ∧ P.base ≤ a_50) <|
        x_let (σ_48.setAJ a_50 (Int32.toNatClampNeg (σ_9.I 905 a0)) (Int32.toInt64 v_47)) fun σ_52 =>
        x_chk (σ_52.K a0 = 10) <|
        if (v2 - v1) ≤ 2 then
          dm_X10_addWord_p58 P a0 (σ_52.R 903 a0) (σ_52.I 905 a0) 2 σ_52
        else
          dm_X10_addWord_p58 P a0 (σ_52.R 903 a0) (σ_52.I 905 a0) 4 σ_52
        ) (fun E_55 σ_48 =>
        some (.inr E_55, σ_48)
        )
    ) (fun E_56 σ_9 =>
    some (.inr E_56, σ_9)
    )
def dm_X10_scan_p57 (P : xP) (a0 : Nat) (σ : xS) : xO Unit :=
  x_chk (σ.K a0 = 10) <|
  x_some (σ.R 902 a0) fun a_2 =>
  x_chk (σ.K a_2 = 21 ∧ x_in (σ.I 905 a0) (σ.L a_2) ∧ P.base ≤ a_2) <|
  x_let (σ.setAI a_2 (Int32.toNatClampNeg (σ.I 905 a0)) (σ.I 901 a0)) fun σ_4 =>
  x_chk (σ_4.K a0 = 10) <|
  x_some (σ_4.R 903 a0) fun a_6 =>
  x_chk (σ_4.K a_6 = 21 ∧ x_in (σ_4.I 905 a0) (σ_4.L a_6) ∧ P.base ≤ a_6) <|
  x_let (σ_4.setAI a_6 (Int32.toNatClampNeg (σ_4.I 905 a0)) 5) fun σ_8 =>
  x_chk (σ_8.K a0 = 10) <|
  x_some (σ_8.R 904 a0) fun a_10 =>
  x_chk (σ_8.K a_10 = 22 ∧ x_in (σ_8.I 905 a0) (σ_8.L a_10) ∧ P.base ≤ a_10) <|
  x_let (σ_8.setAJ a_10 (Int32.toNatClampNeg (σ_8.I 905 a0)) 0) fun σ_12 =>
  some (.inl (), σ_12)
def dm_X10_scan_L18 (P : xP) (a0 : Nat) : Nat → Int32 → Int32 → xS → xO Unit
  | 0, _, _, _ => none
  | n + 1, v1, v2, σ =>
    if 1000 ≤ v2 then
      dm_X10_scan_p57 P a0 σ
    else
      x_chk (σ.K a0 = 10) <|
      if (σ.I 901 a0) ≤ v1 then
        dm_X10_scan_p57 P a0 σ
      else
        x_bind (dm_X10_rowEnd P a0 v1 σ) (fun v_4 σ_5 =>
          x_chk (σ_5.K a0 = 10) <|
          x_bind (dm_X10_addWord P a0 v1 v_4 σ_5) (fun _ σ_8 =>
            x_chk (σ_8.K a0 = 10) <|
            x_bind (dm_X10_behindBlanks P a0 v_4 σ_8) (fun v_11 σ_12 =>
              x_let (v2 + 1) fun v_15 =>
              dm_X10_scan_L18 P a0 n v_11 v_15 σ_12
              ) (fun E_16 σ_12 =>
              some (.inr E_16, σ_12)
              )
            ) (fun E_17 σ_8 =>
            some (.inr E_17, σ_8)
            )
          ) (fun E_18 σ_5 =>
          some (.inr E_18, σ_5)
          )
def dm_X10_scan (P : xP) (a0 : Nat) (σ : xS) : xO Unit :=
  x_chk ((σ.K a0 = 10) ∧ P.base ≤ a0) <|
  x_let (σ.setI 905 a0 0) fun σ_2 =>
  x_chk ((σ_2.K a0 = 10) ∧ P.base ≤ a0) <|
  x_let (σ_2.setI 906 a0 0) fun σ_4 =>
  x_chk (σ_4.K a0 = 10) <|
  x_bind (dm_X10_behindBlanks P a0 0 σ_4) (fun v_5 σ_6 =>
    dm_X10_scan_L18 P a0 P.N v_5 0 σ_6
    ) (fun E_9 σ_6 =>
    some (.inr E_9, σ_6)
    )
def dm_X10_isAtEnd_p16 (P : xP) (a0 : Nat) (s0 : Int32) (σ : xS) : xO Int32 :=
  x_chk (x_bool s0) <|
  some (.inl s0, σ)
def dm_X10_isAtEnd (P : xP) (a0 : Nat) (σ : xS) : xO Int32 :=
  x_chk (σ.K a0 = 10) <|
  if (σ.I 906 a0) < (σ.I 905 a0) then
    dm_X10_isAtEnd_p16 P a0 0 σ
  else
    dm_X10_isAtEnd_p16 P a0 1 σ
def dm_X10_isText_p47 (P : xP) (a0 : Nat) (s0 : Int32) (σ : xS) : xO Int32 :=
  x_chk (x_bool s0) <|
  some (.inl s0, σ)
def dm_X10_isText_p46 (P : xP) (a0 : Nat) (σ : xS) : xO Int32 :=
  dm_X10_isText_p47 P a0 0 σ
def dm_X10_isText_p25 (P : xP) (a0 : Nat) (v1 : Option Nat) (σ : xS) : xO Int32 :=
  x_chk (σ.K a0 = 10) <|
  x_some (σ.R 904 a0) fun a_2 =>
  x_chk (σ.K a_2 = 22 ∧ x_in (σ.I 906 a0) (σ.L a_2)) <|
  x_bind (dm_X10_packed P v1 σ) (fun v_4 σ_5 =>
    if (lg_cmp (σ.AJ a_2 (Int32.toNatClampNeg (σ.I 906 a0))) v_4) = 0 then
      dm_X10_isText_p47 P a0 1 σ_5
    else
      dm_X10_isText_p46 P a0 σ_5
    ) (fun E_8 σ_5 =>
    some (.inr E_8, σ_5)
    )
def dm_X10_isText (P : xP) (a0 : Nat) (v1 : Option Nat) (σ : xS) : xO Int32 :=
  x_chk (σ.K a0 = 10) <|
  x_some (σ.R 903 a0) fun a_2 =>
  x_chk (σ.K a_2 = 21 ∧ x_in (σ.I 906 a0) (σ.L a_2)) <|
  if (σ.AI a_2 (Int32.toNatClampNeg (σ.I 906 a0))) = 0 then
    dm_X10_isText_p25 P a0 v1 σ
  else
    if (σ.AI a_2 (Int32.toNatClampNeg (σ.I 906 a0))) = 1 then
      dm_X10_isText_p25 P a0 v1 σ
    else
      dm_X10_isText_p46 P a0 σ
def dm_X10_refuseIf (P : xP) (a0 : Nat) (v1 : Int32) (σ : xS) : xO Unit :=
  if v1 = 0 then
    some (.inl (), σ)
  else
    x_chk (σ.sz + 1 ≤ P.lim ∧ σ.su + 6 ≤ P.slim) <|
    some (.inr "java/lang/IllegalStateException", σ.skip 6)
def dm_X10_step_p21 (P : xP) (a0 : Nat) (σ : xS) : xO Unit :=
  some (.inl (), σ)
def dm_X10_step (P : xP) (a0 : Nat) (σ : xS) : xO Unit :=
  x_chk (σ.K a0 = 10) <|
  if (σ.I 905 a0) ≤ (σ.I 906 a0) then
    dm_X10_step_p21 P a0 σ
  else
    x_chk ((σ.K a0 = 10) ∧ P.base ≤ a0) <|
    x_let (σ.setI 906 a0 ((σ.I 906 a0) + 1)) fun σ_4 =>
    dm_X10_step_p21 P a0 σ_4
def dm_X10_takeText_p14 (P : xP) (a0 : Nat) (s0 : Option Nat) (s1 : Int32) (σ : xS) : xO Unit :=
  x_some s0 fun a_1 =>
  x_chk (σ.K a_1 = 10) <|
  x_bind (dm_X10_refuseIf P a_1 s1 σ) (fun _ σ_3 =>
    x_chk (σ_3.K a0 = 10) <|
    x_bind (dm_X10_step P a0 σ_3) (fun _ σ_7 =>
      some (.inl (), σ_7)
      ) (fun E_10 σ_7 =>
      some (.inr E_10, σ_7)
      )
    ) (fun E_11 σ_3 =>
    some (.inr E_11, σ_3)
    )
def dm_X10_takeText (P : xP) (a0 : Nat) (v1 : Option Nat) (σ : xS) : xO Unit :=
  x_chk (σ.K a0 = 10) <|
  x_bind (dm_X10_isText P a0 v1 σ) (fun v_1 σ_2 =>
    if v_1 = 0 then
      dm_X10_takeText_p14 P a0 (some a0) 1 σ_2
    else
      dm_X10_takeText_p14 P a0 (some a0) 0 σ_2
    ) (fun E_6 σ_2 =>
    some (.inr E_6, σ_2)
    )
def dm_X10_name (P : xP) (a0 : Nat) (σ : xS) : xO Int64 :=
  x_chk (σ.K a0 = 10) <|
  x_some (σ.R 903 a0) fun a_2 =>
  x_chk (σ.K a_2 = 21 ∧ x_in (σ.I 906 a0) (σ.L a_2)) <|
  if (σ.AI a_2 (Int32.toNatClampNeg (σ.I 906 a0))) = 0 then
    x_some (σ.R 904 a0) fun a_5 =>
    x_chk (σ.K a_5 = 22 ∧ x_in (σ.I 906 a0) (σ.L a_5)) <|
    some (.inl (σ.AJ a_5 (Int32.toNatClampNeg (σ.I 906 a0))), σ)
  else
    x_chk (σ.sz + 1 ≤ P.lim ∧ σ.su + 6 ≤ P.slim) <|
    some (.inr "java/lang/IllegalStateException", σ.skip 6)
def dm_X0_moduleNamed_L2 (P : xP) (a0 : Nat) : Nat → Int64 → Int32 → xS → xO (Option Nat)
  | 0, _, _, _ => none
  | n + 1, v1, v3, σ =>
    x_chk (σ.K a0 = 1) <|
    if (σ.I 1 a0) ≤ v3 then
      some (.inl none, σ)
    else
      x_some (σ.R 0 a0) fun a_3 =>
      x_chk (σ.K a_3 = 27 ∧ x_in v3 (σ.L a_3)) <|
      x_some (σ.AR a_3 (Int32.toNatClampNeg v3)) fun a_5 =>
      x_chk (σ.K a_5 = 6) <|
      if (lg_cmp (σ.J 501 a_5) v1) = 0 then
        some (.inl (σ.AR a_3 (Int32.toNatClampNeg v3)), σ)
      else
        x_let (v3 + 1) fun v_8 =>
        dm_X0_moduleNamed_L2 P a0 n v1 v_8 σ
def dm_X0_moduleNamed (P : xP) (a0 : Nat) (v1 : Int64) (σ : xS) : xO (Option Nat) :=
  dm_X0_moduleNamed_L2 P a0 P.N v1 0 σ
def dm_X0_canTakeModule_p22 (P : xP) (a0 : Nat) (s0 : Int32) (σ : xS) : xO Int32 :=
  x_chk (x_bool s0) <|
  some (.inl s0, σ)
def dm_X0_canTakeModule_p21 (P : xP) (a0 : Nat) (σ : xS) : xO Int32 :=
  dm_X0_canTakeModule_p22 P a0 0 σ
def dm_X0_canTakeModule (P : xP) (a0 : Nat) (v1 : Int64) (σ : xS) : xO Int32 :=
  x_chk (σ.K a0 = 1) <|
  if 8 ≤ (σ.I 1 a0) then
    dm_X0_canTakeModule_p21 P a0 σ
  else
    x_bind (dm_X0_moduleNamed P a0 v1 σ) (fun v_3 σ_4 =>
      if v_3 = none then
        dm_X0_canTakeModule_p22 P a0 1 σ_4
      else
        dm_X0_canTakeModule_p21 P a0 σ_4
      ) (fun E_7 σ_4 =>
      some (.inr E_7, σ_4)
      )
def dm_X10_place (P : xP) (a0 : Nat) (σ : xS) : xO Int32 :=
  x_chk (σ.K a0 = 10) <|
  x_some (σ.R 902 a0) fun a_2 =>
  x_chk (σ.K a_2 = 21 ∧ x_in (σ.I 906 a0) (σ.L a_2)) <|
  some (.inl (σ.AI a_2 (Int32.toNatClampNeg (σ.I 906 a0))), σ)
def dm_X5_init (P : xP) (a0 : Nat) (v1 : Int32) (v2 : Int64) (v4 : Int32) (σ : xS) : xO Unit :=
  x_chk (¬ (16 : Int32) < 0 ∧ (Int32.toNatClampNeg 16) ≤ 60000000 ∧ σ.sz + 1 ≤ P.lim ∧ σ.su + (Int32.toNatClampNeg 16) ≤ P.slim) <|
  x_let (σ.newA 26 (Int32.toNatClampNeg 16)) fun σ_2 =>
  x_chk ((σ_2.K a0 = 6) ∧ P.base ≤ a0) <|
  x_let (σ_2.setR 503 a0 (some σ.sz)) fun σ_4 =>
  x_chk ((σ_4.K a0 = 6) ∧ P.base ≤ a0) <|
  x_let (σ_4.setI 504 a0 0) fun σ_6 =>
  x_chk ((σ_6.K a0 = 6) ∧ P.base ≤ a0) <|
  x_let (σ_6.setI 505 a0 0) fun σ_8 =>
  x_chk ((σ_8.K a0 = 6) ∧ P.base ≤ a0) <|
  x_let (σ_8.setI 506 a0 0) fun σ_10 =>
  x_chk (¬ (8 : Int32) < 0 ∧ (Int32.toNatClampNeg 8) ≤ 60000000 ∧ σ_10.sz + 1 ≤ P.lim ∧ σ_10.su + (Int32.toNatClampNeg 8) ≤ P.slim) <|
  x_let (σ_10.newA 28 (Int32.toNatClampNeg 8)) fun σ_12 =>
  x_chk ((σ_12.K a0 = 6) ∧ P.base ≤ a0) <|
  x_let (σ_12.setR 507 a0 (some σ_10.sz)) fun σ_14 =>
  x_chk (¬ (8 : Int32) < 0 ∧ (Int32.toNatClampNeg 8) ≤ 60000000 ∧ σ_14.sz + 1 ≤ P.lim ∧ σ_14.su + (Int32.toNatClampNeg 8) ≤ P.slim) <|
  x_let (σ_14.newA 28 (Int32.toNatClampNeg 8)) fun σ_16 =>
  x_chk ((σ_16.K a0 = 6) ∧ P.base ≤ a0) <|
  x_let (σ_16.setR 508 a0 (some σ_14.sz)) fun σ_18 =>
  x_chk ((σ_18.K a0 = 6) ∧ P.base ≤ a0) <|
  x_let (σ_18.setI 509 a0 0) fun σ_20 =>
  x_chk (¬ (12 : Int32) < 0 ∧ (Int32.toNatClampNeg 12) ≤ 60000000 ∧ σ_20.sz + 1 ≤ P.lim ∧ σ_20.su + (Int32.toNatClampNeg 12) ≤ P.slim) <|
  x_let (σ_20.newA 24 (Int32.toNatClampNeg 12)) fun σ_22 =>
  x_chk ((σ_22.K a0 = 6) ∧ P.base ≤ a0) <|
  x_let (σ_22.setR 510 a0 (some σ_20.sz)) fun σ_24 =>
  x_chk ((σ_24.K a0 = 6) ∧ P.base ≤ a0) <|
  x_let (σ_24.setI 511 a0 0) fun σ_26 =>
  x_chk ((σ_26.K a0 = 6) ∧ P.base ≤ a0) <|
  x_let (σ_26.setI 512 a0 0) fun σ_28 =>
  x_chk ((σ_28.K a0 = 6) ∧ P.base ≤ a0) <|
  x_let (σ_28.setI 500 a0 v1) fun σ_30 =>
  x_chk ((σ_30.K a0 = 6) ∧ P.base ≤ a0) <|
  x_let (σ_30.setJ 501 a0 v2) fun σ_32 =>
  x_chk ((σ_32.K a0 = 6) ∧ P.base ≤ a0) <|
  x_let (σ_32.setI 502 a0 v4) fun σ_34 =>
  some (.inl (), σ_34)
def dm_X0_addModule_p45 (P : xP) (a0 : Nat) (v4 : Option Nat) (σ : xS) : xO (Option Nat) :=
  some (.inl v4, σ)
def dm_X0_addModule (P : xP) (a0 : Nat) (v1 : Int64) (v3 : Int32) (σ : xS) : xO (Option Nat) :=
  x_chk (σ.sz + 1 ≤ P.lim ∧ σ.su + 13 ≤ P.slim) <|
  x_let (σ.newO 6 13) fun σ_2 =>
  x_chk (σ_2.K a0 = 1) <|
  x_bind (dm_X5_init P σ.sz (σ_2.I 1 a0) v1 v3 σ_2) (fun _ σ_5 =>
    x_chk (σ_5.K a0 = 1) <|
    if 8 ≤ (σ_5.I 1 a0) then
      dm_X0_addModule_p45 P a0 (some σ.sz) σ_5
    else
      x_some (σ_5.R 0 a0) fun a_9 =>
      x_chk (σ_5.K a_9 = 27 ∧ x_in (σ_5.I 1 a0) (σ_5.L a_9) ∧ P.base ≤ a_9 ∧ x_kind σ_5 (some σ.sz) 6) <|
      x_let (σ_5.setAR a_9 (Int32.toNatClampNeg (σ_5.I 1 a0)) (some σ.sz)) fun σ_11 =>
      x_chk (σ_11.K a0 = 1) <|
      x_chk ((σ_11.K a0 = 1) ∧ P.base ≤ a0) <|
      x_let (σ_11.setI 1 a0 ((σ_11.I 1 a0) + 1)) fun σ_14 =>
      dm_X0_addModule_p45 P a0 (some σ.sz) σ_14
    ) (fun E_15 σ_5 =>
    some (.inr E_15, σ_5)
    )
def dm_X8_startModule_p28 (P : xP) (a0 : Nat) (v1 : Int64) (s0 : Option Nat) (s1 : Int32) (σ : xS) : xO Unit :=
  x_some s0 fun a_1 =>
  x_chk (σ.K a_1 = 10) <|
  x_bind (dm_X10_refuseIf P a_1 s1 σ) (fun _ σ_3 =>
    x_chk (σ_3.K a0 = 4 ∨ σ_3.K a0 = 9) <|
    x_some (σ_3.R 300 a0) fun a_7 =>
    x_chk (σ_3.K a_7 = 10) <|
    x_bind (dm_X10_place P a_7 σ_3) (fun v_8 σ_9 =>
      x_some (σ_3.R 301 a0) fun a_12 =>
      x_chk (σ_9.K a_12 = 1) <|
      x_bind (dm_X0_addModule P a_12 v1 v_8 σ_9) (fun v_13 σ_14 =>
        x_chk ((σ_14.K a0 = 4 ∨ σ_14.K a0 = 9) ∧ P.base ≤ a0) <|
        x_let (σ_14.setR 302 a0 v_13) fun σ_18 =>
        x_chk (σ_18.K a0 = 4 ∨ σ_18.K a0 = 9) <|
        x_some (σ_18.R 300 a0) fun a_20 =>
        x_chk (σ_18.K a_20 = 10) <|
        x_bind (dm_X10_step P a_20 σ_18) (fun _ σ_22 =>
          some (.inl (), σ_22)
          ) (fun E_25 σ_22 =>
          some (.inr E_25, σ_22)
          )
        ) (fun E_26 σ_14 =>
        some (.inr E_26, σ_14)
        )
      ) (fun E_27 σ_9 =>
      some (.inr E_27, σ_9)
      )
    ) (fun E_28 σ_3 =>
    some (.inr E_28, σ_3)
    )
def dm_X8_startModule (P : xP) (a0 : Nat) (σ : xS) : xO Unit :=
  x_chk (σ.K a0 = 4 ∨ σ.K a0 = 9) <|
  x_some (σ.R 300 a0) fun a_2 =>
  x_chk (σ.K a_2 = 10) <|
  x_bind (dm_X10_name P a_2 σ) (fun v_3 σ_4 =>
    x_chk (σ_4.K a0 = 4 ∨ σ_4.K a0 = 9) <|
    x_some (σ_4.R 301 a0) fun a_8 =>
    x_chk (σ_4.K a_8 = 1) <|
    x_bind (dm_X0_canTakeModule P a_8 v_3 σ_4) (fun v_9 σ_10 =>
      if v_9 = 0 then
        dm_X8_startModule_p28 P a0 v_3 (σ_4.R 300 a0) 1 σ_10
      else
        dm_X8_startModule_p28 P a0 v_3 (σ_4.R 300 a0) 0 σ_10
      ) (fun E_14 σ_10 =>
      some (.inr E_14, σ_10)
      )
    ) (fun E_15 σ_4 =>
    some (.inr E_15, σ_4)
    )
def dm_X10_takeSign_p28 (P : xP) (a0 : Nat) (σ : xS) : xO Unit :=
  x_chk (σ.sz + 1 ≤ P.lim ∧ σ.su + 6 ≤ P.slim) <|
  some (.inr "java/lang/IllegalStateException", σ.skip 6)
def dm_X10_takeSign (P : xP) (a0 : Nat) (v1 : Int32) (σ : xS) : xO Unit :=
  x_chk (σ.K a0 = 10) <|
  x_some (σ.R 903 a0) fun a_2 =>
  x_chk (σ.K a_2 = 21 ∧ x_in (σ.I 906 a0) (σ.L a_2)) <|
  if (σ.AI a_2 (Int32.toNatClampNeg (σ.I 906 a0))) = 3 then
    x_some (σ.R 904 a0) fun a_5 =>
    x_chk (σ.K a_5 = 22 ∧ x_in (σ.I 906 a0) (σ.L a_5)) <|
    if (lg_cmp (σ.AJ a_5 (Int32.toNatClampNeg (σ.I 906 a0))) (Int32.toInt64 v1)) = 0 then
      x_chk ((σ.K a0 = 10) ∧ P.base ≤ a0) <|
      x_let (σ.setI 906 a0 ((σ.I 906 a0) + 1)) fun σ_9 =>
      some (.inl (), σ_9)
    else
      dm_X10_takeSign_p28 P a0 σ
  else
    dm_X10_takeSign_p28 P a0 σ
def dm_X10_isSign_p33 (P : xP) (a0 : Nat) (s0 : Int32) (σ : xS) : xO Int32 :=
  x_chk (x_bool s0) <|
  some (.inl s0, σ)
def dm_X10_isSign_p32 (P : xP) (a0 : Nat) (σ : xS) : xO Int32 :=
  dm_X10_isSign_p33 P a0 0 σ
def dm_X10_isSign (P : xP) (a0 : Nat) (v1 : Int32) (σ : xS) : xO Int32 :=
  x_chk (σ.K a0 = 10) <|
  x_some (σ.R 903 a0) fun a_2 =>
  x_chk (σ.K a_2 = 21 ∧ x_in (σ.I 906 a0) (σ.L a_2)) <|
  if (σ.AI a_2 (Int32.toNatClampNeg (σ.I 906 a0))) = 3 then
    x_some (σ.R 904 a0) fun a_5 =>
    x_chk (σ.K a_5 = 22 ∧ x_in (σ.I 906 a0) (σ.L a_5)) <|
    if (lg_cmp (σ.AJ a_5 (Int32.toNatClampNeg (σ.I 906 a0))) (Int32.toInt64 v1)) = 0 then
      dm_X10_isSign_p33 P a0 1 σ
    else
      dm_X10_isSign_p32 P a0 σ
  else
    dm_X10_isSign_p32 P a0 σ
def dm_X5_netAmong_p47 (P : xP) (a0 : Nat) (σ : xS) : xO (Option Nat) :=
  some (.inl none, σ)
def dm_X5_netAmong_L3 (P : xP) (a0 : Nat) : Nat → Int32 → Int64 → Int32 → xS → xO (Option Nat)
  | 0, _, _, _, _ => none
  | n + 1, v1, v2, v4, σ =>
    if v1 ≤ v4 then
      dm_X5_netAmong_p47 P a0 σ
    else
      x_chk (σ.K a0 = 6) <|
      if (σ.I 504 a0) ≤ v4 then
        dm_X5_netAmong_p47 P a0 σ
      else
        x_some (σ.R 503 a0) fun a_4 =>
        x_chk (σ.K a_4 = 26 ∧ x_in v4 (σ.L a_4)) <|
        x_some (σ.AR a_4 (Int32.toNatClampNeg v4)) fun a_6 =>
        x_chk (σ.K a_6 = 5) <|
        if (lg_cmp (σ.J 400 a_6) v2) = 0 then
          some (.inl (σ.AR a_4 (Int32.toNatClampNeg v4)), σ)
        else
          x_let (v4 + 1) fun v_9 =>
          dm_X5_netAmong_L3 P a0 n v1 v2 v_9 σ
def dm_X5_netAmong (P : xP) (a0 : Nat) (v1 : Int32) (v2 : Int64) (σ : xS) : xO (Option Nat) :=
  dm_X5_netAmong_L3 P a0 P.N v1 v2 0 σ
def dm_X5_canTakeNet_p26 (P : xP) (a0 : Nat) (s0 : Int32) (σ : xS) : xO Int32 :=
  x_chk (x_bool s0) <|
  some (.inl s0, σ)
def dm_X5_canTakeNet_p25 (P : xP) (a0 : Nat) (σ : xS) : xO Int32 :=
  dm_X5_canTakeNet_p26 P a0 0 σ
def dm_X5_canTakeNet (P : xP) (a0 : Nat) (v1 : Int64) (σ : xS) : xO Int32 :=
  x_chk (σ.K a0 = 6) <|
  if 16 ≤ (σ.I 504 a0) then
    dm_X5_canTakeNet_p25 P a0 σ
  else
    x_bind (dm_X5_netAmong P a0 (σ.I 504 a0) v1 σ) (fun v_3 σ_4 =>
      if v_3 = none then
        dm_X5_canTakeNet_p26 P a0 1 σ_4
      else
        dm_X5_canTakeNet_p25 P a0 σ_4
      ) (fun E_7 σ_4 =>
      some (.inr E_7, σ_4)
      )
def dm_X4_init (P : xP) (a0 : Nat) (v1 : Int64) (v3 : Int32) (v4 : Int32) (σ : xS) : xO Unit :=
  x_chk ((σ.K a0 = 5) ∧ P.base ≤ a0) <|
  x_let (σ.setI 403 a0 0) fun σ_2 =>
  x_chk ((σ_2.K a0 = 5) ∧ P.base ≤ a0) <|
  x_let (σ_2.setJ 400 a0 v1) fun σ_4 =>
  x_chk ((σ_4.K a0 = 5) ∧ P.base ≤ a0) <|
  x_let (σ_4.setI 401 a0 v3) fun σ_6 =>
  x_chk ((σ_6.K a0 = 5) ∧ P.base ≤ a0) <|
  x_let (σ_6.setI 402 a0 v4) fun σ_8 =>
  some (.inl (), σ_8)
def dm_X5_addNet_p95 (P : xP) (a0 : Nat) (s0 : Option Nat) (s1 : Int32) (s2 : Int32) (σ : xS) : xO Unit :=
  x_some s0 fun a_1 =>
  x_chk ((σ.K a_1 = 6) ∧ P.base ≤ a_1) <|
  x_let (σ.setI 505 a_1 (s1 + s2)) fun σ_3 =>
  some (.inl (), σ_3)
def dm_X5_addNet_L35 (P : xP) (a0 : Nat) : Nat → Option Nat → Int32 → Int32 → xS → xO Unit
  | 0, _, _, _, _ => none
  | n + 1, v1, v2, v3, σ =>
    if v3 ≤ v2 then
      x_chk (σ.K a0 = 6) <|
      x_some (σ.R 503 a0) fun a_3 =>
      x_chk (σ.K a_3 = 26 ∧ x_in v2 (σ.L a_3) ∧ P.base ≤ a_3 ∧ x_kind σ v1 5) <|
      x_let (σ.setAR a_3 (Int32.toNatClampNeg v2) v1) fun σ_5 =>
      x_chk (σ_5.K a0 = 6) <|
      x_chk ((σ_5.K a0 = 6) ∧ P.base ≤ a0) <|
      x_let (σ_5.setI 504 a0 ((σ_5.I 504 a0) + 1)) fun σ_8 =>
      x_chk (σ_8.K a0 = 6) <|
      x_some v1 fun a_10 =>
      x_chk (σ_8.K a_10 = 5) <|
      if (σ_8.I 401 a_10) = 2 then
        dm_X5_addNet_p95 P a0 (some a0) (σ_8.I 505 a0) 0 σ_8
      else
        dm_X5_addNet_p95 P a0 (some a0) (σ_8.I 505 a0) 1 σ_8
    else
      x_chk (σ.K a0 = 6) <|
      x_some (σ.R 503 a0) fun a_14 =>
      x_chk (σ.K a_14 = 26 ∧ x_in (v3 - 1) (σ.L a_14)) <|
      x_chk (σ.K a_14 = 26 ∧ x_in v3 (σ.L a_14) ∧ P.base ≤ a_14 ∧ x_kind σ (σ.AR a_14 (Int32.toNatClampNeg (v3 - 1))) 5) <|
      x_let (σ.setAR a_14 (Int32.toNatClampNeg v3) (σ.AR a_14 (Int32.toNatClampNeg (v3 - 1)))) fun σ_17 =>
      x_let (v3 + (-1)) fun v_18 =>
      dm_X5_addNet_L35 P a0 n v1 v2 v_18 σ_17
def dm_X5_addNet_p29 (P : xP) (a0 : Nat) (v1 : Option Nat) (s0 : Int32) (σ : xS) : xO Unit :=
  x_chk (σ.K a0 = 6) <|
  x_let ((σ.I 504 a0)) fun v_2 =>
  dm_X5_addNet_L35 P a0 P.N v1 s0 v_2 σ
def dm_X5_addNet (P : xP) (a0 : Nat) (v1 : Option Nat) (σ : xS) : xO Unit :=
  x_chk (σ.K a0 = 6) <|
  if (σ.I 504 a0) < 16 then
    x_some v1 fun a_3 =>
    x_chk (σ.K a_3 = 5) <|
    if (σ.I 401 a_3) = 2 then
      dm_X5_addNet_p29 P a0 v1 (σ.I 504 a0) σ
    else
      dm_X5_addNet_p29 P a0 v1 (σ.I 505 a0) σ
  else
    some (.inl (), σ)
def dm_X10_skips_p48 (P : xP) (a0 : Nat) (v2 : Int32) (σ : xS) : xO Int32 :=
  x_chk (x_bool v2) <|
  some (.inl v2, σ)
def dm_X10_skips_p33 (P : xP) (a0 : Nat) (s0 : Int32) (σ : xS) : xO Int32 :=
  if s0 = 0 then
    dm_X10_skips_p48 P a0 s0 σ
  else
    x_chk (σ.K a0 = 10) <|
    x_chk ((σ.K a0 = 10) ∧ P.base ≤ a0) <|
    x_let (σ.setI 906 a0 ((σ.I 906 a0) + 1)) fun σ_4 =>
    dm_X10_skips_p48 P a0 s0 σ_4
def dm_X10_skips_p32 (P : xP) (a0 : Nat) (σ : xS) : xO Int32 :=
  dm_X10_skips_p33 P a0 0 σ
def dm_X10_skips (P : xP) (a0 : Nat) (v1 : Int32) (σ : xS) : xO Int32 :=
  x_chk (σ.K a0 = 10) <|
  x_some (σ.R 903 a0) fun a_2 =>
  x_chk (σ.K a_2 = 21 ∧ x_in (σ.I 906 a0) (σ.L a_2)) <|
  if (σ.AI a_2 (Int32.toNatClampNeg (σ.I 906 a0))) = 3 then
    x_some (σ.R 904 a0) fun a_5 =>
    x_chk (σ.K a_5 = 22 ∧ x_in (σ.I 906 a0) (σ.L a_5)) <|
    if (lg_cmp (σ.AJ a_5 (Int32.toNatClampNeg (σ.I 906 a0))) (Int32.toInt64 v1)) = 0 then
      dm_X10_skips_p33 P a0 1 σ
    else
      dm_X10_skips_p32 P a0 σ
  else
    dm_X10_skips_p32 P a0 σ
def dm_X3_readHead_p80 (P : xP) (k42 : Int32 → Int32 → xS → xO Unit) (a0 : Nat) (v2 : Int32) (v3 : Int64) (s0 : Option Nat) (s1 : Int32) (σ : xS) : xO Unit :=
  x_some s0 fun a_1 =>
  x_chk (σ.K a_1 = 10) <|
  x_bind (dm_X10_refuseIf P a_1 s1 σ) (fun _ σ_3 =>
    x_chk (σ_3.K a0 = 4) <|
    x_chk (σ_3.sz + 1 ≤ P.lim ∧ σ_3.su + 4 ≤ P.slim) <|
    x_let (σ_3.newO 5 4) fun σ_8 =>
    x_bind (dm_X4_init P σ_3.sz v3 (-1) 0 σ_8) (fun _ σ_10 =>
      x_some (σ_3.R 302 a0) fun a_12 =>
      x_chk (σ_10.K a_12 = 6) <|
      x_bind (dm_X5_addNet P a_12 (some σ_3.sz) σ_10) (fun _ σ_14 =>
        x_chk (σ_14.K a0 = 4) <|
        x_some (σ_14.R 300 a0) fun a_18 =>
        x_chk (σ_14.K a_18 = 10) <|
        x_bind (dm_X10_step P a_18 σ_14) (fun _ σ_20 =>
          x_chk (σ_20.K a0 = 4) <|
          x_some (σ_20.R 300 a0) fun a_24 =>
          x_chk (σ_20.K a_24 = 10) <|
          x_bind (dm_X10_skips P a_24 44 σ_20) (fun v_25 σ_26 =>
            x_let (v2 + 1) fun v_29 =>
            k42 v_25 v_29 σ_26
            ) (fun E_30 σ_26 =>
            some (.inr E_30, σ_26)
            )
          ) (fun E_31 σ_20 =>
          some (.inr E_31, σ_20)
          )
        ) (fun E_32 σ_14 =>
        some (.inr E_32, σ_14)
        )
      ) (fun E_33 σ_10 =>
      some (.inr E_33, σ_10)
      )
    ) (fun E_34 σ_3 =>
    some (.inr E_34, σ_3)
    )
def dm_X3_readHead_p123 (P : xP) (a0 : Nat) (σ : xS) : xO Unit :=
  x_chk (σ.K a0 = 4) <|
  x_some (σ.R 300 a0) fun a_2 =>
  x_chk (σ.K a_2 = 10) <|
  x_bind (dm_X10_takeSign P a_2 41 σ) (fun _ σ_4 =>
    x_chk (σ_4.K a0 = 4) <|
    x_some (σ_4.R 300 a0) fun a_8 =>
    x_chk (σ_4.K a_8 = 10) <|
    x_bind (dm_X10_takeSign P a_8 59 σ_4) (fun _ σ_10 =>
      some (.inl (), σ_10)
      ) (fun E_13 σ_10 =>
      some (.inr E_13, σ_10)
      )
    ) (fun E_14 σ_4 =>
    some (.inr E_14, σ_4)
    )
def dm_X3_readHead_L42 (P : xP) (a0 : Nat) : Nat → Int32 → Int32 → xS → xO Unit
  | 0, _, _, _ => none
  | n + 1, v1, v2, σ =>
    if v1 = 0 then
      dm_X3_readHead_p123 P a0 σ
    else
      if 16 < v2 then
        dm_X3_readHead_p123 P a0 σ
      else
        x_chk (σ.K a0 = 4) <|
        x_some (σ.R 300 a0) fun a_4 =>
        x_chk (σ.K a_4 = 10) <|
        x_bind (dm_X10_name P a_4 σ) (fun v_5 σ_6 =>
          x_chk (σ_6.K a0 = 4) <|
          x_some (σ_6.R 302 a0) fun a_10 =>
          x_chk (σ_6.K a_10 = 6) <|
          x_bind (dm_X5_canTakeNet P a_10 v_5 σ_6) (fun v_11 σ_12 =>
            if v_11 = 0 then
              dm_X3_readHead_p80 P (dm_X3_readHead_L42 P a0 n) a0 v2 v_5 (σ_6.R 300 a0) 1 σ_12
            else
              dm_X3_readHead_p80 P (dm_X3_readHead_L42 P a0 n) a0 v2 v_5 (σ_6.R 300 a0) 0 σ_12
            ) (fun E_16 σ_12 =>
            some (.inr E_16, σ_12)
            )
          ) (fun E_17 σ_6 =>
          some (.inr E_17, σ_6)
          )
def dm_X3_readHead_p39 (P : xP) (a0 : Nat) (s0 : Int32) (σ : xS) : xO Unit :=
  dm_X3_readHead_L42 P a0 P.N s0 0 σ
def dm_X3_readHead (P : xP) (a0 : Nat) (σ : xS) : xO Unit :=
  x_chk (σ.K a0 = 4) <|
  x_some (σ.R 300 a0) fun a_2 =>
  x_chk (σ.K a_2 = 10) <|
  x_bind (dm_X10_takeText P a_2 (some (P.ad 19)) σ) (fun _ σ_4 =>
    x_chk (σ_4.K a0 = 4) <|
    x_bind (dm_X8_startModule P a0 σ_4) (fun _ σ_8 =>
      x_chk (σ_8.K a0 = 4) <|
      x_some (σ_8.R 300 a0) fun a_12 =>
      x_chk (σ_8.K a_12 = 10) <|
      x_bind (dm_X10_takeSign P a_12 40 σ_8) (fun _ σ_14 =>
        x_chk (σ_14.K a0 = 4) <|
        x_some (σ_14.R 300 a0) fun a_18 =>
        x_chk (σ_14.K a_18 = 10) <|
        x_bind (dm_X10_isSign P a_18 41 σ_14) (fun v_19 σ_20 =>
          if v_19 = 0 then
            dm_X3_readHead_p39 P a0 1 σ_20
          else
            dm_X3_readHead_p39 P a0 0 σ_20
          ) (fun E_24 σ_20 =>
          some (.inr E_24, σ_20)
          )
        ) (fun E_25 σ_14 =>
        some (.inr E_25, σ_14)
        )
      ) (fun E_26 σ_8 =>
      some (.inr E_26, σ_8)
      )
    ) (fun E_27 σ_4 =>
    some (.inr E_27, σ_4)
    )
def dm_X10_takeNumber_p43 (P : xP) (a0 : Nat) (σ : xS) : xO Int32 :=
  x_chk (σ.sz + 1 ≤ P.lim ∧ σ.su + 6 ≤ P.slim) <|
  some (.inr "java/lang/IllegalStateException", σ.skip 6)
def dm_X10_takeNumber (P : xP) (a0 : Nat) (v1 : Int32) (v2 : Int32) (σ : xS) : xO Int32 :=
  x_chk (σ.K a0 = 10) <|
  x_some (σ.R 903 a0) fun a_2 =>
  x_chk (σ.K a_2 = 21 ∧ x_in (σ.I 906 a0) (σ.L a_2)) <|
  if (σ.AI a_2 (Int32.toNatClampNeg (σ.I 906 a0))) = 2 then
    x_some (σ.R 904 a0) fun a_5 =>
    x_chk (σ.K a_5 = 22 ∧ x_in (σ.I 906 a0) (σ.L a_5)) <|
    if (lg_cmp (σ.AJ a_5 (Int32.toNatClampNeg (σ.I 906 a0))) (Int32.toInt64 v1)) < 0 then
      dm_X10_takeNumber_p43 P a0 σ
    else
      if (lg_cmp (σ.AJ a_5 (Int32.toNatClampNeg (σ.I 906 a0))) (Int32.toInt64 v2)) ≤ 0 then
        x_let ((Int64.toInt32 (σ.AJ a_5 (Int32.toNatClampNeg (σ.I 906 a0))))) fun v_9 =>
        x_chk ((σ.K a0 = 10) ∧ P.base ≤ a0) <|
        x_let (σ.setI 906 a0 ((σ.I 906 a0) + 1)) fun σ_11 =>
        some (.inl v_9, σ_11)
      else
        dm_X10_takeNumber_p43 P a0 σ
  else
    dm_X10_takeNumber_p43 P a0 σ
def dm_X3_readRange (P : xP) (a0 : Nat) (σ : xS) : xO Int32 :=
  x_chk (σ.K a0 = 4) <|
  x_some (σ.R 300 a0) fun a_2 =>
  x_chk (σ.K a_2 = 10) <|
  x_bind (dm_X10_skips P a_2 91 σ) (fun v_3 σ_4 =>
    if v_3 = 0 then
      some (.inl 1, σ_4)
    else
      x_chk (σ_4.K a0 = 4) <|
      x_some (σ_4.R 300 a0) fun a_9 =>
      x_chk (σ_4.K a_9 = 10) <|
      x_bind (dm_X10_takeNumber P a_9 0 7 σ_4) (fun v_10 σ_11 =>
        x_chk (σ_11.K a0 = 4) <|
        x_some (σ_11.R 300 a0) fun a_15 =>
        x_chk (σ_11.K a_15 = 10) <|
        x_bind (dm_X10_takeSign P a_15 58 σ_11) (fun _ σ_17 =>
          x_chk (σ_17.K a0 = 4) <|
          x_some (σ_17.R 300 a0) fun a_21 =>
          x_chk (σ_17.K a_21 = 10) <|
          x_bind (dm_X10_takeNumber P a_21 0 0 σ_17) (fun v_22 σ_23 =>
            x_chk (σ_23.K a0 = 4) <|
            x_some (σ_23.R 300 a0) fun a_27 =>
            x_chk (σ_23.K a_27 = 10) <|
            x_bind (dm_X10_takeSign P a_27 93 σ_23) (fun _ σ_29 =>
              some (.inl (v_10 + 1), σ_29)
              ) (fun E_32 σ_29 =>
              some (.inr E_32, σ_29)
              )
            ) (fun E_33 σ_23 =>
            some (.inr E_33, σ_23)
            )
          ) (fun E_34 σ_17 =>
          some (.inr E_34, σ_17)
          )
        ) (fun E_35 σ_11 =>
        some (.inr E_35, σ_11)
        )
    ) (fun E_36 σ_4 =>
    some (.inr E_36, σ_4)
    )
def dm_X3_tellWire_p28 (P : xP) (a0 : Nat) (v1 : Int32) (v2 : Int64) (s0 : Option Nat) (s1 : Int32) (σ : xS) : xO Unit :=
  x_some s0 fun a_1 =>
  x_chk (σ.K a_1 = 10) <|
  x_bind (dm_X10_refuseIf P a_1 s1 σ) (fun _ σ_3 =>
    x_chk (σ_3.K a0 = 4) <|
    x_chk (σ_3.sz + 1 ≤ P.lim ∧ σ_3.su + 4 ≤ P.slim) <|
    x_let (σ_3.newO 5 4) fun σ_8 =>
    x_bind (dm_X4_init P σ_3.sz v2 2 v1 σ_8) (fun _ σ_10 =>
      x_some (σ_3.R 302 a0) fun a_12 =>
      x_chk (σ_10.K a_12 = 6) <|
      x_bind (dm_X5_addNet P a_12 (some σ_3.sz) σ_10) (fun _ σ_14 =>
        x_chk (σ_14.K a0 = 4) <|
        x_some (σ_14.R 300 a0) fun a_18 =>
        x_chk (σ_14.K a_18 = 10) <|
        x_bind (dm_X10_step P a_18 σ_14) (fun _ σ_20 =>
          some (.inl (), σ_20)
          ) (fun E_23 σ_20 =>
          some (.inr E_23, σ_20)
          )
        ) (fun E_24 σ_14 =>
        some (.inr E_24, σ_14)
        )
      ) (fun E_25 σ_10 =>
      some (.inr E_25, σ_10)
      )
    ) (fun E_26 σ_3 =>
    some (.inr E_26, σ_3)
    )
def dm_X3_tellWire (P : xP) (a0 : Nat) (v1 : Int32) (σ : xS) : xO Unit :=
  x_chk (σ.K a0 = 4) <|
  x_some (σ.R 300 a0) fun a_2 =>
  x_chk (σ.K a_2 = 10) <|
  x_bind (dm_X10_name P a_2 σ) (fun v_3 σ_4 =>
    x_chk (σ_4.K a0 = 4) <|
    x_some (σ_4.R 302 a0) fun a_8 =>
    x_chk (σ_4.K a_8 = 6) <|
    x_bind (dm_X5_canTakeNet P a_8 v_3 σ_4) (fun v_9 σ_10 =>
      if v_9 = 0 then
        dm_X3_tellWire_p28 P a0 v1 v_3 (σ_4.R 300 a0) 1 σ_10
      else
        dm_X3_tellWire_p28 P a0 v1 v_3 (σ_4.R 300 a0) 0 σ_10
      ) (fun E_14 σ_10 =>
      some (.inr E_14, σ_10)
      )
    ) (fun E_15 σ_4 =>
    some (.inr E_15, σ_4)
    )
def dm_X3_tellPort_p43 (P : xP) (a0 : Nat) (v1 : Int32) (v2 : Int32) (v3 : Option Nat) (s0 : Option Nat) (s1 : Int32) (σ : xS) : xO Unit :=
  x_some s0 fun a_1 =>
  x_chk (σ.K a_1 = 10) <|
  x_bind (dm_X10_refuseIf P a_1 s1 σ) (fun _ σ_3 =>
    x_some v3 fun a_6 =>
    x_chk ((σ_3.K a_6 = 5) ∧ P.base ≤ a_6) <|
    x_let (σ_3.setI 401 a_6 v1) fun σ_8 =>
    x_chk ((σ_8.K a_6 = 5) ∧ P.base ≤ a_6) <|
    x_let (σ_8.setI 402 a_6 v2) fun σ_10 =>
    x_chk (σ_10.K a0 = 4) <|
    x_some (σ_10.R 300 a0) fun a_12 =>
    x_chk (σ_10.K a_12 = 10) <|
    x_bind (dm_X10_step P a_12 σ_10) (fun _ σ_14 =>
      some (.inl (), σ_14)
      ) (fun E_17 σ_14 =>
      some (.inr E_17, σ_14)
      )
    ) (fun E_18 σ_3 =>
    some (.inr E_18, σ_3)
    )
def dm_X3_tellPort_p38 (P : xP) (a0 : Nat) (v1 : Int32) (v2 : Int32) (v3 : Option Nat) (s0 : Option Nat) (σ : xS) : xO Unit :=
  dm_X3_tellPort_p43 P a0 v1 v2 v3 s0 1 σ
def dm_X3_tellPort (P : xP) (a0 : Nat) (v1 : Int32) (v2 : Int32) (σ : xS) : xO Unit :=
  x_chk (σ.K a0 = 4) <|
  x_some (σ.R 302 a0) fun a_2 =>
  x_chk (σ.K a_2 = 6) <|
  x_some (σ.R 300 a0) fun a_4 =>
  x_chk (σ.K a_4 = 10) <|
  x_bind (dm_X10_name P a_4 σ) (fun v_5 σ_6 =>
    x_chk (σ_6.K a_2 = 6) <|
    x_bind (dm_X5_netAmong P a_2 (σ.I 504 a_2) v_5 σ_6) (fun v_9 σ_10 =>
      x_chk (σ_10.K a0 = 4) <|
      if v_9 = none then
        dm_X3_tellPort_p38 P a0 v1 v2 v_9 (σ_10.R 300 a0) σ_10
      else
        x_some v_9 fun a_15 =>
        x_chk (σ_10.K a_15 = 5) <|
        if (σ_10.I 401 a_15) = (-1) then
          dm_X3_tellPort_p43 P a0 v1 v2 v_9 (σ_10.R 300 a0) 0 σ_10
        else
          dm_X3_tellPort_p38 P a0 v1 v2 v_9 (σ_10.R 300 a0) σ_10
      ) (fun E_18 σ_10 =>
      some (.inr E_18, σ_10)
      )
    ) (fun E_19 σ_6 =>
    some (.inr E_19, σ_6)
    )
def dm_X3_readNets_p47 (P : xP) (k17 : Int32 → Int32 → Int32 → Int32 → xS → xO Unit) (a0 : Nat) (v1 : Int32) (v2 : Int32) (v4 : Int32) (σ : xS) : xO Unit :=
  x_chk (σ.K a0 = 4) <|
  x_some (σ.R 300 a0) fun a_2 =>
  x_chk (σ.K a_2 = 10) <|
  x_bind (dm_X10_skips P a_2 44 σ) (fun v_3 σ_4 =>
    x_let (v4 + 1) fun v_7 =>
    k17 v1 v2 v_3 v_7 σ_4
    ) (fun E_8 σ_4 =>
    some (.inr E_8, σ_4)
    )
def dm_X3_readNets_p63 (P : xP) (a0 : Nat) (σ : xS) : xO Unit :=
  x_chk (σ.K a0 = 4) <|
  x_some (σ.R 300 a0) fun a_2 =>
  x_chk (σ.K a_2 = 10) <|
  x_bind (dm_X10_takeSign P a_2 59 σ) (fun _ σ_4 =>
    some (.inl (), σ_4)
    ) (fun E_7 σ_4 =>
    some (.inr E_7, σ_4)
    )
def dm_X3_readNets_L17 (P : xP) (a0 : Nat) : Nat → Int32 → Int32 → Int32 → Int32 → xS → xO Unit
  | 0, _, _, _, _, _ => none
  | n + 1, v1, v2, v3, v4, σ =>
    if v3 = 0 then
      dm_X3_readNets_p63 P a0 σ
    else
      if 16 < v4 then
        dm_X3_readNets_p63 P a0 σ
      else
        if v1 = 2 then
          x_chk (σ.K a0 = 4) <|
          x_bind (dm_X3_tellWire P a0 v2 σ) (fun _ σ_10 =>
            dm_X3_readNets_p47 P (dm_X3_readNets_L17 P a0 n) a0 v1 v2 v4 σ_10
            ) (fun E_13 σ_10 =>
            some (.inr E_13, σ_10)
            )
        else
          x_chk (σ.K a0 = 4) <|
          x_bind (dm_X3_tellPort P a0 v1 v2 σ) (fun _ σ_5 =>
            dm_X3_readNets_p47 P (dm_X3_readNets_L17 P a0 n) a0 v1 v2 v4 σ_5
            ) (fun E_8 σ_5 =>
            some (.inr E_8, σ_5)
            )
def dm_X3_readNets (P : xP) (a0 : Nat) (v1 : Int32) (σ : xS) : xO Unit :=
  x_chk (σ.K a0 = 4) <|
  x_some (σ.R 300 a0) fun a_2 =>
  x_chk (σ.K a_2 = 10) <|
  x_bind (dm_X10_step P a_2 σ) (fun _ σ_4 =>
    x_chk (σ_4.K a0 = 4) <|
    x_bind (dm_X3_readRange P a0 σ_4) (fun v_7 σ_8 =>
      dm_X3_readNets_L17 P a0 P.N v1 v_7 1 0 σ_8
      ) (fun E_11 σ_8 =>
      some (.inr E_11, σ_8)
      )
    ) (fun E_12 σ_4 =>
    some (.inr E_12, σ_4)
    )
def dm_X10_isNumber_p18 (P : xP) (a0 : Nat) (s0 : Int32) (σ : xS) : xO Int32 :=
  x_chk (x_bool s0) <|
  some (.inl s0, σ)
def dm_X10_isNumber (P : xP) (a0 : Nat) (σ : xS) : xO Int32 :=
  x_chk (σ.K a0 = 10) <|
  x_some (σ.R 903 a0) fun a_2 =>
  x_chk (σ.K a_2 = 21 ∧ x_in (σ.I 906 a0) (σ.L a_2)) <|
  if (σ.AI a_2 (Int32.toNatClampNeg (σ.I 906 a0))) = 2 then
    dm_X10_isNumber_p18 P a0 1 σ
  else
    dm_X10_isNumber_p18 P a0 0 σ
def dm_X10_letterOf_p28 (P : xP) (s0 : Int32) (σ : xS) : xO Int32 :=
  some (.inl s0, σ)
def dm_X10_letterOf_p10 (P : xP) (σ : xS) : xO Int32 :=
  dm_X10_letterOf_p28 P 0 σ
def dm_X10_letterOf (P : xP) (v0 : Int64) (v2 : Int32) (σ : xS) : xO Int32 :=
  if v2 < 0 then
    dm_X10_letterOf_p10 P σ
  else
    if v2 < 8 then
      dm_X10_letterOf_p28 P ((Int64.toInt32 (UInt64.toInt64 (Int64.toUInt64 v0 >>> (Int64.toUInt64 (Int32.toInt64 (56 - (8 * v2))) &&& Int64.toUInt64 63)))) &&& 255) σ
    else
      dm_X10_letterOf_p10 P σ
def dm_X6_init_ (P : xP) (a0 : Nat) (v1 : Int32) (v2 : Int32) (v3 : Int32) (σ : xS) : xO Unit :=
  x_chk ((σ.K a0 = 7) ∧ P.base ≤ a0) <|
  x_let (σ.setI 600 a0 3) fun σ_2 =>
  x_chk ((σ_2.K a0 = 7) ∧ P.base ≤ a0) <|
  x_let (σ_2.setI 601 a0 v1) fun σ_4 =>
  x_chk ((σ_4.K a0 = 7) ∧ P.base ≤ a0) <|
  x_let (σ_4.setR 602 a0 none) fun σ_6 =>
  x_chk ((σ_6.K a0 = 7) ∧ P.base ≤ a0) <|
  x_let (σ_6.setI 603 a0 (v2 - 1)) fun σ_8 =>
  x_chk ((σ_8.K a0 = 7) ∧ P.base ≤ a0) <|
  x_let (σ_8.setI 604 a0 0) fun σ_10 =>
  x_chk ((σ_10.K a0 = 7) ∧ P.base ≤ a0) <|
  x_let (σ_10.setI 605 a0 v3) fun σ_12 =>
  some (.inl (), σ_12)
def dm_X8_readDigits_p90 (P : xP) (k41 : Int32 → Int32 → Int32 → Int64 → Int32 → Int32 → Int32 → xS → xO (Option Nat)) (a0 : Nat) (v1 : Int32) (v2 : Int32) (v3 : Int32) (v4 : Int64) (v6 : Int32) (v7 : Int32) (v8 : Int32) (v9 : Int32) (s0 : Option Nat) (s1 : Int32) (σ : xS) : xO (Option Nat) :=
  x_some s0 fun a_1 =>
  x_chk (σ.K a_1 = 10) <|
  x_bind (dm_X10_refuseIf P a_1 s1 σ) (fun _ σ_3 =>
    x_let (((v7 * 2) + v9)) fun v_6 =>
    x_let (v6 + 1) fun v_7 =>
    x_let (v8 + 1) fun v_8 =>
    k41 v1 v2 v3 v4 v_7 v_6 v_8 σ_3
    ) (fun E_9 σ_3 =>
    some (.inr E_9, σ_3)
    )
def dm_X8_readDigits_p89 (P : xP) (k41 : Int32 → Int32 → Int32 → Int64 → Int32 → Int32 → Int32 → xS → xO (Option Nat)) (a0 : Nat) (v1 : Int32) (v2 : Int32) (v3 : Int32) (v4 : Int64) (v6 : Int32) (v7 : Int32) (v8 : Int32) (v9 : Int32) (s0 : Option Nat) (σ : xS) : xO (Option Nat) :=
  dm_X8_readDigits_p90 P k41 a0 v1 v2 v3 v4 v6 v7 v8 v9 s0 0 σ
def dm_X8_readDigits_p132 (P : xP) (a0 : Nat) (v1 : Int32) (v6 : Int32) (v7 : Int32) (s0 : Option Nat) (s1 : Int32) (σ : xS) : xO (Option Nat) :=
  x_some s0 fun a_1 =>
  x_chk (σ.K a_1 = 10) <|
  x_bind (dm_X10_refuseIf P a_1 s1 σ) (fun _ σ_3 =>
    x_chk (σ_3.K a0 = 4 ∨ σ_3.K a0 = 9) <|
    x_some (σ_3.R 300 a0) fun a_7 =>
    x_chk (σ_3.K a_7 = 10) <|
    x_bind (dm_X10_step P a_7 σ_3) (fun _ σ_9 =>
      x_chk (σ_9.sz + 1 ≤ P.lim ∧ σ_9.su + 6 ≤ P.slim) <|
      x_let (σ_9.newO 7 6) fun σ_13 =>
      x_bind (dm_X6_init_ P σ_9.sz v1 v6 v7 σ_13) (fun _ σ_15 =>
        some (.inl (some σ_9.sz), σ_15)
        ) (fun E_17 σ_15 =>
        some (.inr E_17, σ_15)
        )
      ) (fun E_18 σ_9 =>
      some (.inr E_18, σ_9)
      )
    ) (fun E_19 σ_3 =>
    some (.inr E_19, σ_3)
    )
def dm_X8_readDigits_p127 (P : xP) (a0 : Nat) (v1 : Int32) (v6 : Int32) (v7 : Int32) (s0 : Option Nat) (σ : xS) : xO (Option Nat) :=
  dm_X8_readDigits_p132 P a0 v1 v6 v7 s0 1 σ
def dm_X8_readDigits_p111 (P : xP) (a0 : Nat) (v1 : Int32) (v2 : Int32) (v3 : Int32) (v6 : Int32) (v7 : Int32) (σ : xS) : xO (Option Nat) :=
  x_chk (σ.K a0 = 4 ∨ σ.K a0 = 9) <|
  if v6 < v2 then
    dm_X8_readDigits_p127 P a0 v1 v6 v7 (σ.R 300 a0) σ
  else
    if v6 ≤ v3 then
      dm_X8_readDigits_p132 P a0 v1 v6 v7 (σ.R 300 a0) 0 σ
    else
      dm_X8_readDigits_p127 P a0 v1 v6 v7 (σ.R 300 a0) σ
def dm_X8_readDigits_L41 (P : xP) (a0 : Nat) : Nat → Int32 → Int32 → Int32 → Int64 → Int32 → Int32 → Int32 → xS → xO (Option Nat)
  | 0, _, _, _, _, _, _, _, _ => none
  | n + 1, v1, v2, v3, v4, v6, v7, v8, σ =>
    if 8 ≤ v8 then
      dm_X8_readDigits_p111 P a0 v1 v2 v3 v6 v7 σ
    else
      x_bind (dm_X10_letterOf P v4 v8 σ) (fun v_2 σ_3 =>
        if v_2 = 0 then
          dm_X8_readDigits_p111 P a0 v1 v2 v3 v6 v7 σ_3
        else
          x_bind (dm_X10_letterOf P v4 v8 σ_3) (fun v_6 σ_7 =>
            x_let ((v_6 - 48)) fun v_9 =>
            x_chk (σ_7.K a0 = 4 ∨ σ_7.K a0 = 9) <|
            if v_9 = 0 then
              dm_X8_readDigits_p89 P (dm_X8_readDigits_L41 P a0 n) a0 v1 v2 v3 v4 v6 v7 v8 v_9 (σ_7.R 300 a0) σ_7
            else
              if v_9 = 1 then
                dm_X8_readDigits_p89 P (dm_X8_readDigits_L41 P a0 n) a0 v1 v2 v3 v4 v6 v7 v8 v_9 (σ_7.R 300 a0) σ_7
              else
                dm_X8_readDigits_p90 P (dm_X8_readDigits_L41 P a0 n) a0 v1 v2 v3 v4 v6 v7 v8 v_9 (σ_7.R 300 a0) 1 σ_7
            ) (fun E_13 σ_7 =>
            some (.inr E_13, σ_7)
            )
        ) (fun E_14 σ_3 =>
        some (.inr E_14, σ_3)
        )
def dm_X8_readDigits_p29 (P : xP) (a0 : Nat) (v1 : Int32) (v2 : Int32) (v3 : Int32) (v4 : Int64) (s0 : Option Nat) (s1 : Int32) (σ : xS) : xO (Option Nat) :=
  x_some s0 fun a_1 =>
  x_chk (σ.K a_1 = 10) <|
  x_bind (dm_X10_refuseIf P a_1 s1 σ) (fun _ σ_3 =>
    dm_X8_readDigits_L41 P a0 P.N v1 v2 v3 v4 0 0 1 σ_3
    ) (fun E_6 σ_3 =>
    some (.inr E_6, σ_3)
    )
def dm_X8_readDigits (P : xP) (a0 : Nat) (v1 : Int32) (v2 : Int32) (v3 : Int32) (σ : xS) : xO (Option Nat) :=
  x_chk (σ.K a0 = 4 ∨ σ.K a0 = 9) <|
  x_some (σ.R 300 a0) fun a_2 =>
  x_chk (σ.K a_2 = 10) <|
  x_bind (dm_X10_name P a_2 σ) (fun v_3 σ_4 =>
    x_chk (σ_4.K a0 = 4 ∨ σ_4.K a0 = 9) <|
    x_bind (dm_X10_letterOf P v_3 0 σ_4) (fun v_8 σ_9 =>
      if v_8 = 98 then
        dm_X8_readDigits_p29 P a0 v1 v2 v3 v_3 (σ_4.R 300 a0) 0 σ_9
      else
        dm_X8_readDigits_p29 P a0 v1 v2 v3 v_3 (σ_4.R 300 a0) 1 σ_9
      ) (fun E_12 σ_9 =>
      some (.inr E_12, σ_9)
      )
    ) (fun E_13 σ_4 =>
    some (.inr E_13, σ_4)
    )
def dm_X6_init (P : xP) (a0 : Nat) (v1 : Int32) (v2 : Int32) (v3 : Option Nat) (v4 : Int32) (v5 : Int32) (σ : xS) : xO Unit :=
  x_chk ((σ.K a0 = 7) ∧ P.base ≤ a0) <|
  x_let (σ.setI 600 a0 v1) fun σ_2 =>
  x_chk ((σ_2.K a0 = 7) ∧ P.base ≤ a0) <|
  x_let (σ_2.setI 601 a0 v2) fun σ_4 =>
  x_chk ((σ_4.K a0 = 7) ∧ P.base ≤ a0) <|
  x_let (σ_4.setR 602 a0 v3) fun σ_6 =>
  x_chk ((σ_6.K a0 = 7) ∧ P.base ≤ a0) <|
  x_let (σ_6.setI 603 a0 v4) fun σ_8 =>
  x_chk ((σ_8.K a0 = 7) ∧ P.base ≤ a0) <|
  x_let (σ_8.setI 604 a0 v5) fun σ_10 =>
  x_chk ((σ_10.K a0 = 7) ∧ P.base ≤ a0) <|
  x_let (σ_10.setI 605 a0 0) fun σ_12 =>
  some (.inl (), σ_12)
def dm_X8_readNetPart_p54 (P : xP) (a0 : Nat) (v1 : Int32) (v2 : Int32) (v3 : Int32) (v4 : Option Nat) (s0 : Option Nat) (s1 : Int32) (σ : xS) : xO (Option Nat) :=
  x_some s0 fun a_1 =>
  x_chk (σ.K a_1 = 10) <|
  x_bind (dm_X10_refuseIf P a_1 s1 σ) (fun _ σ_3 =>
    x_chk (σ_3.K a0 = 4 ∨ σ_3.K a0 = 9) <|
    x_some (σ_3.R 300 a0) fun a_7 =>
    x_chk (σ_3.K a_7 = 10) <|
    x_bind (dm_X10_step P a_7 σ_3) (fun _ σ_9 =>
      x_chk (σ_9.K a0 = 4 ∨ σ_9.K a0 = 9) <|
      x_some (σ_9.R 300 a0) fun a_13 =>
      x_chk (σ_9.K a_13 = 10) <|
      x_bind (dm_X10_skips P a_13 v1 σ_9) (fun v_14 σ_15 =>
        if v_14 = 0 then
          x_chk (σ_15.sz + 1 ≤ P.lim ∧ σ_15.su + 6 ≤ P.slim) <|
          x_let (σ_15.newO 7 6) fun σ_56 =>
          x_some v4 fun a_57 =>
          x_chk (σ_56.K a_57 = 5) <|
          x_bind (dm_X6_init P σ_15.sz 0 v3 v4 ((σ_56.I 402 a_57) - 1) 0 σ_56) (fun _ σ_60 =>
            some (.inl (some σ_15.sz), σ_60)
            ) (fun E_62 σ_60 =>
            some (.inr E_62, σ_60)
            )
        else
          x_chk (σ_15.K a0 = 4 ∨ σ_15.K a0 = 9) <|
          x_some v4 fun a_20 =>
          x_chk (σ_15.K a_20 = 5) <|
          x_some (σ_15.R 300 a0) fun a_22 =>
          x_chk (σ_15.K a_22 = 10) <|
          x_bind (dm_X10_takeNumber P a_22 0 ((σ_15.I 402 a_20) - 1) σ_15) (fun v_23 σ_24 =>
            x_chk (σ_24.K a0 = 4 ∨ σ_24.K a0 = 9) <|
            x_some (σ_24.R 300 a0) fun a_28 =>
            x_chk (σ_24.K a_28 = 10) <|
            x_bind (dm_X10_skips P a_28 v2 σ_24) (fun v_29 σ_30 =>
              if v_29 = 0 then
                x_chk (σ_30.sz + 1 ≤ P.lim ∧ σ_30.su + 6 ≤ P.slim) <|
                x_let (σ_30.newO 7 6) fun σ_48 =>
                x_bind (dm_X6_init P σ_30.sz 1 v3 v4 v_23 v_23 σ_48) (fun _ σ_50 =>
                  some (.inl (some σ_30.sz), σ_50)
                  ) (fun E_52 σ_50 =>
                  some (.inr E_52, σ_50)
                  )
              else
                x_chk (σ_30.K a0 = 4 ∨ σ_30.K a0 = 9) <|
                x_some (σ_30.R 300 a0) fun a_35 =>
                x_chk (σ_30.K a_35 = 10) <|
                x_bind (dm_X10_takeNumber P a_35 0 v_23 σ_30) (fun v_36 σ_37 =>
                  x_chk (σ_37.sz + 1 ≤ P.lim ∧ σ_37.su + 6 ≤ P.slim) <|
                  x_let (σ_37.newO 7 6) fun σ_41 =>
                  x_bind (dm_X6_init P σ_37.sz 2 v3 v4 v_23 v_36 σ_41) (fun _ σ_43 =>
                    some (.inl (some σ_37.sz), σ_43)
                    ) (fun E_45 σ_43 =>
                    some (.inr E_45, σ_43)
                    )
                  ) (fun E_46 σ_37 =>
                  some (.inr E_46, σ_37)
                  )
              ) (fun E_53 σ_30 =>
              some (.inr E_53, σ_30)
              )
            ) (fun E_54 σ_24 =>
            some (.inr E_54, σ_24)
            )
        ) (fun E_63 σ_15 =>
        some (.inr E_63, σ_15)
        )
      ) (fun E_64 σ_9 =>
      some (.inr E_64, σ_9)
      )
    ) (fun E_65 σ_3 =>
    some (.inr E_65, σ_3)
    )
def dm_X8_readNetPart_p49 (P : xP) (a0 : Nat) (v1 : Int32) (v2 : Int32) (v3 : Int32) (v4 : Option Nat) (s0 : Option Nat) (σ : xS) : xO (Option Nat) :=
  dm_X8_readNetPart_p54 P a0 v1 v2 v3 v4 s0 1 σ
def dm_X8_readNetPart (P : xP) (a0 : Nat) (v1 : Int32) (v2 : Int32) (σ : xS) : xO (Option Nat) :=
  x_chk (σ.K a0 = 4 ∨ σ.K a0 = 9) <|
  x_some (σ.R 300 a0) fun a_2 =>
  x_chk (σ.K a_2 = 10) <|
  x_bind (dm_X10_place P a_2 σ) (fun v_3 σ_4 =>
    x_chk (σ_4.K a0 = 4 ∨ σ_4.K a0 = 9) <|
    x_some (σ_4.R 302 a0) fun a_8 =>
    x_chk (σ_4.K a_8 = 6) <|
    x_some (σ_4.R 300 a0) fun a_10 =>
    x_chk (σ_4.K a_10 = 10) <|
    x_bind (dm_X10_name P a_10 σ_4) (fun v_11 σ_12 =>
      x_chk (σ_12.K a_8 = 6) <|
      x_bind (dm_X5_netAmong P a_8 (σ_4.I 504 a_8) v_11 σ_12) (fun v_15 σ_16 =>
        x_chk (σ_16.K a0 = 4 ∨ σ_16.K a0 = 9) <|
        if v_15 = none then
          dm_X8_readNetPart_p49 P a0 v1 v2 v_3 v_15 (σ_16.R 300 a0) σ_16
        else
          x_some v_15 fun a_21 =>
          x_chk (σ_16.K a_21 = 5) <|
          if (σ_16.I 401 a_21) = (-1) then
            dm_X8_readNetPart_p49 P a0 v1 v2 v_3 v_15 (σ_16.R 300 a0) σ_16
          else
            dm_X8_readNetPart_p54 P a0 v1 v2 v_3 v_15 (σ_16.R 300 a0) 0 σ_16
        ) (fun E_24 σ_16 =>
        some (.inr E_24, σ_16)
        )
      ) (fun E_25 σ_12 =>
      some (.inr E_25, σ_12)
      )
    ) (fun E_26 σ_4 =>
    some (.inr E_26, σ_4)
    )
def dm_X3_readPart_p71 (P : xP) (a0 : Nat) (v1 : Option Nat) (σ : xS) : xO (Option Nat) :=
  some (.inl v1, σ)
def dm_X3_readPart (P : xP) (a0 : Nat) (σ : xS) : xO (Option Nat) :=
  x_chk (σ.K a0 = 4) <|
  x_some (σ.R 300 a0) fun a_2 =>
  x_chk (σ.K a_2 = 10) <|
  x_bind (dm_X10_isNumber P a_2 σ) (fun v_3 σ_4 =>
    if v_3 = 0 then
      x_chk (σ_4.K a0 = 4) <|
      x_bind (dm_X8_readNetPart P a0 91 58 σ_4) (fun v_8 σ_9 =>
        x_some v_8 fun a_12 =>
        x_chk (σ_9.K a_12 = 7) <|
        if (σ_9.I 600 a_12) = 0 then
          dm_X3_readPart_p71 P a0 v_8 σ_9
        else
          x_chk (σ_9.K a0 = 4) <|
          x_some (σ_9.R 300 a0) fun a_16 =>
          x_chk (σ_9.K a_16 = 10) <|
          x_bind (dm_X10_takeSign P a_16 93 σ_9) (fun _ σ_18 =>
            dm_X3_readPart_p71 P a0 v_8 σ_18
            ) (fun E_21 σ_18 =>
            some (.inr E_21, σ_18)
            )
        ) (fun E_22 σ_9 =>
        some (.inr E_22, σ_9)
        )
    else
      x_chk (σ_4.K a0 = 4) <|
      x_some (σ_4.R 300 a0) fun a_24 =>
      x_chk (σ_4.K a_24 = 10) <|
      x_bind (dm_X10_place P a_24 σ_4) (fun v_25 σ_26 =>
        x_chk (σ_26.K a0 = 4) <|
        x_some (σ_26.R 300 a0) fun a_30 =>
        x_chk (σ_26.K a_30 = 10) <|
        x_bind (dm_X10_takeNumber P a_30 1 7 σ_26) (fun v_31 σ_32 =>
          x_chk (σ_32.K a0 = 4) <|
          x_some (σ_32.R 300 a0) fun a_36 =>
          x_chk (σ_32.K a_36 = 10) <|
          x_bind (dm_X10_takeSign P a_36 39 σ_32) (fun _ σ_38 =>
            x_chk (σ_38.K a0 = 4) <|
            x_bind (dm_X8_readDigits P a0 v_25 v_31 v_31 σ_38) (fun v_41 σ_42 =>
              some (.inl v_41, σ_42)
              ) (fun E_45 σ_42 =>
              some (.inr E_45, σ_42)
              )
            ) (fun E_46 σ_38 =>
            some (.inr E_46, σ_38)
            )
          ) (fun E_47 σ_32 =>
          some (.inr E_47, σ_32)
          )
        ) (fun E_48 σ_26 =>
        some (.inr E_48, σ_26)
        )
    ) (fun E_49 σ_4 =>
    some (.inr E_49, σ_4)
    )
def dm_X9_readPart (P : xP) (a0 : Nat) (σ : xS) : xO (Option Nat) :=
  x_chk (σ.K a0 = 9) <|
  x_some (σ.R 300 a0) fun a_2 =>
  x_chk (σ.K a_2 = 10) <|
  x_bind (dm_X10_place P a_2 σ) (fun v_3 σ_4 =>
    x_chk (σ_4.K a0 = 9) <|
    x_some (σ_4.R 300 a0) fun a_8 =>
    x_chk (σ_4.K a_8 = 10) <|
    x_bind (dm_X10_skips P a_8 39 σ_4) (fun v_9 σ_10 =>
      if v_9 = 0 then
        x_chk (σ_10.K a0 = 9) <|
        x_bind (dm_X8_readNetPart P a0 46 46 σ_10) (fun v_14 σ_15 =>
          some (.inl v_14, σ_15)
          ) (fun E_18 σ_15 =>
          some (.inr E_18, σ_15)
          )
      else
        x_chk (σ_10.K a0 = 9) <|
        x_bind (dm_X8_readDigits P a0 v_3 1 7 σ_10) (fun v_19 σ_20 =>
          some (.inl v_19, σ_20)
          ) (fun E_23 σ_20 =>
          some (.inr E_23, σ_20)
          )
      ) (fun E_24 σ_10 =>
      some (.inr E_24, σ_10)
      )
    ) (fun E_25 σ_4 =>
    some (.inr E_25, σ_4)
    )
def dm_X5_addAssign_p39 (P : xP) (a0 : Nat) (σ : xS) : xO Unit :=
  some (.inl (), σ)
def dm_X5_addAssign (P : xP) (a0 : Nat) (v1 : Option Nat) (v2 : Option Nat) (σ : xS) : xO Unit :=
  x_chk (σ.K a0 = 6) <|
  if 8 ≤ (σ.I 509 a0) then
    dm_X5_addAssign_p39 P a0 σ
  else
    x_some (σ.R 507 a0) fun a_3 =>
    x_chk (σ.K a_3 = 28 ∧ x_in (σ.I 509 a0) (σ.L a_3) ∧ P.base ≤ a_3 ∧ x_kind σ v1 7) <|
    x_let (σ.setAR a_3 (Int32.toNatClampNeg (σ.I 509 a0)) v1) fun σ_5 =>
    x_chk (σ_5.K a0 = 6) <|
    x_some (σ_5.R 508 a0) fun a_7 =>
    x_chk (σ_5.K a_7 = 28 ∧ x_in (σ_5.I 509 a0) (σ_5.L a_7) ∧ P.base ≤ a_7 ∧ x_kind σ_5 v2 7) <|
    x_let (σ_5.setAR a_7 (Int32.toNatClampNeg (σ_5.I 509 a0)) v2) fun σ_9 =>
    x_chk (σ_9.K a0 = 6) <|
    x_chk ((σ_9.K a0 = 6) ∧ P.base ≤ a0) <|
    x_let (σ_9.setI 509 a0 ((σ_9.I 509 a0) + 1)) fun σ_12 =>
    dm_X5_addAssign_p39 P a0 σ_12
def dm_X8_readAssign_p49 (P : xP) (a0 : Nat) (v2 : Option Nat) (σ : xS) : xO Unit :=
  x_chk (σ.K a0 = 4 ∨ σ.K a0 = 9) <|
  x_bind (if σ.K a0 = 4 then dm_X3_readPart P a0 σ else dm_X9_readPart P a0 σ) (fun v_1 σ_2 =>
    x_chk (σ_2.K a0 = 4 ∨ σ_2.K a0 = 9) <|
    x_some (σ_2.R 300 a0) fun a_6 =>
    x_chk (σ_2.K a_6 = 10) <|
    x_bind (dm_X10_takeSign P a_6 59 σ_2) (fun _ σ_8 =>
      x_chk (σ_8.K a0 = 4 ∨ σ_8.K a0 = 9) <|
      x_some (σ_8.R 302 a0) fun a_12 =>
      x_chk (σ_8.K a_12 = 6) <|
      x_bind (dm_X5_addAssign P a_12 v2 v_1 σ_8) (fun _ σ_14 =>
        some (.inl (), σ_14)
        ) (fun E_17 σ_14 =>
        some (.inr E_17, σ_14)
        )
      ) (fun E_18 σ_8 =>
      some (.inr E_18, σ_8)
      )
    ) (fun E_19 σ_2 =>
    some (.inr E_19, σ_2)
    )
def dm_X8_readAssign_p21 (P : xP) (a0 : Nat) (v1 : Int32) (s0 : Option Nat) (s1 : Int32) (σ : xS) : xO Unit :=
  x_some s0 fun a_1 =>
  x_chk (σ.K a_1 = 10) <|
  x_bind (dm_X10_refuseIf P a_1 s1 σ) (fun _ σ_3 =>
    x_chk (σ_3.K a0 = 4 ∨ σ_3.K a0 = 9) <|
    x_some (σ_3.R 300 a0) fun a_7 =>
    x_chk (σ_3.K a_7 = 10) <|
    x_bind (dm_X10_step P a_7 σ_3) (fun _ σ_9 =>
      x_chk (σ_9.K a0 = 4 ∨ σ_9.K a0 = 9) <|
      x_bind (if σ_9.K a0 = 4 then dm_X3_readPart P a0 σ_9 else dm_X9_readPart P a0 σ_9) (fun v_12 σ_13 =>
        if v1 = 0 then
          dm_X8_readAssign_p49 P a0 v_12 σ_13
        else
          x_chk (σ_13.K a0 = 4 ∨ σ_13.K a0 = 9) <|
          x_some (σ_13.R 300 a0) fun a_18 =>
          x_chk (σ_13.K a_18 = 10) <|
          x_bind (dm_X10_takeSign P a_18 61 σ_13) (fun _ σ_20 =>
            dm_X8_readAssign_p49 P a0 v_12 σ_20
            ) (fun E_23 σ_20 =>
            some (.inr E_23, σ_20)
            )
        ) (fun E_24 σ_13 =>
        some (.inr E_24, σ_13)
        )
      ) (fun E_25 σ_9 =>
      some (.inr E_25, σ_9)
      )
    ) (fun E_26 σ_3 =>
    some (.inr E_26, σ_3)
    )
def dm_X8_readAssign (P : xP) (a0 : Nat) (v1 : Int32) (σ : xS) : xO Unit :=
  x_chk (σ.K a0 = 4 ∨ σ.K a0 = 9) <|
  x_some (σ.R 302 a0) fun a_2 =>
  x_chk (σ.K a_2 = 6) <|
  if (σ.I 509 a_2) < 8 then
    dm_X8_readAssign_p21 P a0 v1 (σ.R 300 a0) 0 σ
  else
    dm_X8_readAssign_p21 P a0 v1 (σ.R 300 a0) 1 σ
def dm_X5_hasUntoldPort_L2 (P : xP) (a0 : Nat) : Nat → Int32 → xS → xO Int32
  | 0, _, _ => none
  | n + 1, v1, σ =>
    x_chk (σ.K a0 = 6) <|
    if (σ.I 505 a0) ≤ v1 then
      some (.inl 0, σ)
    else
      x_some (σ.R 503 a0) fun a_3 =>
      x_chk (σ.K a_3 = 26 ∧ x_in v1 (σ.L a_3)) <|
      x_some (σ.AR a_3 (Int32.toNatClampNeg v1)) fun a_5 =>
      x_chk (σ.K a_5 = 5) <|
      if (σ.I 401 a_5) = (-1) then
        some (.inl 1, σ)
      else
        x_let (v1 + 1) fun v_8 =>
        dm_X5_hasUntoldPort_L2 P a0 n v_8 σ
def dm_X5_hasUntoldPort (P : xP) (a0 : Nat) (σ : xS) : xO Int32 :=
  dm_X5_hasUntoldPort_L2 P a0 P.N 0 σ
def dm_X5_numberBits_L7 (P : xP) (a0 : Nat) : Nat → Int32 → xS → xO Unit
  | 0, _, _ => none
  | n + 1, v1, σ =>
    x_chk (σ.K a0 = 6) <|
    if (σ.I 504 a0) ≤ v1 then
      some (.inl (), σ)
    else
      x_some (σ.R 503 a0) fun a_3 =>
      x_chk (σ.K a_3 = 26 ∧ x_in v1 (σ.L a_3)) <|
      x_some (σ.AR a_3 (Int32.toNatClampNeg v1)) fun a_5 =>
      x_chk ((σ.K a_5 = 5) ∧ P.base ≤ a_5) <|
      x_let (σ.setI 403 a_5 (σ.I 506 a0)) fun σ_7 =>
      x_chk (σ_7.K a0 = 6) <|
      x_some (σ_7.R 503 a0) fun a_9 =>
      x_chk (σ_7.K a_9 = 26 ∧ x_in v1 (σ_7.L a_9)) <|
      x_some (σ_7.AR a_9 (Int32.toNatClampNeg v1)) fun a_11 =>
      x_chk (σ_7.K a_11 = 5) <|
      x_chk ((σ_7.K a0 = 6) ∧ P.base ≤ a0) <|
      x_let (σ_7.setI 506 a0 ((σ_7.I 506 a0) + (σ_7.I 402 a_11))) fun σ_14 =>
      x_let (v1 + 1) fun v_15 =>
      dm_X5_numberBits_L7 P a0 n v_15 σ_14
def dm_X5_numberBits (P : xP) (a0 : Nat) (σ : xS) : xO Unit :=
  x_chk ((σ.K a0 = 6) ∧ P.base ≤ a0) <|
  x_let (σ.setI 506 a0 0) fun σ_2 =>
  dm_X5_numberBits_L7 P a0 P.N 0 σ_2
def dm_X8_endModule (P : xP) (a0 : Nat) (σ : xS) : xO Unit :=
  x_chk (σ.K a0 = 4 ∨ σ.K a0 = 9) <|
  x_some (σ.R 302 a0) fun a_2 =>
  x_chk (σ.K a_2 = 6) <|
  x_bind (dm_X5_numberBits P a_2 σ) (fun _ σ_4 =>
    x_chk ((σ_4.K a0 = 4 ∨ σ_4.K a0 = 9) ∧ P.base ≤ a0) <|
    x_let (σ_4.setR 302 a0 none) fun σ_8 =>
    some (.inl (), σ_8)
    ) (fun E_9 σ_4 =>
    some (.inr E_9, σ_4)
    )
def dm_X5_hasInstance_L2 (P : xP) (a0 : Nat) : Nat → Int64 → Int32 → xS → xO Int32
  | 0, _, _, _ => none
  | n + 1, v1, v3, σ =>
    x_chk (σ.K a0 = 6) <|
    if (σ.I 511 a0) ≤ v3 then
      some (.inl 0, σ)
    else
      x_some (σ.R 510 a0) fun a_3 =>
      x_chk (σ.K a_3 = 24 ∧ x_in v3 (σ.L a_3)) <|
      x_some (σ.AR a_3 (Int32.toNatClampNeg v3)) fun a_5 =>
      x_chk (σ.K a_5 = 2) <|
      if (lg_cmp (σ.J 101 a_5) v1) = 0 then
        some (.inl 1, σ)
      else
        x_let (v3 + 1) fun v_8 =>
        dm_X5_hasInstance_L2 P a0 n v1 v_8 σ
def dm_X5_hasInstance (P : xP) (a0 : Nat) (v1 : Int64) (σ : xS) : xO Int32 :=
  dm_X5_hasInstance_L2 P a0 P.N v1 0 σ
def dm_X1_init (P : xP) (a0 : Nat) (v1 : Int64) (v3 : Int64) (v5 : Int32) (σ : xS) : xO Unit :=
  x_chk ((σ.K a0 = 2) ∧ P.base ≤ a0 ∧ x_bool 0) <|
  x_let (σ.setI 103 a0 0) fun σ_2 =>
  x_chk (¬ (16 : Int32) < 0 ∧ (Int32.toNatClampNeg 16) ≤ 60000000 ∧ σ_2.sz + 1 ≤ P.lim ∧ σ_2.su + (Int32.toNatClampNeg 16) ≤ P.slim) <|
  x_let (σ_2.newA 25 (Int32.toNatClampNeg 16)) fun σ_4 =>
  x_chk ((σ_4.K a0 = 2) ∧ P.base ≤ a0) <|
  x_let (σ_4.setR 104 a0 (some σ_2.sz)) fun σ_6 =>
  x_chk ((σ_6.K a0 = 2) ∧ P.base ≤ a0) <|
  x_let (σ_6.setI 105 a0 0) fun σ_8 =>
  x_chk ((σ_8.K a0 = 2) ∧ P.base ≤ a0) <|
  x_let (σ_8.setR 106 a0 none) fun σ_10 =>
  x_chk ((σ_10.K a0 = 2) ∧ P.base ≤ a0) <|
  x_let (σ_10.setJ 100 a0 v1) fun σ_12 =>
  x_chk ((σ_12.K a0 = 2) ∧ P.base ≤ a0) <|
  x_let (σ_12.setJ 101 a0 v3) fun σ_14 =>
  x_chk ((σ_14.K a0 = 2) ∧ P.base ≤ a0) <|
  x_let (σ_14.setI 102 a0 v5) fun σ_16 =>
  some (.inl (), σ_16)
def dm_X5_addInstance_p29 (P : xP) (a0 : Nat) (σ : xS) : xO Unit :=
  some (.inl (), σ)
def dm_X5_addInstance (P : xP) (a0 : Nat) (v1 : Option Nat) (σ : xS) : xO Unit :=
  x_chk (σ.K a0 = 6) <|
  if 12 ≤ (σ.I 511 a0) then
    dm_X5_addInstance_p29 P a0 σ
  else
    x_some (σ.R 510 a0) fun a_3 =>
    x_chk (σ.K a_3 = 24 ∧ x_in (σ.I 511 a0) (σ.L a_3) ∧ P.base ≤ a_3 ∧ x_kind σ v1 2) <|
    x_let (σ.setAR a_3 (Int32.toNatClampNeg (σ.I 511 a0)) v1) fun σ_5 =>
    x_chk (σ_5.K a0 = 6) <|
    x_chk ((σ_5.K a0 = 6) ∧ P.base ≤ a0) <|
    x_let (σ_5.setI 511 a0 ((σ_5.I 511 a0) + 1)) fun σ_8 =>
    dm_X5_addInstance_p29 P a0 σ_8
def dm_X8_startInstance_p55 (P : xP) (a0 : Nat) (v1 : Int64) (v3 : Int64) (s0 : Option Nat) (s1 : Int32) (σ : xS) : xO (Option Nat) :=
  x_some s0 fun a_1 =>
  x_chk (σ.K a_1 = 10) <|
  x_bind (dm_X10_refuseIf P a_1 s1 σ) (fun _ σ_3 =>
    x_chk (σ_3.sz + 1 ≤ P.lim ∧ σ_3.su + 7 ≤ P.slim) <|
    x_let (σ_3.newO 2 7) fun σ_7 =>
    x_chk (σ_7.K a0 = 4 ∨ σ_7.K a0 = 9) <|
    x_some (σ_7.R 300 a0) fun a_9 =>
    x_chk (σ_7.K a_9 = 10) <|
    x_bind (dm_X10_place P a_9 σ_7) (fun v_10 σ_11 =>
      x_bind (dm_X1_init P σ_3.sz v1 v3 v_10 σ_11) (fun _ σ_15 =>
        x_chk (σ_15.K a0 = 4 ∨ σ_15.K a0 = 9) <|
        x_some (σ_15.R 302 a0) fun a_18 =>
        x_chk (σ_15.K a_18 = 6) <|
        x_bind (dm_X5_addInstance P a_18 (some σ_3.sz) σ_15) (fun _ σ_20 =>
          x_chk (σ_20.K a0 = 4 ∨ σ_20.K a0 = 9) <|
          x_some (σ_20.R 300 a0) fun a_24 =>
          x_chk (σ_20.K a_24 = 10) <|
          x_bind (dm_X10_step P a_24 σ_20) (fun _ σ_26 =>
            some (.inl (some σ_3.sz), σ_26)
            ) (fun E_29 σ_26 =>
            some (.inr E_29, σ_26)
            )
          ) (fun E_30 σ_20 =>
          some (.inr E_30, σ_20)
          )
        ) (fun E_31 σ_15 =>
        some (.inr E_31, σ_15)
        )
      ) (fun E_32 σ_11 =>
      some (.inr E_32, σ_11)
      )
    ) (fun E_33 σ_3 =>
    some (.inr E_33, σ_3)
    )
def dm_X8_startInstance_p50 (P : xP) (a0 : Nat) (v1 : Int64) (v3 : Int64) (s0 : Option Nat) (σ : xS) : xO (Option Nat) :=
  dm_X8_startInstance_p55 P a0 v1 v3 s0 1 σ
def dm_X8_startInstance (P : xP) (a0 : Nat) (σ : xS) : xO (Option Nat) :=
  x_chk (σ.K a0 = 4 ∨ σ.K a0 = 9) <|
  x_some (σ.R 300 a0) fun a_2 =>
  x_chk (σ.K a_2 = 10) <|
  x_bind (dm_X10_name P a_2 σ) (fun v_3 σ_4 =>
    x_chk (σ_4.K a0 = 4 ∨ σ_4.K a0 = 9) <|
    x_some (σ_4.R 300 a0) fun a_8 =>
    x_chk (σ_4.K a_8 = 10) <|
    x_bind (dm_X10_step P a_8 σ_4) (fun _ σ_10 =>
      x_chk (σ_10.K a0 = 4 ∨ σ_10.K a0 = 9) <|
      x_some (σ_10.R 300 a0) fun a_14 =>
      x_chk (σ_10.K a_14 = 10) <|
      x_bind (dm_X10_name P a_14 σ_10) (fun v_15 σ_16 =>
        x_chk (σ_16.K a0 = 4 ∨ σ_16.K a0 = 9) <|
        x_some (σ_16.R 302 a0) fun a_20 =>
        x_chk (σ_16.K a_20 = 6) <|
        if 12 ≤ (σ_16.I 511 a_20) then
          dm_X8_startInstance_p50 P a0 v_3 v_15 (σ_16.R 300 a0) σ_16
        else
          x_bind (dm_X5_hasInstance P a_20 v_15 σ_16) (fun v_23 σ_24 =>
            if v_23 = 0 then
              dm_X8_startInstance_p55 P a0 v_3 v_15 (σ_16.R 300 a0) 0 σ_24
            else
              dm_X8_startInstance_p50 P a0 v_3 v_15 (σ_16.R 300 a0) σ_24
            ) (fun E_27 σ_24 =>
            some (.inr E_27, σ_24)
            )
        ) (fun E_28 σ_16 =>
        some (.inr E_28, σ_16)
        )
      ) (fun E_29 σ_10 =>
      some (.inr E_29, σ_10)
      )
    ) (fun E_30 σ_4 =>
    some (.inr E_30, σ_4)
    )
def dm_X1_isFull_p14 (P : xP) (a0 : Nat) (s0 : Int32) (σ : xS) : xO Int32 :=
  x_chk (x_bool s0) <|
  some (.inl s0, σ)
def dm_X1_isFull (P : xP) (a0 : Nat) (σ : xS) : xO Int32 :=
  x_chk (σ.K a0 = 2) <|
  if (σ.I 105 a0) < 16 then
    dm_X1_isFull_p14 P a0 0 σ
  else
    dm_X1_isFull_p14 P a0 1 σ
def dm_X2_init (P : xP) (a0 : Nat) (v1 : Int64) (v3 : Int32) (v4 : Option Nat) (σ : xS) : xO Unit :=
  x_chk ((σ.K a0 = 3) ∧ P.base ≤ a0) <|
  x_let (σ.setJ 200 a0 v1) fun σ_2 =>
  x_chk ((σ_2.K a0 = 3) ∧ P.base ≤ a0) <|
  x_let (σ_2.setI 201 a0 v3) fun σ_4 =>
  x_chk ((σ_4.K a0 = 3) ∧ P.base ≤ a0) <|
  x_let (σ_4.setR 202 a0 v4) fun σ_6 =>
  some (.inl (), σ_6)
def dm_X1_addLink_p29 (P : xP) (a0 : Nat) (σ : xS) : xO Unit :=
  some (.inl (), σ)
def dm_X1_addLink (P : xP) (a0 : Nat) (v1 : Option Nat) (σ : xS) : xO Unit :=
  x_chk (σ.K a0 = 2) <|
  if 16 ≤ (σ.I 105 a0) then
    dm_X1_addLink_p29 P a0 σ
  else
    x_some (σ.R 104 a0) fun a_3 =>
    x_chk (σ.K a_3 = 25 ∧ x_in (σ.I 105 a0) (σ.L a_3) ∧ P.base ≤ a_3 ∧ x_kind σ v1 3) <|
    x_let (σ.setAR a_3 (Int32.toNatClampNeg (σ.I 105 a0)) v1) fun σ_5 =>
    x_chk (σ_5.K a0 = 2) <|
    x_chk ((σ_5.K a0 = 2) ∧ P.base ≤ a0) <|
    x_let (σ_5.setI 105 a0 ((σ_5.I 105 a0) + 1)) fun σ_8 =>
    dm_X1_addLink_p29 P a0 σ_8
def dm_X3_readNamedLink_p93 (P : xP) (a0 : Nat) (v1 : Option Nat) (v2 : Int64) (v4 : Int32) (s0 : Option Nat) (σ : xS) : xO Unit :=
  x_chk (σ.K a0 = 4) <|
  x_some (σ.R 300 a0) fun a_2 =>
  x_chk (σ.K a_2 = 10) <|
  x_bind (dm_X10_takeSign P a_2 41 σ) (fun _ σ_4 =>
    x_chk (σ_4.sz + 1 ≤ P.lim ∧ σ_4.su + 3 ≤ P.slim) <|
    x_let (σ_4.newO 3 3) fun σ_8 =>
    x_bind (dm_X2_init P σ_4.sz v2 v4 s0 σ_8) (fun _ σ_10 =>
      x_some v1 fun a_12 =>
      x_chk (σ_10.K a_12 = 2) <|
      x_bind (dm_X1_addLink P a_12 (some σ_4.sz) σ_10) (fun _ σ_14 =>
        some (.inl (), σ_14)
        ) (fun E_17 σ_14 =>
        some (.inr E_17, σ_14)
        )
      ) (fun E_18 σ_10 =>
      some (.inr E_18, σ_10)
      )
    ) (fun E_19 σ_4 =>
    some (.inr E_19, σ_4)
    )
def dm_X3_readNamedLink_p45 (P : xP) (a0 : Nat) (v1 : Option Nat) (v2 : Int64) (s0 : Option Nat) (s1 : Int32) (σ : xS) : xO Unit :=
  x_some s0 fun a_1 =>
  x_chk (σ.K a_1 = 10) <|
  x_bind (dm_X10_refuseIf P a_1 s1 σ) (fun _ σ_3 =>
    x_chk (σ_3.K a0 = 4) <|
    x_some (σ_3.R 300 a0) fun a_7 =>
    x_chk (σ_3.K a_7 = 10) <|
    x_bind (dm_X10_place P a_7 σ_3) (fun v_8 σ_9 =>
      x_chk (σ_9.K a0 = 4) <|
      x_some (σ_9.R 300 a0) fun a_13 =>
      x_chk (σ_9.K a_13 = 10) <|
      x_bind (dm_X10_step P a_13 σ_9) (fun _ σ_15 =>
        x_chk (σ_15.K a0 = 4) <|
        x_some (σ_15.R 300 a0) fun a_19 =>
        x_chk (σ_15.K a_19 = 10) <|
        x_bind (dm_X10_takeSign P a_19 40 σ_15) (fun _ σ_21 =>
          x_chk (σ_21.K a0 = 4) <|
          x_some (σ_21.R 300 a0) fun a_25 =>
          x_chk (σ_21.K a_25 = 10) <|
          x_bind (dm_X10_isSign P a_25 41 σ_21) (fun v_26 σ_27 =>
            if v_26 = 0 then
              x_chk (σ_27.K a0 = 4) <|
              x_bind (dm_X3_readPart P a0 σ_27) (fun v_31 σ_32 =>
                dm_X3_readNamedLink_p93 P a0 v1 v2 v_8 v_31 σ_32
                ) (fun E_35 σ_32 =>
                some (.inr E_35, σ_32)
                )
            else
              dm_X3_readNamedLink_p93 P a0 v1 v2 v_8 none σ_27
            ) (fun E_36 σ_27 =>
            some (.inr E_36, σ_27)
            )
          ) (fun E_37 σ_21 =>
          some (.inr E_37, σ_21)
          )
        ) (fun E_38 σ_15 =>
        some (.inr E_38, σ_15)
        )
      ) (fun E_39 σ_9 =>
      some (.inr E_39, σ_9)
      )
    ) (fun E_40 σ_3 =>
    some (.inr E_40, σ_3)
    )
def dm_X3_readNamedLink (P : xP) (a0 : Nat) (v1 : Option Nat) (σ : xS) : xO Unit :=
  x_chk (σ.K a0 = 4) <|
  x_some v1 fun a_2 =>
  x_chk (σ.K a_2 = 2) <|
  x_bind (dm_X1_isFull P a_2 σ) (fun v_3 σ_4 =>
    x_some (σ.R 300 a0) fun a_7 =>
    x_chk (σ_4.K a_7 = 10) <|
    x_bind (dm_X10_refuseIf P a_7 v_3 σ_4) (fun _ σ_9 =>
      x_chk (σ_9.K a0 = 4) <|
      x_some (σ_9.R 300 a0) fun a_13 =>
      x_chk (σ_9.K a_13 = 10) <|
      x_bind (dm_X10_takeSign P a_13 46 σ_9) (fun _ σ_15 =>
        x_chk (σ_15.K a0 = 4) <|
        x_some (σ_15.R 300 a0) fun a_19 =>
        x_chk (σ_15.K a_19 = 10) <|
        x_bind (dm_X10_name P a_19 σ_15) (fun v_20 σ_21 =>
          x_chk (σ_21.K a0 = 4) <|
          x_chk (σ_21.K a_2 = 2) <|
          x_bind (dm_X1_linkTo P a_2 v_20 σ_21) (fun v_25 σ_26 =>
            if v_25 = none then
              dm_X3_readNamedLink_p45 P a0 v1 v_20 (σ_21.R 300 a0) 0 σ_26
            else
              dm_X3_readNamedLink_p45 P a0 v1 v_20 (σ_21.R 300 a0) 1 σ_26
            ) (fun E_30 σ_26 =>
            some (.inr E_30, σ_26)
            )
          ) (fun E_31 σ_21 =>
          some (.inr E_31, σ_21)
          )
        ) (fun E_32 σ_15 =>
        some (.inr E_32, σ_15)
        )
      ) (fun E_33 σ_9 =>
      some (.inr E_33, σ_9)
      )
    ) (fun E_34 σ_4 =>
    some (.inr E_34, σ_4)
    )
def dm_X8_readOrderedLink_p39 (P : xP) (a0 : Nat) (v1 : Option Nat) (v2 : Int32) (s0 : Option Nat) (σ : xS) : xO Unit :=
  x_chk (σ.sz + 1 ≤ P.lim ∧ σ.su + 3 ≤ P.slim) <|
  x_let (σ.newO 3 3) fun σ_2 =>
  x_bind (dm_X2_init P σ.sz 0 v2 s0 σ_2) (fun _ σ_4 =>
    x_some v1 fun a_6 =>
    x_chk (σ_4.K a_6 = 2) <|
    x_bind (dm_X1_addLink P a_6 (some σ.sz) σ_4) (fun _ σ_8 =>
      some (.inl (), σ_8)
      ) (fun E_11 σ_8 =>
      some (.inr E_11, σ_8)
      )
    ) (fun E_12 σ_4 =>
    some (.inr E_12, σ_4)
    )
def dm_X8_readOrderedLink (P : xP) (a0 : Nat) (v1 : Option Nat) (σ : xS) : xO Unit :=
  x_chk (σ.K a0 = 4 ∨ σ.K a0 = 9) <|
  x_some v1 fun a_2 =>
  x_chk (σ.K a_2 = 2) <|
  x_bind (dm_X1_isFull P a_2 σ) (fun v_3 σ_4 =>
    x_some (σ.R 300 a0) fun a_7 =>
    x_chk (σ_4.K a_7 = 10) <|
    x_bind (dm_X10_refuseIf P a_7 v_3 σ_4) (fun _ σ_9 =>
      x_chk (σ_9.K a0 = 4 ∨ σ_9.K a0 = 9) <|
      x_some (σ_9.R 300 a0) fun a_13 =>
      x_chk (σ_9.K a_13 = 10) <|
      x_bind (dm_X10_place P a_13 σ_9) (fun v_14 σ_15 =>
        x_chk (σ_15.K a0 = 4 ∨ σ_15.K a0 = 9) <|
        x_some (σ_15.R 300 a0) fun a_19 =>
        x_chk (σ_15.K a_19 = 10) <|
        x_bind (dm_X10_skips P a_19 45 σ_15) (fun v_20 σ_21 =>
          if v_20 = 0 then
            x_chk (σ_21.K a0 = 4 ∨ σ_21.K a0 = 9) <|
            x_bind (if σ_21.K a0 = 4 then dm_X3_readPart P a0 σ_21 else dm_X9_readPart P a0 σ_21) (fun v_25 σ_26 =>
              dm_X8_readOrderedLink_p39 P a0 v1 v_14 v_25 σ_26
              ) (fun E_29 σ_26 =>
              some (.inr E_29, σ_26)
              )
          else
            dm_X8_readOrderedLink_p39 P a0 v1 v_14 none σ_21
          ) (fun E_30 σ_21 =>
          some (.inr E_30, σ_21)
          )
        ) (fun E_31 σ_15 =>
        some (.inr E_31, σ_15)
        )
      ) (fun E_32 σ_9 =>
      some (.inr E_32, σ_9)
      )
    ) (fun E_33 σ_4 =>
    some (.inr E_33, σ_4)
    )
def dm_X3_readInstance_p77 (P : xP) (k47 : Option Nat → Int32 → Int32 → xS → xO Unit) (a0 : Nat) (v1 : Option Nat) (v3 : Int32) (σ : xS) : xO Unit :=
  x_chk (σ.K a0 = 4) <|
  x_some (σ.R 300 a0) fun a_2 =>
  x_chk (σ.K a_2 = 10) <|
  x_bind (dm_X10_skips P a_2 44 σ) (fun v_3 σ_4 =>
    x_let (v3 + 1) fun v_7 =>
    k47 v1 v_3 v_7 σ_4
    ) (fun E_8 σ_4 =>
    some (.inr E_8, σ_4)
    )
def dm_X3_readInstance_p93 (P : xP) (a0 : Nat) (σ : xS) : xO Unit :=
  x_chk (σ.K a0 = 4) <|
  x_some (σ.R 300 a0) fun a_2 =>
  x_chk (σ.K a_2 = 10) <|
  x_bind (dm_X10_takeSign P a_2 41 σ) (fun _ σ_4 =>
    x_chk (σ_4.K a0 = 4) <|
    x_some (σ_4.R 300 a0) fun a_8 =>
    x_chk (σ_4.K a_8 = 10) <|
    x_bind (dm_X10_takeSign P a_8 59 σ_4) (fun _ σ_10 =>
      some (.inl (), σ_10)
      ) (fun E_13 σ_10 =>
      some (.inr E_13, σ_10)
      )
    ) (fun E_14 σ_4 =>
    some (.inr E_14, σ_4)
    )
def dm_X3_readInstance_L47 (P : xP) (a0 : Nat) : Nat → Option Nat → Int32 → Int32 → xS → xO Unit
  | 0, _, _, _, _ => none
  | n + 1, v1, v2, v3, σ =>
    if v2 = 0 then
      dm_X3_readInstance_p93 P a0 σ
    else
      if 16 < v3 then
        dm_X3_readInstance_p93 P a0 σ
      else
        x_some v1 fun a_3 =>
        x_chk (σ.K a_3 = 2) <|
        if (σ.I 103 a_3) = 0 then
          x_chk (σ.K a0 = 4) <|
          x_bind (dm_X8_readOrderedLink P a0 v1 σ) (fun _ σ_7 =>
            dm_X3_readInstance_p77 P (dm_X3_readInstance_L47 P a0 n) a0 v1 v3 σ_7
            ) (fun E_10 σ_7 =>
            some (.inr E_10, σ_7)
            )
        else
          x_chk (σ.K a0 = 4) <|
          x_bind (dm_X3_readNamedLink P a0 v1 σ) (fun _ σ_12 =>
            dm_X3_readInstance_p77 P (dm_X3_readInstance_L47 P a0 n) a0 v1 v3 σ_12
            ) (fun E_15 σ_12 =>
            some (.inr E_15, σ_12)
            )
def dm_X3_readInstance_p44 (P : xP) (a0 : Nat) (v1 : Option Nat) (s0 : Int32) (σ : xS) : xO Unit :=
  dm_X3_readInstance_L47 P a0 P.N v1 s0 0 σ
def dm_X3_readInstance (P : xP) (a0 : Nat) (σ : xS) : xO Unit :=
  x_chk (σ.K a0 = 4) <|
  x_bind (dm_X8_startInstance P a0 σ) (fun v_1 σ_2 =>
    x_chk (σ_2.K a0 = 4) <|
    x_some (σ_2.R 300 a0) fun a_6 =>
    x_chk (σ_2.K a_6 = 10) <|
    x_bind (dm_X10_takeSign P a_6 40 σ_2) (fun _ σ_8 =>
      x_chk (σ_8.K a0 = 4) <|
      x_some (σ_8.R 300 a0) fun a_12 =>
      x_chk (σ_8.K a_12 = 10) <|
      x_bind (dm_X10_isSign P a_12 46 σ_8) (fun v_13 σ_14 =>
        x_some v_1 fun a_17 =>
        x_chk ((σ_14.K a_17 = 2) ∧ P.base ≤ a_17 ∧ x_bool v_13) <|
        x_let (σ_14.setI 103 a_17 v_13) fun σ_19 =>
        x_chk (σ_19.K a0 = 4) <|
        x_some (σ_19.R 300 a0) fun a_21 =>
        x_chk (σ_19.K a_21 = 10) <|
        x_bind (dm_X10_isSign P a_21 41 σ_19) (fun v_22 σ_23 =>
          if v_22 = 0 then
            dm_X3_readInstance_p44 P a0 v_1 1 σ_23
          else
            dm_X3_readInstance_p44 P a0 v_1 0 σ_23
          ) (fun E_27 σ_23 =>
          some (.inr E_27, σ_23)
          )
        ) (fun E_28 σ_14 =>
        some (.inr E_28, σ_14)
        )
      ) (fun E_29 σ_8 =>
      some (.inr E_29, σ_8)
      )
    ) (fun E_30 σ_2 =>
    some (.inr E_30, σ_2)
    )
def dm_X3_readPiece_p138 (P : xP) (a0 : Nat) (σ : xS) : xO Unit :=
  some (.inl (), σ)
def dm_X3_readPiece (P : xP) (a0 : Nat) (σ : xS) : xO Unit :=
  x_chk (σ.K a0 = 4) <|
  if (σ.R 302 a0) = none then
    x_bind (dm_X3_readHead P a0 σ) (fun _ σ_93 =>
      dm_X3_readPiece_p138 P a0 σ_93
      ) (fun E_95 σ_93 =>
      some (.inr E_95, σ_93)
      )
  else
    x_some (σ.R 300 a0) fun a_3 =>
    x_chk (σ.K a_3 = 10) <|
    x_bind (dm_X10_isText P a_3 (some (P.ad 15)) σ) (fun v_4 σ_5 =>
      if v_4 = 0 then
        x_chk (σ_5.K a0 = 4) <|
        x_some (σ_5.R 300 a0) fun a_10 =>
        x_chk (σ_5.K a_10 = 10) <|
        x_bind (dm_X10_isText P a_10 (some (P.ad 23)) σ_5) (fun v_11 σ_12 =>
          if v_11 = 0 then
            x_chk (σ_12.K a0 = 4) <|
            x_some (σ_12.R 300 a0) fun a_17 =>
            x_chk (σ_12.K a_17 = 10) <|
            x_bind (dm_X10_isText P a_17 (some (P.ad 29)) σ_12) (fun v_18 σ_19 =>
              if v_18 = 0 then
                x_chk (σ_19.K a0 = 4) <|
                x_some (σ_19.R 300 a0) fun a_24 =>
                x_chk (σ_19.K a_24 = 10) <|
                x_bind (dm_X10_isText P a_24 (some (P.ad 7)) σ_19) (fun v_25 σ_26 =>
                  if v_25 = 0 then
                    x_chk (σ_26.K a0 = 4) <|
                    x_some (σ_26.R 300 a0) fun a_31 =>
                    x_chk (σ_26.K a_31 = 10) <|
                    x_bind (dm_X10_isText P a_31 (some (P.ad 11)) σ_26) (fun v_32 σ_33 =>
                      if v_32 = 0 then
                        x_chk (σ_33.K a0 = 4) <|
                        x_bind (dm_X3_readInstance P a0 σ_33) (fun _ σ_38 =>
                          dm_X3_readPiece_p138 P a0 σ_38
                          ) (fun E_41 σ_38 =>
                          some (.inr E_41, σ_38)
                          )
                      else
                        x_chk (σ_33.K a0 = 4) <|
                        x_some (σ_33.R 302 a0) fun a_43 =>
                        x_chk (σ_33.K a_43 = 6) <|
                        x_bind (dm_X5_hasUntoldPort P a_43 σ_33) (fun v_44 σ_45 =>
                          x_some (σ_33.R 300 a0) fun a_48 =>
                          x_chk (σ_45.K a_48 = 10) <|
                          x_bind (dm_X10_refuseIf P a_48 v_44 σ_45) (fun _ σ_50 =>
                            x_chk (σ_50.K a0 = 4) <|
                            x_some (σ_50.R 300 a0) fun a_54 =>
                            x_chk (σ_50.K a_54 = 10) <|
                            x_bind (dm_X10_step P a_54 σ_50) (fun _ σ_56 =>
                              x_chk (σ_56.K a0 = 4) <|
                              x_bind (dm_X8_endModule P a0 σ_56) (fun _ σ_60 =>
                                dm_X3_readPiece_p138 P a0 σ_60
                                ) (fun E_63 σ_60 =>
                                some (.inr E_63, σ_60)
                                )
                              ) (fun E_64 σ_56 =>
                              some (.inr E_64, σ_56)
                              )
                            ) (fun E_65 σ_50 =>
                            some (.inr E_65, σ_50)
                            )
                          ) (fun E_66 σ_45 =>
                          some (.inr E_66, σ_45)
                          )
                      ) (fun E_67 σ_33 =>
                      some (.inr E_67, σ_33)
                      )
                  else
                    x_chk (σ_26.K a0 = 4) <|
                    x_bind (dm_X8_readAssign P a0 1 σ_26) (fun _ σ_69 =>
                      dm_X3_readPiece_p138 P a0 σ_69
                      ) (fun E_72 σ_69 =>
                      some (.inr E_72, σ_69)
                      )
                  ) (fun E_73 σ_26 =>
                  some (.inr E_73, σ_26)
                  )
              else
                x_chk (σ_19.K a0 = 4) <|
                x_bind (dm_X3_readNets P a0 2 σ_19) (fun _ σ_75 =>
                  dm_X3_readPiece_p138 P a0 σ_75
                  ) (fun E_78 σ_75 =>
                  some (.inr E_78, σ_75)
                  )
              ) (fun E_79 σ_19 =>
              some (.inr E_79, σ_19)
              )
          else
            x_chk (σ_12.K a0 = 4) <|
            x_bind (dm_X3_readNets P a0 1 σ_12) (fun _ σ_81 =>
              dm_X3_readPiece_p138 P a0 σ_81
              ) (fun E_84 σ_81 =>
              some (.inr E_84, σ_81)
              )
          ) (fun E_85 σ_12 =>
          some (.inr E_85, σ_12)
          )
      else
        x_chk (σ_5.K a0 = 4) <|
        x_bind (dm_X3_readNets P a0 0 σ_5) (fun _ σ_87 =>
          dm_X3_readPiece_p138 P a0 σ_87
          ) (fun E_90 σ_87 =>
          some (.inr E_90, σ_87)
          )
      ) (fun E_91 σ_5 =>
      some (.inr E_91, σ_5)
      )
def dm_X9_readNet_p35 (P : xP) (a0 : Nat) (v1 : Int32) (v2 : Int64) (s0 : Option Nat) (s1 : Int32) (σ : xS) : xO Unit :=
  x_some s0 fun a_1 =>
  x_chk (σ.K a_1 = 10) <|
  x_bind (dm_X10_refuseIf P a_1 s1 σ) (fun _ σ_3 =>
    x_chk (σ_3.K a0 = 9) <|
    x_some (σ_3.R 300 a0) fun a_7 =>
    x_chk (σ_3.K a_7 = 10) <|
    x_bind (dm_X10_step P a_7 σ_3) (fun _ σ_9 =>
      x_chk (σ_9.K a0 = 9) <|
      x_chk (σ_9.sz + 1 ≤ P.lim ∧ σ_9.su + 4 ≤ P.slim) <|
      x_let (σ_9.newO 5 4) fun σ_14 =>
      x_chk (σ_14.K a0 = 9) <|
      x_some (σ_14.R 300 a0) fun a_16 =>
      x_chk (σ_14.K a_16 = 10) <|
      x_bind (dm_X10_takeNumber P a_16 1 8 σ_14) (fun v_17 σ_18 =>
        x_bind (dm_X4_init P σ_9.sz v2 v1 v_17 σ_18) (fun _ σ_22 =>
          x_some (σ_9.R 302 a0) fun a_24 =>
          x_chk (σ_22.K a_24 = 6) <|
          x_bind (dm_X5_addNet P a_24 (some σ_9.sz) σ_22) (fun _ σ_26 =>
            x_chk (σ_26.K a0 = 9) <|
            x_some (σ_26.R 300 a0) fun a_30 =>
            x_chk (σ_26.K a_30 = 10) <|
            x_bind (dm_X10_takeSign P a_30 59 σ_26) (fun _ σ_32 =>
              some (.inl (), σ_32)
              ) (fun E_35 σ_32 =>
              some (.inr E_35, σ_32)
              )
            ) (fun E_36 σ_26 =>
            some (.inr E_36, σ_26)
            )
          ) (fun E_37 σ_22 =>
          some (.inr E_37, σ_22)
          )
        ) (fun E_38 σ_18 =>
        some (.inr E_38, σ_18)
        )
      ) (fun E_39 σ_9 =>
      some (.inr E_39, σ_9)
      )
    ) (fun E_40 σ_3 =>
    some (.inr E_40, σ_3)
    )
def dm_X9_readNet (P : xP) (a0 : Nat) (v1 : Int32) (σ : xS) : xO Unit :=
  x_chk (σ.K a0 = 9) <|
  x_some (σ.R 300 a0) fun a_2 =>
  x_chk (σ.K a_2 = 10) <|
  x_bind (dm_X10_step P a_2 σ) (fun _ σ_4 =>
    x_chk (σ_4.K a0 = 9) <|
    x_some (σ_4.R 300 a0) fun a_8 =>
    x_chk (σ_4.K a_8 = 10) <|
    x_bind (dm_X10_name P a_8 σ_4) (fun v_9 σ_10 =>
      x_chk (σ_10.K a0 = 9) <|
      x_some (σ_10.R 302 a0) fun a_14 =>
      x_chk (σ_10.K a_14 = 6) <|
      x_bind (dm_X5_canTakeNet P a_14 v_9 σ_10) (fun v_15 σ_16 =>
        if v_15 = 0 then
          dm_X9_readNet_p35 P a0 v1 v_9 (σ_10.R 300 a0) 1 σ_16
        else
          dm_X9_readNet_p35 P a0 v1 v_9 (σ_10.R 300 a0) 0 σ_16
        ) (fun E_20 σ_16 =>
        some (.inr E_20, σ_16)
        )
      ) (fun E_21 σ_10 =>
      some (.inr E_21, σ_10)
      )
    ) (fun E_22 σ_4 =>
    some (.inr E_22, σ_4)
    )
def dm_X9_readInstance_p43 (P : xP) (a0 : Nat) (σ : xS) : xO Unit :=
  x_chk (σ.K a0 = 9) <|
  x_some (σ.R 300 a0) fun a_2 =>
  x_chk (σ.K a_2 = 10) <|
  x_bind (dm_X10_takeSign P a_2 59 σ) (fun _ σ_4 =>
    some (.inl (), σ_4)
    ) (fun E_7 σ_4 =>
    some (.inr E_7, σ_4)
    )
def dm_X9_readInstance_L14 (P : xP) (a0 : Nat) : Nat → Option Nat → Int32 → xS → xO Unit
  | 0, _, _, _ => none
  | n + 1, v1, v2, σ =>
    if 16 < v2 then
      dm_X9_readInstance_p43 P a0 σ
    else
      x_chk (σ.K a0 = 9) <|
      x_some (σ.R 300 a0) fun a_3 =>
      x_chk (σ.K a_3 = 10) <|
      x_bind (dm_X10_isSign P a_3 59 σ) (fun v_4 σ_5 =>
        if v_4 = 0 then
          x_chk (σ_5.K a0 = 9) <|
          x_bind (dm_X8_readOrderedLink P a0 v1 σ_5) (fun _ σ_10 =>
            x_let (v2 + 1) fun v_13 =>
            dm_X9_readInstance_L14 P a0 n v1 v_13 σ_10
            ) (fun E_14 σ_10 =>
            some (.inr E_14, σ_10)
            )
        else
          dm_X9_readInstance_p43 P a0 σ_5
        ) (fun E_15 σ_5 =>
        some (.inr E_15, σ_5)
        )
def dm_X9_readInstance (P : xP) (a0 : Nat) (σ : xS) : xO Unit :=
  x_chk (σ.K a0 = 9) <|
  x_some (σ.R 300 a0) fun a_2 =>
  x_chk (σ.K a_2 = 10) <|
  x_bind (dm_X10_step P a_2 σ) (fun _ σ_4 =>
    x_chk (σ_4.K a0 = 9) <|
    x_bind (dm_X8_startInstance P a0 σ_4) (fun v_7 σ_8 =>
      dm_X9_readInstance_L14 P a0 P.N v_7 0 σ_8
      ) (fun E_11 σ_8 =>
      some (.inr E_11, σ_8)
      )
    ) (fun E_12 σ_4 =>
    some (.inr E_12, σ_4)
    )
def dm_X9_readPiece_p153 (P : xP) (a0 : Nat) (σ : xS) : xO Unit :=
  some (.inl (), σ)
def dm_X9_readPiece (P : xP) (a0 : Nat) (σ : xS) : xO Unit :=
  x_chk (σ.K a0 = 9) <|
  if (σ.R 302 a0) = none then
    x_some (σ.R 300 a0) fun a_86 =>
    x_chk (σ.K a_86 = 10) <|
    x_bind (dm_X10_takeText P a_86 (some (P.ad 17)) σ) (fun _ σ_88 =>
      x_chk (σ_88.K a0 = 9) <|
      x_bind (dm_X8_startModule P a0 σ_88) (fun _ σ_92 =>
        x_chk (σ_92.K a0 = 9) <|
        x_some (σ_92.R 300 a0) fun a_96 =>
        x_chk (σ_92.K a_96 = 10) <|
        x_bind (dm_X10_takeSign P a_96 59 σ_92) (fun _ σ_98 =>
          dm_X9_readPiece_p153 P a0 σ_98
          ) (fun E_101 σ_98 =>
          some (.inr E_101, σ_98)
          )
        ) (fun E_102 σ_92 =>
        some (.inr E_102, σ_92)
        )
      ) (fun E_103 σ_88 =>
      some (.inr E_103, σ_88)
      )
  else
    x_some (σ.R 300 a0) fun a_3 =>
    x_chk (σ.K a_3 = 10) <|
    x_bind (dm_X10_isText P a_3 (some (P.ad 13)) σ) (fun v_4 σ_5 =>
      if v_4 = 0 then
        x_chk (σ_5.K a0 = 9) <|
        x_some (σ_5.R 300 a0) fun a_10 =>
        x_chk (σ_5.K a_10 = 10) <|
        x_bind (dm_X10_isText P a_10 (some (P.ad 21)) σ_5) (fun v_11 σ_12 =>
          if v_11 = 0 then
            x_chk (σ_12.K a0 = 9) <|
            x_some (σ_12.R 300 a0) fun a_17 =>
            x_chk (σ_12.K a_17 = 10) <|
            x_bind (dm_X10_isText P a_17 (some (P.ad 27)) σ_12) (fun v_18 σ_19 =>
              if v_18 = 0 then
                x_chk (σ_19.K a0 = 9) <|
                x_some (σ_19.R 300 a0) fun a_24 =>
                x_chk (σ_19.K a_24 = 10) <|
                x_bind (dm_X10_isText P a_24 (some (P.ad 5)) σ_19) (fun v_25 σ_26 =>
                  if v_25 = 0 then
                    x_chk (σ_26.K a0 = 9) <|
                    x_some (σ_26.R 300 a0) fun a_31 =>
                    x_chk (σ_26.K a_31 = 10) <|
                    x_bind (dm_X10_isText P a_31 (some (P.ad 25)) σ_26) (fun v_32 σ_33 =>
                      if v_32 = 0 then
                        x_chk (σ_33.K a0 = 9) <|
                        x_some (σ_33.R 300 a0) fun a_38 =>
                        x_chk (σ_33.K a_38 = 10) <|
                        x_bind (dm_X10_takeText P a_38 (some (P.ad 9)) σ_33) (fun _ σ_40 =>
                          x_chk (σ_40.K a0 = 9) <|
                          x_some (σ_40.R 300 a0) fun a_44 =>
                          x_chk (σ_40.K a_44 = 10) <|
                          x_bind (dm_X10_takeSign P a_44 59 σ_40) (fun _ σ_46 =>
                            x_chk (σ_46.K a0 = 9) <|
                            x_bind (dm_X8_endModule P a0 σ_46) (fun _ σ_50 =>
                              dm_X9_readPiece_p153 P a0 σ_50
                              ) (fun E_53 σ_50 =>
                              some (.inr E_53, σ_50)
                              )
                            ) (fun E_54 σ_46 =>
                            some (.inr E_54, σ_46)
                            )
                          ) (fun E_55 σ_40 =>
                          some (.inr E_55, σ_40)
                          )
                      else
                        x_chk (σ_33.K a0 = 9) <|
                        x_bind (dm_X9_readInstance P a0 σ_33) (fun _ σ_57 =>
                          dm_X9_readPiece_p153 P a0 σ_57
                          ) (fun E_60 σ_57 =>
                          some (.inr E_60, σ_57)
                          )
                      ) (fun E_61 σ_33 =>
                      some (.inr E_61, σ_33)
                      )
                  else
                    x_chk (σ_26.K a0 = 9) <|
                    x_bind (dm_X8_readAssign P a0 0 σ_26) (fun _ σ_63 =>
                      dm_X9_readPiece_p153 P a0 σ_63
                      ) (fun E_66 σ_63 =>
                      some (.inr E_66, σ_63)
                      )
                  ) (fun E_67 σ_26 =>
                  some (.inr E_67, σ_26)
                  )
              else
                x_chk (σ_19.K a0 = 9) <|
                x_bind (dm_X9_readNet P a0 2 σ_19) (fun _ σ_69 =>
                  dm_X9_readPiece_p153 P a0 σ_69
                  ) (fun E_72 σ_69 =>
                  some (.inr E_72, σ_69)
                  )
              ) (fun E_73 σ_19 =>
              some (.inr E_73, σ_19)
              )
          else
            x_chk (σ_12.K a0 = 9) <|
            x_bind (dm_X9_readNet P a0 1 σ_12) (fun _ σ_75 =>
              dm_X9_readPiece_p153 P a0 σ_75
              ) (fun E_78 σ_75 =>
              some (.inr E_78, σ_75)
              )
          ) (fun E_79 σ_12 =>
          some (.inr E_79, σ_12)
          )
      else
        x_chk (σ_5.K a0 = 9) <|
        x_bind (dm_X9_readNet P a0 0 σ_5) (fun _ σ_81 =>
          dm_X9_readPiece_p153 P a0 σ_81
          ) (fun E_84 σ_81 =>
          some (.inr E_84, σ_81)
          )
      ) (fun E_85 σ_5 =>
      some (.inr E_85, σ_5)
      )
def dm_X0_nameKinds_L2 (P : xP) (a0 : Nat) : Nat → Option Nat → Int32 → xS → xO Unit
  | 0, _, _, _ => none
  | n + 1, v1, v2, σ =>
    x_some v1 fun a_1 =>
    x_chk (σ.K a_1 = 6) <|
    if (σ.I 511 a_1) ≤ v2 then
      some (.inl (), σ)
    else
      x_some (σ.R 510 a_1) fun a_4 =>
      x_chk (σ.K a_4 = 24 ∧ x_in v2 (σ.L a_4)) <|
      x_some (σ.AR a_4 (Int32.toNatClampNeg v2)) fun a_6 =>
      x_chk (σ.K a_6 = 2) <|
      x_chk (σ.K a0 = 1) <|
      x_bind (dm_X0_moduleNamed P a0 (σ.J 100 a_6) σ) (fun v_8 σ_9 =>
        x_chk ((σ_9.K a_6 = 2) ∧ P.base ≤ a_6) <|
        x_let (σ_9.setR 106 a_6 v_8) fun σ_13 =>
        x_let (v2 + 1) fun v_14 =>
        dm_X0_nameKinds_L2 P a0 n v1 v_14 σ_13
        ) (fun E_15 σ_9 =>
        some (.inr E_15, σ_9)
        )
def dm_X0_nameKinds (P : xP) (a0 : Nat) (v1 : Option Nat) (σ : xS) : xO Unit :=
  dm_X0_nameKinds_L2 P a0 P.N v1 0 σ
def dm_X5_portAt_p18 (P : xP) (a0 : Nat) (s0 : Option Nat) (σ : xS) : xO (Option Nat) :=
  some (.inl s0, σ)
def dm_X5_portAt (P : xP) (a0 : Nat) (v1 : Int32) (σ : xS) : xO (Option Nat) :=
  x_chk (σ.K a0 = 6) <|
  if (σ.I 505 a0) ≤ v1 then
    dm_X5_portAt_p18 P a0 none σ
  else
    x_some (σ.R 503 a0) fun a_3 =>
    x_chk (σ.K a_3 = 26 ∧ x_in v1 (σ.L a_3)) <|
    dm_X5_portAt_p18 P a0 (σ.AR a_3 (Int32.toNatClampNeg v1)) σ
def dm_X1_misfit_p129 (P : xP) (k39 : Int32 → xS → xO Int32) (a0 : Nat) (v1 : Int32) (σ : xS) : xO Int32 :=
  x_let (v1 + 1) fun v_1 =>
  k39 v_1 σ
def dm_X1_misfit_p90 (P : xP) (k39 : Int32 → xS → xO Int32) (a0 : Nat) (v1 : Int32) (v2 : Option Nat) (s0 : Option Nat) (σ : xS) : xO Int32 :=
  if s0 = none then
    x_some v2 fun a_17 =>
    x_chk (σ.K a_17 = 3) <|
    some (.inl (σ.I 201 a_17), σ)
  else
    x_some v2 fun a_2 =>
    x_chk (σ.K a_2 = 3) <|
    if (σ.R 202 a_2) = none then
      dm_X1_misfit_p129 P k39 a0 v1 σ
    else
      x_some (σ.R 202 a_2) fun a_5 =>
      x_chk (σ.K a_5 = 7) <|
      x_bind (dm_X6_width P a_5 σ) (fun v_6 σ_7 =>
        x_some s0 fun a_10 =>
        x_chk (σ_7.K a_10 = 5) <|
        if v_6 = (σ_7.I 402 a_10) then
          dm_X1_misfit_p129 P k39 a0 v1 σ_7
        else
          x_chk (σ_7.K a_2 = 3) <|
          x_some (σ_7.R 202 a_2) fun a_14 =>
          x_chk (σ_7.K a_14 = 7) <|
          some (.inl (σ_7.I 601 a_14), σ_7)
        ) (fun E_16 σ_7 =>
        some (.inr E_16, σ_7)
        )
def dm_X1_misfit_L39 (P : xP) (a0 : Nat) : Nat → Int32 → xS → xO Int32
  | 0, _, _ => none
  | n + 1, v1, σ =>
    x_chk (σ.K a0 = 2) <|
    if (σ.I 105 a0) ≤ v1 then
      some (.inl 1001, σ)
    else
      x_some (σ.R 104 a0) fun a_3 =>
      x_chk (σ.K a_3 = 25 ∧ x_in v1 (σ.L a_3)) <|
      x_let ((σ.AR a_3 (Int32.toNatClampNeg v1))) fun v_5 =>
      if (σ.I 103 a0) = 0 then
        x_some (σ.R 106 a0) fun a_7 =>
        x_chk (σ.K a_7 = 6) <|
        x_bind (dm_X5_portAt P a_7 v1 σ) (fun v_8 σ_9 =>
          dm_X1_misfit_p90 P (dm_X1_misfit_L39 P a0 n) a0 v1 v_5 v_8 σ_9
          ) (fun E_12 σ_9 =>
          some (.inr E_12, σ_9)
          )
      else
        x_some (σ.R 106 a0) fun a_13 =>
        x_chk (σ.K a_13 = 6) <|
        x_some v_5 fun a_15 =>
        x_chk (σ.K a_15 = 3) <|
        x_bind (dm_X5_netAmong P a_13 (σ.I 505 a_13) (σ.J 200 a_15) σ) (fun v_17 σ_18 =>
          dm_X1_misfit_p90 P (dm_X1_misfit_L39 P a0 n) a0 v1 v_5 v_17 σ_18
          ) (fun E_20 σ_18 =>
          some (.inr E_20, σ_18)
          )
def dm_X1_misfit_p37 (P : xP) (a0 : Nat) (σ : xS) : xO Int32 :=
  dm_X1_misfit_L39 P a0 P.N 0 σ
def dm_X1_misfit (P : xP) (a0 : Nat) (σ : xS) : xO Int32 :=
  x_chk (σ.K a0 = 2) <|
  if (σ.R 106 a0) = none then
    some (.inl 1001, σ)
  else
    if (σ.I 103 a0) = 0 then
      x_some (σ.R 106 a0) fun a_4 =>
      x_chk (σ.K a_4 = 6) <|
      if (σ.I 505 a_4) ≤ (σ.I 105 a0) then
        dm_X1_misfit_p37 P a0 σ
      else
        some (.inl (σ.I 102 a0), σ)
    else
      dm_X1_misfit_p37 P a0 σ
def dm_X5_firstMisfit_p49 (P : xP) (k6 : Int32 → Int32 → xS → xO Int32) (a0 : Nat) (v1 : Int32) (v2 : Int32) (σ : xS) : xO Int32 :=
  x_let (v2 + 1) fun v_1 =>
  k6 v1 v_1 σ
def dm_X5_firstMisfit_L57 (P : xP) (a0 : Nat) : Nat → Int32 → Int32 → xS → xO Int32
  | 0, _, _, _ => none
  | n + 1, v1, v2, σ =>
    x_chk (σ.K a0 = 6) <|
    if (σ.I 511 a0) ≤ v2 then
      some (.inl v1, σ)
    else
      x_some (σ.R 510 a0) fun a_3 =>
      x_chk (σ.K a_3 = 24 ∧ x_in v2 (σ.L a_3)) <|
      x_some (σ.AR a_3 (Int32.toNatClampNeg v2)) fun a_5 =>
      x_chk (σ.K a_5 = 2) <|
      x_bind (dm_X1_misfit P a_5 σ) (fun v_6 σ_7 =>
        x_let ((if v_6 < v1 then v_6 else v1)) fun v_10 =>
        x_let (v2 + 1) fun v_11 =>
        dm_X5_firstMisfit_L57 P a0 n v_10 v_11 σ_7
        ) (fun E_12 σ_7 =>
        some (.inr E_12, σ_7)
        )
def dm_X5_firstMisfit_L6 (P : xP) (a0 : Nat) : Nat → Int32 → Int32 → xS → xO Int32
  | 0, _, _, _ => none
  | n + 1, v1, v2, σ =>
    x_chk (σ.K a0 = 6) <|
    if (σ.I 509 a0) ≤ v2 then
      dm_X5_firstMisfit_L57 P a0 P.N v1 0 σ
    else
      x_some (σ.R 507 a0) fun a_3 =>
      x_chk (σ.K a_3 = 28 ∧ x_in v2 (σ.L a_3)) <|
      x_some (σ.AR a_3 (Int32.toNatClampNeg v2)) fun a_5 =>
      x_chk (σ.K a_5 = 7) <|
      x_bind (dm_X6_width P a_5 σ) (fun v_6 σ_7 =>
        x_chk (σ_7.K a0 = 6) <|
        x_some (σ_7.R 508 a0) fun a_11 =>
        x_chk (σ_7.K a_11 = 28 ∧ x_in v2 (σ_7.L a_11)) <|
        x_some (σ_7.AR a_11 (Int32.toNatClampNeg v2)) fun a_13 =>
        x_chk (σ_7.K a_13 = 7) <|
        x_bind (dm_X6_width P a_13 σ_7) (fun v_14 σ_15 =>
          if v_6 = v_14 then
            dm_X5_firstMisfit_p49 P (dm_X5_firstMisfit_L6 P a0 n) a0 v1 v2 σ_15
          else
            x_chk (σ_15.K a0 = 6) <|
            x_some (σ_15.R 508 a0) fun a_20 =>
            x_chk (σ_15.K a_20 = 28 ∧ x_in v2 (σ_15.L a_20)) <|
            x_some (σ_15.AR a_20 (Int32.toNatClampNeg v2)) fun a_22 =>
            x_chk (σ_15.K a_22 = 7) <|
            x_let ((if (σ_15.I 601 a_22) < v1 then (σ_15.I 601 a_22) else v1)) fun v_24 =>
            dm_X5_firstMisfit_p49 P (dm_X5_firstMisfit_L6 P a0 n) a0 v_24 v2 σ_15
          ) (fun E_25 σ_15 =>
          some (.inr E_25, σ_15)
          )
        ) (fun E_26 σ_7 =>
        some (.inr E_26, σ_7)
        )
def dm_X5_firstMisfit (P : xP) (a0 : Nat) (σ : xS) : xO Int32 :=
  dm_X5_firstMisfit_L6 P a0 P.N 1001 0 σ
def dm_X5_kindsWithin_p43 (P : xP) (k4 : Int32 → Int32 → xS → xO Int32) (a0 : Nat) (v2 : Int32) (s0 : Int32) (s1 : Int32) (σ : xS) : xO Int32 :=
  x_let ((s0 ||| s1)) fun v_1 =>
  x_let (v2 + 1) fun v_2 =>
  k4 v_1 v_2 σ
def dm_X5_kindsWithin_L4 (P : xP) (a0 : Nat) : Nat → Int32 → Int32 → xS → xO Int32
  | 0, _, _, _ => none
  | n + 1, v1, v2, σ =>
    x_chk (σ.K a0 = 6) <|
    if (σ.I 511 a0) ≤ v2 then
      some (.inl v1, σ)
    else
      x_some (σ.R 510 a0) fun a_3 =>
      x_chk (σ.K a_3 = 24 ∧ x_in v2 (σ.L a_3)) <|
      x_some (σ.AR a_3 (Int32.toNatClampNeg v2)) fun a_5 =>
      x_chk (σ.K a_5 = 2) <|
      if (σ.R 106 a_5) = none then
        dm_X5_kindsWithin_p43 P (dm_X5_kindsWithin_L4 P a0 n) a0 v2 v1 0 σ
      else
        x_some (σ.R 106 a_5) fun a_8 =>
        x_chk (σ.K a_8 = 6) <|
        dm_X5_kindsWithin_p43 P (dm_X5_kindsWithin_L4 P a0 n) a0 v2 v1 (1 <<< ((σ.I 500 a_8) &&& 31)) σ
def dm_X5_kindsWithin (P : xP) (a0 : Nat) (σ : xS) : xO Int32 :=
  dm_X5_kindsWithin_L4 P a0 P.N 0 0 σ
def dm_X0_firstInRing_p73 (P : xP) (k45 : Option Nat → Int32 → Int32 → xS → xO Int32) (k35 : Option Nat → Int32 → xS → xO Int32) (a0 : Nat) (v1 : Option Nat) (v2 : Int32) (v3 : Int32) (σ : xS) : xO Int32 :=
  x_let (v3 + 1) fun v_1 =>
  k45 v1 v2 v_1 σ
def dm_X0_firstInRing_L45 (P : xP) (k35 : Option Nat → Int32 → xS → xO Int32) (a0 : Nat) : Nat → Option Nat → Int32 → Int32 → xS → xO Int32
  | 0, _, _, _, _ => none
  | n + 1, v1, v2, v3, σ =>
    x_chk (σ.K a0 = 1) <|
    if (σ.I 1 a0) ≤ v3 then
      x_let (v2 + 1) fun v_3 =>
      k35 v1 v_3 σ
    else
      x_some v1 fun a_4 =>
      x_chk (σ.K a_4 = 21 ∧ x_in v3 (σ.L a_4)) <|
      if (((σ.AI a_4 (Int32.toNatClampNeg v3)) >>> (v2 &&& 31)) &&& 1) = 1 then
        x_chk (σ.K a_4 = 21 ∧ x_in v2 (σ.L a_4)) <|
        x_chk (σ.K a_4 = 21 ∧ x_in v3 (σ.L a_4) ∧ P.base ≤ a_4) <|
        x_let (σ.setAI a_4 (Int32.toNatClampNeg v3) ((σ.AI a_4 (Int32.toNatClampNeg v3)) ||| (σ.AI a_4 (Int32.toNatClampNeg v2)))) fun σ_9 =>
        dm_X0_firstInRing_p73 P (dm_X0_firstInRing_L45 P k35 a0 n) k35 a0 v1 v2 v3 σ_9
      else
        dm_X0_firstInRing_p73 P (dm_X0_firstInRing_L45 P k35 a0 n) k35 a0 v1 v2 v3 σ
def dm_X0_firstInRing_L87 (P : xP) (a0 : Nat) : Nat → Option Nat → Int32 → xS → xO Int32
  | 0, _, _, _ => none
  | n + 1, v1, v2, σ =>
    x_chk (σ.K a0 = 1) <|
    if (σ.I 1 a0) ≤ v2 then
      some (.inl 1001, σ)
    else
      x_some v1 fun a_3 =>
      x_chk (σ.K a_3 = 21 ∧ x_in v2 (σ.L a_3)) <|
      if (((σ.AI a_3 (Int32.toNatClampNeg v2)) >>> (v2 &&& 31)) &&& 1) = 1 then
        x_some (σ.R 0 a0) fun a_7 =>
        x_chk (σ.K a_7 = 27 ∧ x_in v2 (σ.L a_7)) <|
        x_some (σ.AR a_7 (Int32.toNatClampNeg v2)) fun a_9 =>
        x_chk (σ.K a_9 = 6) <|
        some (.inl (σ.I 502 a_9), σ)
      else
        x_let (v2 + 1) fun v_6 =>
        dm_X0_firstInRing_L87 P a0 n v1 v_6 σ
def dm_X0_firstInRing_L35 (P : xP) (a0 : Nat) : Nat → Option Nat → Int32 → xS → xO Int32
  | 0, _, _, _ => none
  | n + 1, v1, v2, σ =>
    x_chk (σ.K a0 = 1) <|
    if (σ.I 1 a0) ≤ v2 then
      dm_X0_firstInRing_L87 P a0 P.N v1 0 σ
    else
      dm_X0_firstInRing_L45 P (dm_X0_firstInRing_L35 P a0 n) a0 P.N v1 v2 0 σ
def dm_X0_firstInRing_L7 (P : xP) (a0 : Nat) : Nat → Option Nat → Int32 → xS → xO Int32
  | 0, _, _, _ => none
  | n + 1, v1, v2, σ =>
    x_chk (σ.K a0 = 1) <|
    if (σ.I 1 a0) ≤ v2 then
      dm_X0_firstInRing_L35 P a0 P.N v1 0 σ
    else
      x_some (σ.R 0 a0) fun a_3 =>
      x_chk (σ.K a_3 = 27 ∧ x_in v2 (σ.L a_3)) <|
      x_some (σ.AR a_3 (Int32.toNatClampNeg v2)) fun a_5 =>
      x_chk (σ.K a_5 = 6) <|
      x_bind (dm_X5_kindsWithin P a_5 σ) (fun v_6 σ_7 =>
        x_some v1 fun a_10 =>
        x_chk (σ_7.K a_10 = 21 ∧ x_in v2 (σ_7.L a_10) ∧ P.base ≤ a_10) <|
        x_let (σ_7.setAI a_10 (Int32.toNatClampNeg v2) v_6) fun σ_12 =>
        x_let (v2 + 1) fun v_13 =>
        dm_X0_firstInRing_L7 P a0 n v1 v_13 σ_12
        ) (fun E_14 σ_7 =>
        some (.inr E_14, σ_7)
        )
def dm_X0_firstInRing (P : xP) (a0 : Nat) (σ : xS) : xO Int32 :=
  x_chk (¬ (8 : Int32) < 0 ∧ (Int32.toNatClampNeg 8) ≤ 60000000 ∧ σ.sz + 1 ≤ P.lim ∧ σ.su + (Int32.toNatClampNeg 8) ≤ P.slim) <|
  x_let (σ.newA 21 (Int32.toNatClampNeg 8)) fun σ_2 =>
  dm_X0_firstInRing_L7 P a0 P.N (some σ.sz) 0 σ_2
def dm_X5_belowByKinds_p43 (P : xP) (k4 : Int32 → Int32 → xS → xO Int32) (a0 : Nat) (v2 : Int32) (s0 : Int32) (s1 : Int32) (σ : xS) : xO Int32 :=
  x_let ((if s0 < s1 then s1 else s0)) fun v_1 =>
  x_let (v2 + 1) fun v_2 =>
  k4 v_1 v_2 σ
def dm_X5_belowByKinds_L4 (P : xP) (a0 : Nat) : Nat → Int32 → Int32 → xS → xO Int32
  | 0, _, _, _ => none
  | n + 1, v1, v2, σ =>
    x_chk (σ.K a0 = 6) <|
    if (σ.I 511 a0) ≤ v2 then
      some (.inl v1, σ)
    else
      x_some (σ.R 510 a0) fun a_3 =>
      x_chk (σ.K a_3 = 24 ∧ x_in v2 (σ.L a_3)) <|
      x_some (σ.AR a_3 (Int32.toNatClampNeg v2)) fun a_5 =>
      x_chk (σ.K a_5 = 2) <|
      if (σ.R 106 a_5) = none then
        dm_X5_belowByKinds_p43 P (dm_X5_belowByKinds_L4 P a0 n) a0 v2 v1 0 σ
      else
        x_some (σ.R 106 a_5) fun a_8 =>
        x_chk (σ.K a_8 = 6) <|
        dm_X5_belowByKinds_p43 P (dm_X5_belowByKinds_L4 P a0 n) a0 v2 v1 ((σ.I 512 a_8) + 1) σ
def dm_X5_belowByKinds (P : xP) (a0 : Nat) (σ : xS) : xO Int32 :=
  dm_X5_belowByKinds_L4 P a0 P.N 0 0 σ
def dm_X0_measureBelow_L12 (P : xP) (k2 : Int32 → xS → xO Unit) (a0 : Nat) : Nat → Int32 → Int32 → xS → xO Unit
  | 0, _, _, _ => none
  | n + 1, v1, v2, σ =>
    x_chk (σ.K a0 = 1) <|
    if (σ.I 1 a0) ≤ v2 then
      x_let (v1 + 1) fun v_3 =>
      k2 v_3 σ
    else
      x_some (σ.R 0 a0) fun a_4 =>
      x_chk (σ.K a_4 = 27 ∧ x_in v2 (σ.L a_4)) <|
      x_some (σ.AR a_4 (Int32.toNatClampNeg v2)) fun a_6 =>
      x_chk (σ.K a_6 = 6) <|
      x_bind (dm_X5_belowByKinds P a_6 σ) (fun v_7 σ_8 =>
        x_chk ((σ_8.K a_6 = 6) ∧ P.base ≤ a_6) <|
        x_let (σ_8.setI 512 a_6 v_7) fun σ_12 =>
        x_let (v2 + 1) fun v_13 =>
        dm_X0_measureBelow_L12 P k2 a0 n v1 v_13 σ_12
        ) (fun E_14 σ_8 =>
        some (.inr E_14, σ_8)
        )
def dm_X0_measureBelow_L2 (P : xP) (a0 : Nat) : Nat → Int32 → xS → xO Unit
  | 0, _, _ => none
  | n + 1, v1, σ =>
    x_chk (σ.K a0 = 1) <|
    if (σ.I 1 a0) ≤ v1 then
      some (.inl (), σ)
    else
      dm_X0_measureBelow_L12 P (dm_X0_measureBelow_L2 P a0 n) a0 P.N v1 0 σ
def dm_X0_measureBelow (P : xP) (a0 : Nat) (σ : xS) : xO Unit :=
  dm_X0_measureBelow_L2 P a0 P.N 0 σ
def dm_X0_faultAsWhole_p83 (P : xP) (a0 : Nat) (v1 : Int32) (σ : xS) : xO Int32 :=
  some (.inl v1, σ)
def dm_X0_faultAsWhole_p72 (P : xP) (a0 : Nat) (v1 : Int32) (σ : xS) : xO Int32 :=
  if v1 = 1001 then
    x_chk (σ.K a0 = 1) <|
    x_bind (dm_X0_measureBelow P a0 σ) (fun _ σ_3 =>
      dm_X0_faultAsWhole_p83 P a0 v1 σ_3
      ) (fun E_6 σ_3 =>
      some (.inr E_6, σ_3)
      )
  else
    dm_X0_faultAsWhole_p83 P a0 v1 σ
def dm_X0_faultAsWhole_L32 (P : xP) (a0 : Nat) : Nat → Int32 → Int32 → xS → xO Int32
  | 0, _, _, _ => none
  | n + 1, v1, v2, σ =>
    x_chk (σ.K a0 = 1) <|
    if (σ.I 1 a0) ≤ v2 then
      if v1 = 1001 then
        x_bind (dm_X0_firstInRing P a0 σ) (fun v_4 σ_5 =>
          dm_X0_faultAsWhole_p72 P a0 v_4 σ_5
          ) (fun E_7 σ_5 =>
          some (.inr E_7, σ_5)
          )
      else
        dm_X0_faultAsWhole_p72 P a0 v1 σ
    else
      x_some (σ.R 0 a0) fun a_8 =>
      x_chk (σ.K a_8 = 27 ∧ x_in v2 (σ.L a_8)) <|
      x_some (σ.AR a_8 (Int32.toNatClampNeg v2)) fun a_10 =>
      x_chk (σ.K a_10 = 6) <|
      x_bind (dm_X5_firstMisfit P a_10 σ) (fun v_11 σ_12 =>
        x_let ((if v_11 < v1 then v_11 else v1)) fun v_15 =>
        x_let (v2 + 1) fun v_16 =>
        dm_X0_faultAsWhole_L32 P a0 n v_15 v_16 σ_12
        ) (fun E_17 σ_12 =>
        some (.inr E_17, σ_12)
        )
def dm_X0_faultAsWhole_L2 (P : xP) (a0 : Nat) : Nat → Int32 → xS → xO Int32
  | 0, _, _ => none
  | n + 1, v1, σ =>
    x_chk (σ.K a0 = 1) <|
    if (σ.I 1 a0) ≤ v1 then
      dm_X0_faultAsWhole_L32 P a0 P.N 1001 0 σ
    else
      x_some (σ.R 0 a0) fun a_3 =>
      x_chk (σ.K a_3 = 27 ∧ x_in v1 (σ.L a_3)) <|
      x_bind (dm_X0_nameKinds P a0 (σ.AR a_3 (Int32.toNatClampNeg v1)) σ) (fun _ σ_6 =>
        x_let (v1 + 1) fun v_8 =>
        dm_X0_faultAsWhole_L2 P a0 n v_8 σ_6
        ) (fun E_9 σ_6 =>
        some (.inr E_9, σ_6)
        )
def dm_X0_faultAsWhole (P : xP) (a0 : Nat) (σ : xS) : xO Int32 :=
  dm_X0_faultAsWhole_L2 P a0 P.N 0 σ
def dm_X8_faultOf_p36 (P : xP) (k12 : Option Nat → Int32 → xS → xO Int32) (a0 : Nat) (v1 : Option Nat) (v2 : Int32) (σ : xS) : xO Int32 :=
  x_chk (σ.K a0 = 4 ∨ σ.K a0 = 9) <|
  x_bind (if σ.K a0 = 4 then dm_X3_readPiece P a0 σ else dm_X9_readPiece P a0 σ) (fun _ σ_2 =>
    x_let (v2 + 1) fun v_5 =>
    k12 v1 v_5 σ_2
    ) (fun E_6 σ_2 =>
    x_chk (E_6 = "java/lang/IllegalStateException") <|
    x_chk (σ_2.K a0 = 4 ∨ σ_2.K a0 = 9) <|
    x_some (σ_2.R 300 a0) fun a_9 =>
    x_chk (σ_2.K a_9 = 10) <|
    x_bind (dm_X10_place P a_9 σ_2) (fun v_10 σ_11 =>
      some (.inl v_10, σ_11)
      ) (fun E_14 σ_11 =>
      some (.inr E_14, σ_11)
      )
    )
def dm_X8_faultOf_p46 (P : xP) (a0 : Nat) (v1 : Option Nat) (σ : xS) : xO Int32 :=
  x_some v1 fun a_1 =>
  x_chk (σ.K a_1 = 1) <|
  x_bind (dm_X0_faultAsWhole P a_1 σ) (fun v_2 σ_3 =>
    some (.inl v_2, σ_3)
    ) (fun E_6 σ_3 =>
    some (.inr E_6, σ_3)
    )
def dm_X8_faultOf_L12 (P : xP) (a0 : Nat) : Nat → Option Nat → Int32 → xS → xO Int32
  | 0, _, _, _ => none
  | n + 1, v1, v2, σ =>
    if 1000 < v2 then
      dm_X8_faultOf_p46 P a0 v1 σ
    else
      x_chk (σ.K a0 = 4 ∨ σ.K a0 = 9) <|
      if (σ.R 302 a0) = none then
        x_some (σ.R 300 a0) fun a_4 =>
        x_chk (σ.K a_4 = 10) <|
        x_bind (dm_X10_isAtEnd P a_4 σ) (fun v_5 σ_6 =>
          if v_5 = 0 then
            dm_X8_faultOf_p36 P (dm_X8_faultOf_L12 P a0 n) a0 v1 v2 σ_6
          else
            dm_X8_faultOf_p46 P a0 v1 σ_6
          ) (fun E_10 σ_6 =>
          x_chk (E_10 = "java/lang/IllegalStateException") <|
          x_chk (σ_6.K a0 = 4 ∨ σ_6.K a0 = 9) <|
          x_some (σ_6.R 300 a0) fun a_13 =>
          x_chk (σ_6.K a_13 = 10) <|
          x_bind (dm_X10_place P a_13 σ_6) (fun v_14 σ_15 =>
            some (.inl v_14, σ_15)
            ) (fun E_18 σ_15 =>
            some (.inr E_18, σ_15)
            )
          )
      else
        dm_X8_faultOf_p36 P (dm_X8_faultOf_L12 P a0 n) a0 v1 v2 σ
def dm_X8_faultOf (P : xP) (a0 : Nat) (v1 : Option Nat) (σ : xS) : xO Int32 :=
  x_chk ((σ.K a0 = 4 ∨ σ.K a0 = 9) ∧ P.base ≤ a0) <|
  x_let (σ.setR 301 a0 v1) fun σ_2 =>
  x_chk ((σ_2.K a0 = 4 ∨ σ_2.K a0 = 9) ∧ P.base ≤ a0) <|
  x_let (σ_2.setR 302 a0 none) fun σ_4 =>
  dm_X8_faultOf_L12 P a0 P.N v1 0 σ_4
def dm_X10_clear (P : xP) (a0 : Nat) (σ : xS) : xO Unit :=
  x_chk ((σ.K a0 = 10) ∧ P.base ≤ a0) <|
  x_let (σ.setI 901 a0 0) fun σ_2 =>
  some (.inl (), σ_2)
def dm_X11_read_p40 (P : xP) (a0 : Nat) (v2 : Option Nat) (s0 : Option Nat) (σ : xS) : xO Int32 :=
  x_chk (σ.K a0 = 11) <|
  x_some (σ.R 1000 a0) fun a_2 =>
  x_chk (σ.K a_2 = 10) <|
  x_bind (dm_X10_scan P a_2 σ) (fun _ σ_4 =>
    x_some s0 fun a_7 =>
    x_chk (σ_4.K a_7 = 4 ∨ σ_4.K a_7 = 9) <|
    x_bind (dm_X8_faultOf P a_7 v2 σ_4) (fun v_8 σ_9 =>
      x_chk (σ_9.K a0 = 11) <|
      x_some (σ_9.R 1000 a0) fun a_13 =>
      x_chk (σ_9.K a_13 = 10) <|
      x_bind (dm_X10_clear P a_13 σ_9) (fun _ σ_15 =>
        if v_8 = 1001 then
          x_chk ((σ_15.K a0 = 11) ∧ P.base ≤ a0) <|
          x_let (σ_15.setR 1004 a0 v2) fun σ_20 =>
          x_chk (σ_20.K a0 = 11) <|
          x_some (σ_20.R 1004 a0) fun a_22 =>
          x_chk (σ_20.K a_22 = 1) <|
          some (.inl (σ_20.I 1 a_22), σ_20)
        else
          some (.inl ((-1) - v_8), σ_15)
        ) (fun E_24 σ_15 =>
        some (.inr E_24, σ_15)
        )
      ) (fun E_25 σ_9 =>
      some (.inr E_25, σ_9)
      )
    ) (fun E_26 σ_4 =>
    some (.inr E_26, σ_4)
    )
def dm_X11_read_p14 (P : xP) (a0 : Nat) (v1 : Int32) (s0 : Int32) (σ : xS) : xO Int32 :=
  x_bind (dm_X11_refuseUnless P s0 σ) (fun _ σ_2 =>
    x_chk (σ_2.sz + 1 ≤ P.lim ∧ σ_2.su + 2 ≤ P.slim) <|
    x_let (σ_2.newO 1 2) fun σ_5 =>
    x_bind (dm_X0_init P σ_2.sz σ_5) (fun _ σ_7 =>
      if v1 = 0 then
        x_chk (σ_7.K a0 = 11) <|
        dm_X11_read_p40 P a0 (some σ_2.sz) (σ_7.R 1001 a0) σ_7
      else
        x_chk (σ_7.K a0 = 11) <|
        dm_X11_read_p40 P a0 (some σ_2.sz) (σ_7.R 1002 a0) σ_7
      ) (fun E_12 σ_7 =>
      some (.inr E_12, σ_7)
      )
    ) (fun E_13 σ_2 =>
    some (.inr E_13, σ_2)
    )
def dm_X11_read_p9 (P : xP) (a0 : Nat) (v1 : Int32) (σ : xS) : xO Int32 :=
  dm_X11_read_p14 P a0 v1 1 σ
def dm_X11_read (P : xP) (a0 : Nat) (v1 : Int32) (σ : xS) : xO Int32 :=
  if v1 = 0 then
    dm_X11_read_p9 P a0 v1 σ
  else
    if v1 = 1 then
      dm_X11_read_p9 P a0 v1 σ
    else
      dm_X11_read_p14 P a0 v1 0 σ
def dm_L_read (P : xP) (v0 : Option Nat) (v1 : Int32) (v2 : Option Nat) (σ : xS) : xO Int32 :=
  x_some v0 fun a_1 =>
  x_chk (σ.K a_1 = 11) <|
  x_bind (dm_X11_read P a_1 v1 σ) (fun v_2 σ_3 =>
    x_some v2 fun a_6 =>
    x_chk (σ_3.K a_6 = 42 ∧ x_in 0 (σ_3.L a_6) ∧ P.base ≤ a_6) <|
    x_let (σ_3.setAJ a_6 (Int32.toNatClampNeg 0) (Int32.toInt64 v_2)) fun σ_8 =>
    some (.inl 0, σ_8)
    ) (fun E_9 σ_3 =>
    x_chk (E_9 = "java/lang/IndexOutOfBoundsException") <|
    some (.inl 1, σ_3)
    )
def dm_X12_ok_p13 (P : xP) (a0 : Nat) (s0 : Int32) (σ : xS) : xO Int32 :=
  x_chk (x_bool s0) <|
  some (.inl s0, σ)
def dm_X12_ok (P : xP) (a0 : Nat) (σ : xS) : xO Int32 :=
  x_chk (σ.K a0 = 12) <|
  if (σ.I 1139 a0) = (-1) then
    dm_X12_ok_p13 P a0 1 σ
  else
    dm_X12_ok_p13 P a0 0 σ
def dm_X12_sign_p32 (P : xP) (a0 : Nat) (s0 : Int32) (σ : xS) : xO Int32 :=
  some (.inl s0, σ)
def dm_X12_sign (P : xP) (a0 : Nat) (v1 : Int32) (σ : xS) : xO Int32 :=
  x_chk (σ.K a0 = 12) <|
  x_some (σ.R 1105 a0) fun a_2 =>
  x_chk (σ.K a_2 = 31 ∧ x_in (σ.I 1140 a0) (σ.L a_2)) <|
  if (σ.AI a_2 (Int32.toNatClampNeg (σ.I 1140 a0))) ≤ v1 then
    dm_X12_sign_p32 P a0 0 σ
  else
    x_some (σ.R 1104 a0) fun a_5 =>
    x_chk (σ.K a_5 = 31 ∧ x_in ((1000 * (σ.I 1140 a0)) + v1) (σ.L a_5)) <|
    dm_X12_sign_p32 P a0 (σ.AI a_5 (Int32.toNatClampNeg ((1000 * (σ.I 1140 a0)) + v1))) σ
def dm_X12_isLetter_p35 (P : xP) (s0 : Int32) (σ : xS) : xO Int32 :=
  x_chk (x_bool s0) <|
  some (.inl s0, σ)
def dm_X12_isLetter_p30 (P : xP) (σ : xS) : xO Int32 :=
  dm_X12_isLetter_p35 P 1 σ
def dm_X12_isLetter_p24 (P : xP) (v0 : Int32) (σ : xS) : xO Int32 :=
  if v0 = 95 then
    dm_X12_isLetter_p30 P σ
  else
    dm_X12_isLetter_p35 P 0 σ
def dm_X12_isLetter_p12 (P : xP) (v0 : Int32) (σ : xS) : xO Int32 :=
  if v0 < 65 then
    dm_X12_isLetter_p24 P v0 σ
  else
    if v0 ≤ 90 then
      dm_X12_isLetter_p30 P σ
    else
      dm_X12_isLetter_p24 P v0 σ
def dm_X12_isLetter (P : xP) (v0 : Int32) (σ : xS) : xO Int32 :=
  if v0 < 97 then
    dm_X12_isLetter_p12 P v0 σ
  else
    if v0 ≤ 122 then
      dm_X12_isLetter_p30 P σ
    else
      dm_X12_isLetter_p12 P v0 σ
def dm_X12_isDigit_p17 (P : xP) (s0 : Int32) (σ : xS) : xO Int32 :=
  x_chk (x_bool s0) <|
  some (.inl s0, σ)
def dm_X12_isDigit_p16 (P : xP) (σ : xS) : xO Int32 :=
  dm_X12_isDigit_p17 P 0 σ
def dm_X12_isDigit (P : xP) (v0 : Int32) (σ : xS) : xO Int32 :=
  if v0 < 48 then
    dm_X12_isDigit_p16 P σ
  else
    if 57 < v0 then
      dm_X12_isDigit_p16 P σ
    else
      dm_X12_isDigit_p17 P 1 σ
def dm_X12_fail_p17 (P : xP) (a0 : Nat) (s0 : Option Nat) (s1 : Int32) (σ : xS) : xO Unit :=
  x_some s0 fun a_1 =>
  x_chk ((σ.K a_1 = 12) ∧ P.base ≤ a_1) <|
  x_let (σ.setI 1139 a_1 s1) fun σ_3 =>
  some (.inl (), σ_3)
def dm_X12_fail (P : xP) (a0 : Nat) (v1 : Int32) (σ : xS) : xO Unit :=
  x_chk (σ.K a0 = 12) <|
  if (σ.I 1139 a0) = (-1) then
    dm_X12_fail_p17 P a0 (some a0) v1 σ
  else
    dm_X12_fail_p17 P a0 (some a0) (σ.I 1139 a0) σ
def dm_X12_next_L58 (P : xP) (k10 : Int32 → xS → xO Unit) (a0 : Nat) : Nat → Int32 → xS → xO Unit
  | 0, _, _ => none
  | n + 1, v1, σ =>
    x_chk (σ.K a0 = 12) <|
    x_some (σ.R 1105 a0) fun a_2 =>
    x_chk (σ.K a_2 = 31 ∧ x_in (σ.I 1140 a0) (σ.L a_2)) <|
    if (σ.AI a_2 (Int32.toNatClampNeg (σ.I 1140 a0))) ≤ (σ.I 1134 a0) then
      k10 v1 σ
    else
      x_bind (dm_X12_sign P a0 (σ.I 1134 a0) σ) (fun v_5 σ_6 =>
        if v_5 = 10 then
          k10 v1 σ_6
        else
          x_chk (σ_6.K a0 = 12) <|
          x_chk ((σ_6.K a0 = 12) ∧ P.base ≤ a0) <|
          x_let (σ_6.setI 1134 a0 ((σ_6.I 1134 a0) + 1)) fun σ_11 =>
          dm_X12_next_L58 P k10 a0 n v1 σ_11
        ) (fun E_12 σ_6 =>
        some (.inr E_12, σ_6)
        )
def dm_X12_next_p126 (P : xP) (k10 : Int32 → xS → xO Unit) (a0 : Nat) (v1 : Int32) (σ : xS) : xO Unit :=
  x_chk (σ.K a0 = 12) <|
  x_chk ((σ.K a0 = 12) ∧ P.base ≤ a0) <|
  x_let (σ.setI 1134 a0 ((σ.I 1134 a0) + 1)) fun σ_3 =>
  k10 v1 σ_3
def dm_X12_next_p100 (P : xP) (k10 : Int32 → xS → xO Unit) (a0 : Nat) (v1 : Int32) (σ : xS) : xO Unit :=
  x_chk (σ.K a0 = 12) <|
  x_bind (dm_X12_sign P a0 (σ.I 1134 a0) σ) (fun v_2 σ_3 =>
    if v_2 = 32 then
      dm_X12_next_p126 P k10 a0 v1 σ_3
    else
      x_chk (σ_3.K a0 = 12) <|
      x_bind (dm_X12_sign P a0 (σ_3.I 1134 a0) σ_3) (fun v_7 σ_8 =>
        if v_7 = 10 then
          dm_X12_next_p126 P k10 a0 v1 σ_8
        else
          k10 0 σ_8
        ) (fun E_11 σ_8 =>
        some (.inr E_11, σ_8)
        )
    ) (fun E_12 σ_3 =>
    some (.inr E_12, σ_3)
    )
def dm_X12_next_p249 (P : xP) (k221 : xS → xO Unit) (a0 : Nat) (σ : xS) : xO Unit :=
  x_chk (σ.K a0 = 12) <|
  x_chk ((σ.K a0 = 12) ∧ P.base ≤ a0) <|
  x_let (σ.setI 1134 a0 ((σ.I 1134 a0) + 1)) fun σ_3 =>
  k221 σ_3
def dm_X12_next_p419 (P : xP) (a0 : Nat) (σ : xS) : xO Unit :=
  some (.inl (), σ)
def dm_X12_next_p411 (P : xP) (a0 : Nat) (σ : xS) : xO Unit :=
  x_chk (σ.K a0 = 12) <|
  x_bind (dm_X12_fail P a0 (σ.I 1136 a0) σ) (fun _ σ_3 =>
    dm_X12_next_p419 P a0 σ_3
    ) (fun E_5 σ_3 =>
    some (.inr E_5, σ_3)
    )
def dm_X12_next_p390 (P : xP) (a0 : Nat) (σ : xS) : xO Unit :=
  x_chk (σ.K a0 = 12) <|
  if (σ.I 1135 a0) = 2 then
    if ((σ.I 1137 a0) - (σ.I 1136 a0)) ≤ 2 then
      dm_X12_next_p419 P a0 σ
    else
      dm_X12_next_p411 P a0 σ
  else
    dm_X12_next_p419 P a0 σ
def dm_X12_next_p360 (P : xP) (a0 : Nat) (σ : xS) : xO Unit :=
  x_chk (σ.K a0 = 12) <|
  x_chk ((σ.K a0 = 12) ∧ P.base ≤ a0) <|
  x_let (σ.setI 1137 a0 (σ.I 1134 a0)) fun σ_3 =>
  x_chk (σ_3.K a0 = 12) <|
  if (σ_3.I 1135 a0) = 1 then
    if 8 < ((σ_3.I 1137 a0) - (σ_3.I 1136 a0)) then
      dm_X12_next_p411 P a0 σ_3
    else
      dm_X12_next_p390 P a0 σ_3
  else
    dm_X12_next_p390 P a0 σ_3
def dm_X12_next_L221 (P : xP) (a0 : Nat) : Nat → xS → xO Unit
  | 0, _ => none
  | n + 1, σ =>
    x_chk (σ.K a0 = 12) <|
    x_bind (dm_X12_sign P a0 (σ.I 1134 a0) σ) (fun v_2 σ_3 =>
      x_bind (dm_X12_isLetter P v_2 σ_3) (fun v_5 σ_6 =>
        if v_5 = 0 then
          x_chk (σ_6.K a0 = 12) <|
          x_bind (dm_X12_sign P a0 (σ_6.I 1134 a0) σ_6) (fun v_10 σ_11 =>
            x_bind (dm_X12_isDigit P v_10 σ_11) (fun v_13 σ_14 =>
              if v_13 = 0 then
                dm_X12_next_p360 P a0 σ_14
              else
                dm_X12_next_p249 P (dm_X12_next_L221 P a0 n) a0 σ_14
              ) (fun E_17 σ_14 =>
              some (.inr E_17, σ_14)
              )
            ) (fun E_18 σ_11 =>
            some (.inr E_18, σ_11)
            )
        else
          dm_X12_next_p249 P (dm_X12_next_L221 P a0 n) a0 σ_6
        ) (fun E_19 σ_6 =>
        some (.inr E_19, σ_6)
        )
      ) (fun E_20 σ_3 =>
      some (.inr E_20, σ_3)
      )
def dm_X12_next_p326 (P : xP) (k275 : xS → xO Unit) (a0 : Nat) (s0 : Option Nat) (s1 : Int32) (σ : xS) : xO Unit :=
  x_some s0 fun a_1 =>
  x_chk ((σ.K a_1 = 12) ∧ P.base ≤ a_1) <|
  x_let (σ.setI 1138 a_1 s1) fun σ_3 =>
  x_chk (σ_3.K a0 = 12) <|
  x_chk ((σ_3.K a0 = 12) ∧ P.base ≤ a0) <|
  x_let (σ_3.setI 1134 a0 ((σ_3.I 1134 a0) + 1)) fun σ_6 =>
  k275 σ_6
def dm_X12_next_L275 (P : xP) (a0 : Nat) : Nat → xS → xO Unit
  | 0, _ => none
  | n + 1, σ =>
    x_chk (σ.K a0 = 12) <|
    x_bind (dm_X12_sign P a0 (σ.I 1134 a0) σ) (fun v_2 σ_3 =>
      x_bind (dm_X12_isDigit P v_2 σ_3) (fun v_5 σ_6 =>
        if v_5 = 0 then
          dm_X12_next_p360 P a0 σ_6
        else
          x_chk (σ_6.K a0 = 12) <|
          if 1000 ≤ (σ_6.I 1138 a0) then
            dm_X12_next_p326 P (dm_X12_next_L275 P a0 n) a0 (some a0) (σ_6.I 1138 a0) σ_6
          else
            x_bind (dm_X12_sign P a0 (σ_6.I 1134 a0) σ_6) (fun v_11 σ_12 =>
              dm_X12_next_p326 P (dm_X12_next_L275 P a0 n) a0 (some a0) (((10 * (σ_6.I 1138 a0)) + v_11) - 48) σ_12
              ) (fun E_14 σ_12 =>
              some (.inr E_14, σ_12)
              )
        ) (fun E_15 σ_6 =>
        some (.inr E_15, σ_6)
        )
      ) (fun E_16 σ_3 =>
      some (.inr E_16, σ_3)
      )
def dm_X12_next_p205 (P : xP) (a0 : Nat) (v2 : Int32) (s0 : Option Nat) (s1 : Int32) (σ : xS) : xO Unit :=
  x_some s0 fun a_1 =>
  x_chk ((σ.K a_1 = 12) ∧ P.base ≤ a_1) <|
  x_let (σ.setI 1135 a_1 s1) fun σ_3 =>
  x_chk ((σ_3.K a0 = 12) ∧ P.base ≤ a0) <|
  x_let (σ_3.setI 1138 a0 v2) fun σ_5 =>
  x_chk (σ_5.K a0 = 12) <|
  if (σ_5.I 1135 a0) = 1 then
    dm_X12_next_L221 P a0 P.N σ_5
  else
    if (σ_5.I 1135 a0) = 2 then
      x_chk ((σ_5.K a0 = 12) ∧ P.base ≤ a0) <|
      x_let (σ_5.setI 1138 a0 0) fun σ_13 =>
      dm_X12_next_L275 P a0 P.N σ_13
    else
      if (σ_5.I 1135 a0) = 3 then
        x_chk ((σ_5.K a0 = 12) ∧ P.base ≤ a0) <|
        x_let (σ_5.setI 1134 a0 ((σ_5.I 1134 a0) + 1)) fun σ_11 =>
        dm_X12_next_p360 P a0 σ_11
      else
        dm_X12_next_p360 P a0 σ_5
def dm_X12_next_p144 (P : xP) (a0 : Nat) (σ : xS) : xO Unit :=
  x_chk (σ.K a0 = 12) <|
  x_chk ((σ.K a0 = 12) ∧ P.base ≤ a0) <|
  x_let (σ.setI 1136 a0 (σ.I 1134 a0)) fun σ_3 =>
  x_chk (σ_3.K a0 = 12) <|
  x_bind (dm_X12_sign P a0 (σ_3.I 1134 a0) σ_3) (fun v_5 σ_6 =>
    x_chk (σ_6.K a0 = 12) <|
    x_some (σ_6.R 1105 a0) fun a_9 =>
    x_chk (σ_6.K a_9 = 31 ∧ x_in (σ_6.I 1140 a0) (σ_6.L a_9)) <|
    if (σ_6.I 1134 a0) < (σ_6.AI a_9 (Int32.toNatClampNeg (σ_6.I 1140 a0))) then
      x_bind (dm_X12_isLetter P v_5 σ_6) (fun v_12 σ_13 =>
        if v_12 = 0 then
          x_bind (dm_X12_isDigit P v_5 σ_13) (fun v_16 σ_17 =>
            if v_16 = 0 then
              dm_X12_next_p205 P a0 v_5 (some a0) 3 σ_17
            else
              dm_X12_next_p205 P a0 v_5 (some a0) 2 σ_17
            ) (fun E_20 σ_17 =>
            some (.inr E_20, σ_17)
            )
        else
          dm_X12_next_p205 P a0 v_5 (some a0) 1 σ_13
        ) (fun E_21 σ_13 =>
        some (.inr E_21, σ_13)
        )
    else
      dm_X12_next_p205 P a0 v_5 (some a0) 0 σ_6
    ) (fun E_22 σ_6 =>
    some (.inr E_22, σ_6)
    )
def dm_X12_next_L10 (P : xP) (a0 : Nat) : Nat → Int32 → xS → xO Unit
  | 0, _, _ => none
  | n + 1, v1, σ =>
    if v1 = 0 then
      dm_X12_next_p144 P a0 σ
    else
      x_chk (σ.K a0 = 12) <|
      x_some (σ.R 1105 a0) fun a_3 =>
      x_chk (σ.K a_3 = 31 ∧ x_in (σ.I 1140 a0) (σ.L a_3)) <|
      if (σ.AI a_3 (Int32.toNatClampNeg (σ.I 1140 a0))) ≤ (σ.I 1134 a0) then
        dm_X12_next_p144 P a0 σ
      else
        x_bind (dm_X12_sign P a0 (σ.I 1134 a0) σ) (fun v_6 σ_7 =>
          if v_6 = 47 then
            x_chk (σ_7.K a0 = 12) <|
            x_bind (dm_X12_sign P a0 ((σ_7.I 1134 a0) + 1) σ_7) (fun v_11 σ_12 =>
              if v_11 = 47 then
                dm_X12_next_L58 P (dm_X12_next_L10 P a0 n) a0 P.N v1 σ_12
              else
                dm_X12_next_p100 P (dm_X12_next_L10 P a0 n) a0 v1 σ_12
              ) (fun E_15 σ_12 =>
              some (.inr E_15, σ_12)
              )
          else
            dm_X12_next_p100 P (dm_X12_next_L10 P a0 n) a0 v1 σ_7
          ) (fun E_16 σ_7 =>
          some (.inr E_16, σ_7)
          )
def dm_X12_next (P : xP) (a0 : Nat) (σ : xS) : xO Unit :=
  x_chk (σ.K a0 = 12) <|
  x_bind (dm_X12_ok P a0 σ) (fun v_1 σ_2 =>
    if v_1 = 0 then
      some (.inl (), σ_2)
    else
      dm_X12_next_L10 P a0 P.N 1 σ_2
    ) (fun E_6 σ_2 =>
    some (.inr E_6, σ_2)
    )
def dm_X12_is_p52 (P : xP) (a0 : Nat) (s0 : Int32) (σ : xS) : xO Int32 :=
  x_chk (x_bool s0) <|
  some (.inl s0, σ)
def dm_X12_is_p51 (P : xP) (a0 : Nat) (σ : xS) : xO Int32 :=
  dm_X12_is_p52 P a0 0 σ
def dm_X12_is (P : xP) (a0 : Nat) (v1 : Int32) (v2 : Int32) (v3 : Int32) (v4 : Int32) (σ : xS) : xO Int32 :=
  x_chk (σ.K a0 = 12) <|
  x_bind (dm_X12_sign P a0 ((σ.I 1136 a0) + v1) σ) (fun v_2 σ_3 =>
    if v_2 = v2 then
      x_chk (σ_3.K a0 = 12) <|
      x_bind (dm_X12_sign P a0 (((σ_3.I 1136 a0) + v1) + 1) σ_3) (fun v_7 σ_8 =>
        if v_7 = v3 then
          x_chk (σ_8.K a0 = 12) <|
          x_bind (dm_X12_sign P a0 (((σ_8.I 1136 a0) + v1) + 2) σ_8) (fun v_12 σ_13 =>
            if v_12 = v4 then
              dm_X12_is_p52 P a0 1 σ_13
            else
              dm_X12_is_p51 P a0 σ_13
            ) (fun E_16 σ_13 =>
            some (.inr E_16, σ_13)
            )
        else
          dm_X12_is_p51 P a0 σ_8
        ) (fun E_17 σ_8 =>
        some (.inr E_17, σ_8)
        )
    else
      dm_X12_is_p51 P a0 σ_3
    ) (fun E_18 σ_3 =>
    some (.inr E_18, σ_3)
    )
def dm_X12_keyword_p239 (P : xP) (a0 : Nat) (s0 : Int32) (σ : xS) : xO Int32 :=
  some (.inl s0, σ)
def dm_X12_keyword_p238 (P : xP) (a0 : Nat) (σ : xS) : xO Int32 :=
  dm_X12_keyword_p239 P a0 (-1) σ
def dm_X12_keyword_p215 (P : xP) (a0 : Nat) (v1 : Int32) (σ : xS) : xO Int32 :=
  if v1 = 3 then
    x_chk (σ.K a0 = 12) <|
    x_bind (dm_X12_is P a0 0 101 110 100 σ) (fun v_2 σ_3 =>
      if v_2 = 0 then
        dm_X12_keyword_p238 P a0 σ_3
      else
        dm_X12_keyword_p239 P a0 5 σ_3
      ) (fun E_7 σ_3 =>
      some (.inr E_7, σ_3)
      )
  else
    dm_X12_keyword_p238 P a0 σ
def dm_X12_keyword_p179 (P : xP) (a0 : Nat) (v1 : Int32) (σ : xS) : xO Int32 :=
  if v1 = 6 then
    x_chk (σ.K a0 = 12) <|
    x_bind (dm_X12_is P a0 0 97 115 115 σ) (fun v_2 σ_3 =>
      if v_2 = 0 then
        dm_X12_keyword_p215 P a0 v1 σ_3
      else
        x_chk (σ_3.K a0 = 12) <|
        x_bind (dm_X12_is P a0 3 105 103 110 σ_3) (fun v_7 σ_8 =>
          if v_7 = 0 then
            dm_X12_keyword_p215 P a0 v1 σ_8
          else
            some (.inl 4, σ_8)
          ) (fun E_12 σ_8 =>
          some (.inr E_12, σ_8)
          )
      ) (fun E_13 σ_3 =>
      some (.inr E_13, σ_3)
      )
  else
    dm_X12_keyword_p215 P a0 v1 σ
def dm_X12_keyword_p143 (P : xP) (a0 : Nat) (v1 : Int32) (σ : xS) : xO Int32 :=
  if v1 = 4 then
    x_chk (σ.K a0 = 12) <|
    x_bind (dm_X12_is P a0 0 119 105 114 σ) (fun v_2 σ_3 =>
      if v_2 = 0 then
        dm_X12_keyword_p179 P a0 v1 σ_3
      else
        x_chk (σ_3.K a0 = 12) <|
        x_bind (dm_X12_sign P a0 ((σ_3.I 1136 a0) + 3) σ_3) (fun v_8 σ_9 =>
          if v_8 = 101 then
            some (.inl 3, σ_9)
          else
            dm_X12_keyword_p179 P a0 v1 σ_9
          ) (fun E_12 σ_9 =>
          some (.inr E_12, σ_9)
          )
      ) (fun E_13 σ_3 =>
      some (.inr E_13, σ_3)
      )
  else
    dm_X12_keyword_p179 P a0 v1 σ
def dm_X12_keyword_p107 (P : xP) (a0 : Nat) (v1 : Int32) (σ : xS) : xO Int32 :=
  if v1 = 6 then
    x_chk (σ.K a0 = 12) <|
    x_bind (dm_X12_is P a0 0 111 117 116 σ) (fun v_2 σ_3 =>
      if v_2 = 0 then
        dm_X12_keyword_p143 P a0 v1 σ_3
      else
        x_chk (σ_3.K a0 = 12) <|
        x_bind (dm_X12_is P a0 3 112 117 116 σ_3) (fun v_7 σ_8 =>
          if v_7 = 0 then
            dm_X12_keyword_p143 P a0 v1 σ_8
          else
            some (.inl 2, σ_8)
          ) (fun E_12 σ_8 =>
          some (.inr E_12, σ_8)
          )
      ) (fun E_13 σ_3 =>
      some (.inr E_13, σ_3)
      )
  else
    dm_X12_keyword_p143 P a0 v1 σ
def dm_X12_keyword_p56 (P : xP) (a0 : Nat) (v1 : Int32) (σ : xS) : xO Int32 :=
  if v1 = 5 then
    x_chk (σ.K a0 = 12) <|
    x_bind (dm_X12_is P a0 0 105 110 112 σ) (fun v_2 σ_3 =>
      if v_2 = 0 then
        dm_X12_keyword_p107 P a0 v1 σ_3
      else
        x_chk (σ_3.K a0 = 12) <|
        x_bind (dm_X12_sign P a0 ((σ_3.I 1136 a0) + 3) σ_3) (fun v_8 σ_9 =>
          if v_8 = 117 then
            x_chk (σ_9.K a0 = 12) <|
            x_bind (dm_X12_sign P a0 ((σ_9.I 1136 a0) + 4) σ_9) (fun v_13 σ_14 =>
              if v_13 = 116 then
                some (.inl 1, σ_14)
              else
                dm_X12_keyword_p107 P a0 v1 σ_14
              ) (fun E_17 σ_14 =>
              some (.inr E_17, σ_14)
              )
          else
            dm_X12_keyword_p107 P a0 v1 σ_9
          ) (fun E_18 σ_9 =>
          some (.inr E_18, σ_9)
          )
      ) (fun E_19 σ_3 =>
      some (.inr E_19, σ_3)
      )
  else
    dm_X12_keyword_p107 P a0 v1 σ
def dm_X12_keyword (P : xP) (a0 : Nat) (σ : xS) : xO Int32 :=
  x_chk (σ.K a0 = 12) <|
  x_let (((σ.I 1137 a0) - (σ.I 1136 a0))) fun v_2 =>
  if (σ.I 1135 a0) = 1 then
    if v_2 = 6 then
      x_bind (dm_X12_is P a0 0 109 111 100 σ) (fun v_5 σ_6 =>
        if v_5 = 0 then
          dm_X12_keyword_p56 P a0 v_2 σ_6
        else
          x_chk (σ_6.K a0 = 12) <|
          x_bind (dm_X12_is P a0 3 117 108 101 σ_6) (fun v_9 σ_10 =>
            if v_9 = 0 then
              dm_X12_keyword_p56 P a0 v_2 σ_10
            else
              some (.inl 0, σ_10)
            ) (fun E_14 σ_10 =>
            some (.inr E_14, σ_10)
            )
        ) (fun E_15 σ_6 =>
        some (.inr E_15, σ_6)
        )
    else
      dm_X12_keyword_p56 P a0 v_2 σ
  else
    some (.inl (-1), σ)
def dm_X12_isKey_p20 (P : xP) (a0 : Nat) (s0 : Int32) (σ : xS) : xO Int32 :=
  x_chk (x_bool s0) <|
  some (.inl s0, σ)
def dm_X12_isKey_p19 (P : xP) (a0 : Nat) (σ : xS) : xO Int32 :=
  dm_X12_isKey_p20 P a0 0 σ
def dm_X12_isKey (P : xP) (a0 : Nat) (v1 : Int32) (σ : xS) : xO Int32 :=
  x_chk (σ.K a0 = 12) <|
  x_bind (dm_X12_ok P a0 σ) (fun v_1 σ_2 =>
    if v_1 = 0 then
      dm_X12_isKey_p19 P a0 σ_2
    else
      x_chk (σ_2.K a0 = 12) <|
      x_bind (dm_X12_keyword P a0 σ_2) (fun v_6 σ_7 =>
        if v_6 = v1 then
          dm_X12_isKey_p20 P a0 1 σ_7
        else
          dm_X12_isKey_p19 P a0 σ_7
        ) (fun E_11 σ_7 =>
        some (.inr E_11, σ_7)
        )
    ) (fun E_12 σ_2 =>
    some (.inr E_12, σ_2)
    )
def dm_X12_needName_p31 (P : xP) (a0 : Nat) (σ : xS) : xO Unit :=
  some (.inl (), σ)
def dm_X12_needName_p23 (P : xP) (a0 : Nat) (σ : xS) : xO Unit :=
  x_chk (σ.K a0 = 12) <|
  x_bind (dm_X12_fail P a0 (σ.I 1136 a0) σ) (fun _ σ_3 =>
    dm_X12_needName_p31 P a0 σ_3
    ) (fun E_5 σ_3 =>
    some (.inr E_5, σ_3)
    )
def dm_X12_needName (P : xP) (a0 : Nat) (σ : xS) : xO Unit :=
  x_chk (σ.K a0 = 12) <|
  x_bind (dm_X12_ok P a0 σ) (fun v_1 σ_2 =>
    if v_1 = 0 then
      dm_X12_needName_p31 P a0 σ_2
    else
      x_chk (σ_2.K a0 = 12) <|
      if (σ_2.I 1135 a0) = 1 then
        x_bind (dm_X12_keyword P a0 σ_2) (fun v_8 σ_9 =>
          if v_8 = (-1) then
            dm_X12_needName_p31 P a0 σ_9
          else
            dm_X12_needName_p23 P a0 σ_9
          ) (fun E_12 σ_9 =>
          some (.inr E_12, σ_9)
          )
      else
        dm_X12_needName_p23 P a0 σ_2
    ) (fun E_13 σ_2 =>
    some (.inr E_13, σ_2)
    )
def dm_X12_length_p54 (P : xP) (k2 : Int32 → Int32 → Int32 → xS → xO Int32) (a0 : Nat) (v1 : Int32) (v2 : Int32) (v3 : Int32) (σ : xS) : xO Int32 :=
  x_let (v3 + 1) fun v_1 =>
  k2 v1 v2 v_1 σ
def dm_X12_length_p60 (P : xP) (a0 : Nat) (v3 : Int32) (σ : xS) : xO Int32 :=
  some (.inl v3, σ)
def dm_X12_length_L2 (P : xP) (a0 : Nat) : Nat → Int32 → Int32 → Int32 → xS → xO Int32
  | 0, _, _, _, _ => none
  | n + 1, v1, v2, v3, σ =>
    x_chk (σ.K a0 = 12) <|
    x_some (σ.R 1105 a0) fun a_2 =>
    x_chk (σ.K a_2 = 31 ∧ x_in v1 (σ.L a_2)) <|
    if (σ.AI a_2 (Int32.toNatClampNeg v1)) ≤ (v2 + v3) then
      dm_X12_length_p60 P a0 v3 σ
    else
      x_some (σ.R 1104 a0) fun a_5 =>
      x_chk (σ.K a_5 = 31 ∧ x_in (((1000 * v1) + v2) + v3) (σ.L a_5)) <|
      x_bind (dm_X12_isLetter P (σ.AI a_5 (Int32.toNatClampNeg (((1000 * v1) + v2) + v3))) σ) (fun v_7 σ_8 =>
        if v_7 = 0 then
          x_chk (σ_8.K a0 = 12) <|
          x_some (σ_8.R 1104 a0) fun a_12 =>
          x_chk (σ_8.K a_12 = 31 ∧ x_in (((1000 * v1) + v2) + v3) (σ_8.L a_12)) <|
          x_bind (dm_X12_isDigit P (σ_8.AI a_12 (Int32.toNatClampNeg (((1000 * v1) + v2) + v3))) σ_8) (fun v_14 σ_15 =>
            if v_14 = 0 then
              dm_X12_length_p60 P a0 v3 σ_15
            else
              dm_X12_length_p54 P (dm_X12_length_L2 P a0 n) a0 v1 v2 v3 σ_15
            ) (fun E_18 σ_15 =>
            some (.inr E_18, σ_15)
            )
        else
          dm_X12_length_p54 P (dm_X12_length_L2 P a0 n) a0 v1 v2 v3 σ_8
        ) (fun E_19 σ_8 =>
        some (.inr E_19, σ_8)
        )
def dm_X12_length (P : xP) (a0 : Nat) (v1 : Int32) (v2 : Int32) (σ : xS) : xO Int32 :=
  dm_X12_length_L2 P a0 P.N v1 v2 0 σ
def dm_X12_areSame_p68 (P : xP) (k33 : Int32 → Int32 → Int32 → Int32 → Int32 → xS → xO Int32) (a0 : Nat) (v1 : Int32) (v2 : Int32) (v3 : Int32) (v5 : Int32) (s0 : Int32) (σ : xS) : xO Int32 :=
  x_let (v5 + 1) fun v_1 =>
  k33 v1 v2 v3 s0 v_1 σ
def dm_X12_areSame_p76 (P : xP) (a0 : Nat) (v4 : Int32) (σ : xS) : xO Int32 :=
  x_chk (x_bool v4) <|
  some (.inl v4, σ)
def dm_X12_areSame_L33 (P : xP) (a0 : Nat) : Nat → Int32 → Int32 → Int32 → Int32 → Int32 → xS → xO Int32
  | 0, _, _, _, _, _, _ => none
  | n + 1, v1, v2, v3, v4, v5, σ =>
    if v3 ≤ v5 then
      dm_X12_areSame_p76 P a0 v4 σ
    else
      if v4 = 0 then
        dm_X12_areSame_p76 P a0 v4 σ
      else
        x_chk (σ.K a0 = 12) <|
        x_bind (dm_X12_sign P a0 (v1 + v5) σ) (fun v_3 σ_4 =>
          x_chk (σ_4.K a0 = 12) <|
          x_bind (dm_X12_sign P a0 (v2 + v5) σ_4) (fun v_7 σ_8 =>
            if v_3 = v_7 then
              dm_X12_areSame_p68 P (dm_X12_areSame_L33 P a0 n) a0 v1 v2 v3 v5 1 σ_8
            else
              dm_X12_areSame_p68 P (dm_X12_areSame_L33 P a0 n) a0 v1 v2 v3 v5 0 σ_8
            ) (fun E_12 σ_8 =>
            some (.inr E_12, σ_8)
            )
          ) (fun E_13 σ_4 =>
          some (.inr E_13, σ_4)
          )
def dm_X12_areSame_p28 (P : xP) (a0 : Nat) (v1 : Int32) (v2 : Int32) (v3 : Int32) (s0 : Int32) (σ : xS) : xO Int32 :=
  dm_X12_areSame_L33 P a0 P.N v1 v2 v3 s0 0 σ
def dm_X12_areSame (P : xP) (a0 : Nat) (v1 : Int32) (v2 : Int32) (σ : xS) : xO Int32 :=
  x_chk (σ.K a0 = 12) <|
  x_bind (dm_X12_length P a0 (σ.I 1140 a0) v1 σ) (fun v_2 σ_3 =>
    x_chk (σ_3.K a0 = 12) <|
    x_bind (dm_X12_length P a0 (σ_3.I 1140 a0) v2 σ_3) (fun v_6 σ_7 =>
      if v_2 = v_6 then
        dm_X12_areSame_p28 P a0 v1 v2 v_2 1 σ_7
      else
        dm_X12_areSame_p28 P a0 v1 v2 v_2 0 σ_7
      ) (fun E_10 σ_7 =>
      some (.inr E_10, σ_7)
      )
    ) (fun E_11 σ_3 =>
    some (.inr E_11, σ_3)
    )
def dm_X12_mod (P : xP) (a0 : Nat) (σ : xS) : xO Int32 :=
  x_chk (σ.K a0 = 12) <|
  some (.inl ((8 * (σ.I 1140 a0)) + (σ.I 1141 a0)), σ)
def dm_X12_takeModule_p54 (P : xP) (k6 : Int32 → xS → xO Unit) (a0 : Nat) (v1 : Int32) (σ : xS) : xO Unit :=
  x_let (v1 + 1) fun v_1 =>
  k6 v_1 σ
def dm_X12_takeModule_p144 (P : xP) (a0 : Nat) (σ : xS) : xO Unit :=
  x_chk (σ.K a0 = 12) <|
  x_bind (dm_X12_next P a0 σ) (fun _ σ_2 =>
    some (.inl (), σ_2)
    ) (fun E_5 σ_2 =>
    some (.inr E_5, σ_2)
    )
def dm_X12_takeModule_p84 (P : xP) (a0 : Nat) (σ : xS) : xO Unit :=
  x_chk (σ.K a0 = 12) <|
  x_bind (dm_X12_ok P a0 σ) (fun v_1 σ_2 =>
    if v_1 = 0 then
      dm_X12_takeModule_p144 P a0 σ_2
    else
      x_chk (σ_2.K a0 = 12) <|
      x_bind (dm_X12_mod P a0 σ_2) (fun v_7 σ_8 =>
        x_chk (σ_8.K a0 = 12) <|
        x_some (σ_2.R 1107 a0) fun a_11 =>
        x_chk (σ_8.K a_11 = 31 ∧ x_in v_7 (σ_8.L a_11) ∧ P.base ≤ a_11) <|
        x_let (σ_8.setAI a_11 (Int32.toNatClampNeg v_7) (σ_8.I 1136 a0)) fun σ_13 =>
        x_chk (σ_13.K a0 = 12) <|
        x_bind (dm_X12_mod P a0 σ_13) (fun v_15 σ_16 =>
          x_some (σ_13.R 1108 a0) fun a_18 =>
          x_chk (σ_16.K a_18 = 31 ∧ x_in v_15 (σ_16.L a_18) ∧ P.base ≤ a_18) <|
          x_let (σ_16.setAI a_18 (Int32.toNatClampNeg v_15) 0) fun σ_20 =>
          x_chk (σ_20.K a0 = 12) <|
          x_bind (dm_X12_mod P a0 σ_20) (fun v_22 σ_23 =>
            x_some (σ_20.R 1109 a0) fun a_25 =>
            x_chk (σ_23.K a_25 = 31 ∧ x_in v_22 (σ_23.L a_25) ∧ P.base ≤ a_25) <|
            x_let (σ_23.setAI a_25 (Int32.toNatClampNeg v_22) 0) fun σ_27 =>
            x_chk (σ_27.K a0 = 12) <|
            x_bind (dm_X12_mod P a0 σ_27) (fun v_29 σ_30 =>
              x_some (σ_27.R 1121 a0) fun a_32 =>
              x_chk (σ_30.K a_32 = 31 ∧ x_in v_29 (σ_30.L a_32) ∧ P.base ≤ a_32) <|
              x_let (σ_30.setAI a_32 (Int32.toNatClampNeg v_29) 0) fun σ_34 =>
              x_chk (σ_34.K a0 = 12) <|
              x_bind (dm_X12_mod P a0 σ_34) (fun v_36 σ_37 =>
                x_some (σ_34.R 1124 a0) fun a_39 =>
                x_chk (σ_37.K a_39 = 31 ∧ x_in v_36 (σ_37.L a_39) ∧ P.base ≤ a_39) <|
                x_let (σ_37.setAI a_39 (Int32.toNatClampNeg v_36) 0) fun σ_41 =>
                dm_X12_takeModule_p144 P a0 σ_41
                ) (fun E_42 σ_37 =>
                some (.inr E_42, σ_37)
                )
              ) (fun E_43 σ_30 =>
              some (.inr E_43, σ_30)
              )
            ) (fun E_44 σ_23 =>
            some (.inr E_44, σ_23)
            )
          ) (fun E_45 σ_16 =>
          some (.inr E_45, σ_16)
          )
        ) (fun E_46 σ_8 =>
        some (.inr E_46, σ_8)
        )
    ) (fun E_47 σ_2 =>
    some (.inr E_47, σ_2)
    )
def dm_X12_takeModule_p60 (P : xP) (a0 : Nat) (σ : xS) : xO Unit :=
  x_chk (σ.K a0 = 12) <|
  x_bind (dm_X12_ok P a0 σ) (fun v_1 σ_2 =>
    if v_1 = 0 then
      dm_X12_takeModule_p84 P a0 σ_2
    else
      x_chk (σ_2.K a0 = 12) <|
      if (σ_2.I 1141 a0) = 8 then
        x_bind (dm_X12_fail P a0 (σ_2.I 1136 a0) σ_2) (fun _ σ_9 =>
          dm_X12_takeModule_p84 P a0 σ_9
          ) (fun E_11 σ_9 =>
          some (.inr E_11, σ_9)
          )
      else
        dm_X12_takeModule_p84 P a0 σ_2
    ) (fun E_12 σ_2 =>
    some (.inr E_12, σ_2)
    )
def dm_X12_takeModule_L6 (P : xP) (a0 : Nat) : Nat → Int32 → xS → xO Unit
  | 0, _, _ => none
  | n + 1, v1, σ =>
    x_chk (σ.K a0 = 12) <|
    if (σ.I 1141 a0) ≤ v1 then
      dm_X12_takeModule_p60 P a0 σ
    else
      x_bind (dm_X12_ok P a0 σ) (fun v_3 σ_4 =>
        if v_3 = 0 then
          dm_X12_takeModule_p60 P a0 σ_4
        else
          x_chk (σ_4.K a0 = 12) <|
          x_some (σ_4.R 1107 a0) fun a_8 =>
          x_chk (σ_4.K a_8 = 31 ∧ x_in ((8 * (σ_4.I 1140 a0)) + v1) (σ_4.L a_8)) <|
          x_bind (dm_X12_areSame P a0 (σ_4.AI a_8 (Int32.toNatClampNeg ((8 * (σ_4.I 1140 a0)) + v1))) (σ_4.I 1136 a0) σ_4) (fun v_10 σ_11 =>
            if v_10 = 0 then
              dm_X12_takeModule_p54 P (dm_X12_takeModule_L6 P a0 n) a0 v1 σ_11
            else
              x_chk (σ_11.K a0 = 12) <|
              x_bind (dm_X12_fail P a0 (σ_11.I 1136 a0) σ_11) (fun _ σ_16 =>
                dm_X12_takeModule_p54 P (dm_X12_takeModule_L6 P a0 n) a0 v1 σ_16
                ) (fun E_18 σ_16 =>
                some (.inr E_18, σ_16)
                )
            ) (fun E_19 σ_11 =>
            some (.inr E_19, σ_11)
            )
        ) (fun E_20 σ_4 =>
        some (.inr E_20, σ_4)
        )
def dm_X12_takeModule (P : xP) (a0 : Nat) (σ : xS) : xO Unit :=
  x_chk (σ.K a0 = 12) <|
  x_bind (dm_X12_needName P a0 σ) (fun _ σ_2 =>
    dm_X12_takeModule_L6 P a0 P.N 0 σ_2
    ) (fun E_5 σ_2 =>
    some (.inr E_5, σ_2)
    )
def dm_X12_isSign_p28 (P : xP) (a0 : Nat) (s0 : Int32) (σ : xS) : xO Int32 :=
  x_chk (x_bool s0) <|
  some (.inl s0, σ)
def dm_X12_isSign_p27 (P : xP) (a0 : Nat) (σ : xS) : xO Int32 :=
  dm_X12_isSign_p28 P a0 0 σ
def dm_X12_isSign (P : xP) (a0 : Nat) (v1 : Int32) (σ : xS) : xO Int32 :=
  x_chk (σ.K a0 = 12) <|
  x_bind (dm_X12_ok P a0 σ) (fun v_1 σ_2 =>
    if v_1 = 0 then
      dm_X12_isSign_p27 P a0 σ_2
    else
      x_chk (σ_2.K a0 = 12) <|
      if (σ_2.I 1135 a0) = 3 then
        if (σ_2.I 1138 a0) = v1 then
          dm_X12_isSign_p28 P a0 1 σ_2
        else
          dm_X12_isSign_p27 P a0 σ_2
      else
        dm_X12_isSign_p27 P a0 σ_2
    ) (fun E_9 σ_2 =>
    some (.inr E_9, σ_2)
    )
def dm_X12_needSign_p23 (P : xP) (a0 : Nat) (σ : xS) : xO Unit :=
  x_chk (σ.K a0 = 12) <|
  x_bind (dm_X12_next P a0 σ) (fun _ σ_2 =>
    some (.inl (), σ_2)
    ) (fun E_5 σ_2 =>
    some (.inr E_5, σ_2)
    )
def dm_X12_needSign (P : xP) (a0 : Nat) (v1 : Int32) (σ : xS) : xO Unit :=
  x_chk (σ.K a0 = 12) <|
  x_bind (dm_X12_ok P a0 σ) (fun v_1 σ_2 =>
    if v_1 = 0 then
      dm_X12_needSign_p23 P a0 σ_2
    else
      x_chk (σ_2.K a0 = 12) <|
      x_bind (dm_X12_isSign P a0 v1 σ_2) (fun v_6 σ_7 =>
        if v_6 = 0 then
          x_chk (σ_7.K a0 = 12) <|
          x_bind (dm_X12_fail P a0 (σ_7.I 1136 a0) σ_7) (fun _ σ_13 =>
            dm_X12_needSign_p23 P a0 σ_13
            ) (fun E_15 σ_13 =>
            some (.inr E_15, σ_13)
            )
        else
          dm_X12_needSign_p23 P a0 σ_7
        ) (fun E_16 σ_7 =>
        some (.inr E_16, σ_7)
        )
    ) (fun E_17 σ_2 =>
    some (.inr E_17, σ_2)
    )
def dm_X12_netCell (P : xP) (a0 : Nat) (v1 : Int32) (σ : xS) : xO Int32 :=
  x_chk (σ.K a0 = 12) <|
  x_bind (dm_X12_mod P a0 σ) (fun v_1 σ_2 =>
    some (.inl ((16 * v_1) + v1), σ_2)
    ) (fun E_5 σ_2 =>
    some (.inr E_5, σ_2)
    )
def dm_X12_netNamed_p40 (P : xP) (k4 : Int32 → Int32 → Int32 → xS → xO Int32) (a0 : Nat) (v1 : Int32) (v3 : Int32) (s0 : Int32) (σ : xS) : xO Int32 :=
  x_let (v3 + 1) fun v_1 =>
  k4 v1 s0 v_1 σ
def dm_X12_netNamed_L4 (P : xP) (a0 : Nat) : Nat → Int32 → Int32 → Int32 → xS → xO Int32
  | 0, _, _, _, _ => none
  | n + 1, v1, v2, v3, σ =>
    x_chk (σ.K a0 = 12) <|
    x_bind (dm_X12_mod P a0 σ) (fun v_2 σ_3 =>
      x_some (σ.R 1109 a0) fun a_5 =>
      x_chk (σ_3.K a_5 = 31 ∧ x_in v_2 (σ_3.L a_5)) <|
      if (σ_3.AI a_5 (Int32.toNatClampNeg v_2)) ≤ v3 then
        some (.inl v2, σ_3)
      else
        x_chk (σ_3.K a0 = 12) <|
        x_bind (dm_X12_netCell P a0 v3 σ_3) (fun v_9 σ_10 =>
          x_some (σ_3.R 1110 a0) fun a_12 =>
          x_chk (σ_10.K a_12 = 31 ∧ x_in v_9 (σ_10.L a_12)) <|
          x_chk (σ_10.K a0 = 12) <|
          x_bind (dm_X12_areSame P a0 (σ_10.AI a_12 (Int32.toNatClampNeg v_9)) v1 σ_10) (fun v_14 σ_15 =>
            if v_14 = 0 then
              dm_X12_netNamed_p40 P (dm_X12_netNamed_L4 P a0 n) a0 v1 v3 v2 σ_15
            else
              dm_X12_netNamed_p40 P (dm_X12_netNamed_L4 P a0 n) a0 v1 v3 v3 σ_15
            ) (fun E_19 σ_15 =>
            some (.inr E_19, σ_15)
            )
          ) (fun E_20 σ_10 =>
          some (.inr E_20, σ_10)
          )
      ) (fun E_21 σ_3 =>
      some (.inr E_21, σ_3)
      )
def dm_X12_netNamed (P : xP) (a0 : Nat) (v1 : Int32) (σ : xS) : xO Int32 :=
  dm_X12_netNamed_L4 P a0 P.N v1 (-1) 0 σ
def dm_X12_addNet (P : xP) (a0 : Nat) (v1 : Int32) (v2 : Int32) (v3 : Int32) (σ : xS) : xO Unit :=
  x_chk (σ.K a0 = 12) <|
  x_bind (dm_X12_mod P a0 σ) (fun v_2 σ_3 =>
    x_some (σ.R 1109 a0) fun a_5 =>
    x_chk (σ_3.K a_5 = 31 ∧ x_in v_2 (σ_3.L a_5)) <|
    x_let ((σ_3.AI a_5 (Int32.toNatClampNeg v_2))) fun v_7 =>
    x_chk (σ_3.K a0 = 12) <|
    x_bind (dm_X12_netCell P a0 v_7 σ_3) (fun v_9 σ_10 =>
      x_chk (σ_10.K a0 = 12) <|
      x_some (σ_3.R 1110 a0) fun a_13 =>
      x_chk (σ_10.K a_13 = 31 ∧ x_in v_9 (σ_10.L a_13) ∧ P.base ≤ a_13) <|
      x_let (σ_10.setAI a_13 (Int32.toNatClampNeg v_9) (σ_10.I 1136 a0)) fun σ_15 =>
      x_chk (σ_15.K a0 = 12) <|
      x_bind (dm_X12_netCell P a0 v_7 σ_15) (fun v_17 σ_18 =>
        x_some (σ_15.R 1111 a0) fun a_20 =>
        x_chk (σ_18.K a_20 = 31 ∧ x_in v_17 (σ_18.L a_20) ∧ P.base ≤ a_20) <|
        x_let (σ_18.setAI a_20 (Int32.toNatClampNeg v_17) v1) fun σ_22 =>
        x_chk (σ_22.K a0 = 12) <|
        x_bind (dm_X12_netCell P a0 v_7 σ_22) (fun v_24 σ_25 =>
          x_some (σ_22.R 1112 a0) fun a_27 =>
          x_chk (σ_25.K a_27 = 31 ∧ x_in v_24 (σ_25.L a_27) ∧ P.base ≤ a_27) <|
          x_let (σ_25.setAI a_27 (Int32.toNatClampNeg v_24) v2) fun σ_29 =>
          x_chk (σ_29.K a0 = 12) <|
          x_bind (dm_X12_netCell P a0 v_7 σ_29) (fun v_31 σ_32 =>
            x_some (σ_29.R 1114 a0) fun a_34 =>
            x_chk (σ_32.K a_34 = 33 ∧ x_in v_31 (σ_32.L a_34) ∧ P.base ≤ a_34 ∧ x_bool v3) <|
            x_let (σ_32.setAI a_34 (Int32.toNatClampNeg v_31) v3) fun σ_36 =>
            x_chk (σ_36.K a0 = 12) <|
            x_bind (dm_X12_mod P a0 σ_36) (fun v_38 σ_39 =>
              x_some (σ_36.R 1109 a0) fun a_41 =>
              x_chk (σ_39.K a_41 = 31 ∧ x_in v_38 (σ_39.L a_41)) <|
              x_chk (σ_39.K a_41 = 31 ∧ x_in v_38 (σ_39.L a_41) ∧ P.base ≤ a_41) <|
              x_let (σ_39.setAI a_41 (Int32.toNatClampNeg v_38) ((σ_39.AI a_41 (Int32.toNatClampNeg v_38)) + 1)) fun σ_44 =>
              some (.inl (), σ_44)
              ) (fun E_45 σ_39 =>
              some (.inr E_45, σ_39)
              )
            ) (fun E_46 σ_32 =>
            some (.inr E_46, σ_32)
            )
          ) (fun E_47 σ_25 =>
          some (.inr E_47, σ_25)
          )
        ) (fun E_48 σ_18 =>
        some (.inr E_48, σ_18)
        )
      ) (fun E_49 σ_10 =>
      some (.inr E_49, σ_10)
      )
    ) (fun E_50 σ_3 =>
    some (.inr E_50, σ_3)
    )
def dm_X12_takePort_p72 (P : xP) (a0 : Nat) (σ : xS) : xO Unit :=
  x_chk (σ.K a0 = 12) <|
  x_bind (dm_X12_next P a0 σ) (fun _ σ_2 =>
    some (.inl (), σ_2)
    ) (fun E_5 σ_2 =>
    some (.inr E_5, σ_2)
    )
def dm_X12_takePort_p45 (P : xP) (a0 : Nat) (σ : xS) : xO Unit :=
  x_chk (σ.K a0 = 12) <|
  x_bind (dm_X12_ok P a0 σ) (fun v_1 σ_2 =>
    if v_1 = 0 then
      dm_X12_takePort_p72 P a0 σ_2
    else
      x_chk (σ_2.K a0 = 12) <|
      x_bind (dm_X12_addNet P a0 0 0 0 σ_2) (fun _ σ_7 =>
        x_chk (σ_7.K a0 = 12) <|
        x_bind (dm_X12_mod P a0 σ_7) (fun v_11 σ_12 =>
          x_some (σ_7.R 1108 a0) fun a_14 =>
          x_chk (σ_12.K a_14 = 31 ∧ x_in v_11 (σ_12.L a_14)) <|
          x_chk (σ_12.K a_14 = 31 ∧ x_in v_11 (σ_12.L a_14) ∧ P.base ≤ a_14) <|
          x_let (σ_12.setAI a_14 (Int32.toNatClampNeg v_11) ((σ_12.AI a_14 (Int32.toNatClampNeg v_11)) + 1)) fun σ_17 =>
          dm_X12_takePort_p72 P a0 σ_17
          ) (fun E_18 σ_12 =>
          some (.inr E_18, σ_12)
          )
        ) (fun E_19 σ_7 =>
        some (.inr E_19, σ_7)
        )
    ) (fun E_20 σ_2 =>
    some (.inr E_20, σ_2)
    )
def dm_X12_takePort_p37 (P : xP) (a0 : Nat) (σ : xS) : xO Unit :=
  x_chk (σ.K a0 = 12) <|
  x_bind (dm_X12_fail P a0 (σ.I 1136 a0) σ) (fun _ σ_3 =>
    dm_X12_takePort_p45 P a0 σ_3
    ) (fun E_5 σ_3 =>
    some (.inr E_5, σ_3)
    )
def dm_X12_takePort (P : xP) (a0 : Nat) (σ : xS) : xO Unit :=
  x_chk (σ.K a0 = 12) <|
  x_bind (dm_X12_needName P a0 σ) (fun _ σ_2 =>
    x_chk (σ_2.K a0 = 12) <|
    x_bind (dm_X12_ok P a0 σ_2) (fun v_5 σ_6 =>
      if v_5 = 0 then
        dm_X12_takePort_p45 P a0 σ_6
      else
        x_chk (σ_6.K a0 = 12) <|
        x_bind (dm_X12_mod P a0 σ_6) (fun v_11 σ_12 =>
          x_some (σ_6.R 1109 a0) fun a_14 =>
          x_chk (σ_12.K a_14 = 31 ∧ x_in v_11 (σ_12.L a_14)) <|
          if (σ_12.AI a_14 (Int32.toNatClampNeg v_11)) = 16 then
            dm_X12_takePort_p37 P a0 σ_12
          else
            x_chk (σ_12.K a0 = 12) <|
            x_bind (dm_X12_netNamed P a0 (σ_12.I 1136 a0) σ_12) (fun v_18 σ_19 =>
              if v_18 = (-1) then
                dm_X12_takePort_p45 P a0 σ_19
              else
                dm_X12_takePort_p37 P a0 σ_19
              ) (fun E_22 σ_19 =>
              some (.inr E_22, σ_19)
              )
          ) (fun E_23 σ_12 =>
          some (.inr E_23, σ_12)
          )
      ) (fun E_24 σ_6 =>
      some (.inr E_24, σ_6)
      )
    ) (fun E_25 σ_2 =>
    some (.inr E_25, σ_2)
    )
def dm_X12_needNumber_p39 (P : xP) (a0 : Nat) (σ : xS) : xO Unit :=
  some (.inl (), σ)
def dm_X12_needNumber_p31 (P : xP) (a0 : Nat) (σ : xS) : xO Unit :=
  x_chk (σ.K a0 = 12) <|
  x_bind (dm_X12_fail P a0 (σ.I 1136 a0) σ) (fun _ σ_3 =>
    dm_X12_needNumber_p39 P a0 σ_3
    ) (fun E_5 σ_3 =>
    some (.inr E_5, σ_3)
    )
def dm_X12_needNumber (P : xP) (a0 : Nat) (v1 : Int32) (v2 : Int32) (σ : xS) : xO Unit :=
  x_chk (σ.K a0 = 12) <|
  x_bind (dm_X12_ok P a0 σ) (fun v_1 σ_2 =>
    if v_1 = 0 then
      dm_X12_needNumber_p39 P a0 σ_2
    else
      x_chk (σ_2.K a0 = 12) <|
      if (σ_2.I 1135 a0) = 2 then
        if (σ_2.I 1138 a0) < v1 then
          dm_X12_needNumber_p31 P a0 σ_2
        else
          if (σ_2.I 1138 a0) ≤ v2 then
            dm_X12_needNumber_p39 P a0 σ_2
          else
            dm_X12_needNumber_p31 P a0 σ_2
      else
        dm_X12_needNumber_p31 P a0 σ_2
    ) (fun E_10 σ_2 =>
    some (.inr E_10, σ_2)
    )
def dm_X12_takeLongNet_p158 (P : xP) (a0 : Nat) (σ : xS) : xO Unit :=
  x_chk (σ.K a0 = 12) <|
  x_bind (dm_X12_next P a0 σ) (fun _ σ_2 =>
    some (.inl (), σ_2)
    ) (fun E_5 σ_2 =>
    some (.inr E_5, σ_2)
    )
def dm_X12_takeLongNet_p67 (P : xP) (a0 : Nat) (σ : xS) : xO Unit :=
  x_chk (σ.K a0 = 12) <|
  x_bind (dm_X12_fail P a0 (σ.I 1136 a0) σ) (fun _ σ_3 =>
    dm_X12_takeLongNet_p158 P a0 σ_3
    ) (fun E_5 σ_3 =>
    some (.inr E_5, σ_3)
    )
def dm_X12_takeLongNet_p140 (P : xP) (a0 : Nat) (σ : xS) : xO Unit :=
  x_chk (σ.K a0 = 12) <|
  x_bind (dm_X12_fail P a0 (σ.I 1136 a0) σ) (fun _ σ_3 =>
    dm_X12_takeLongNet_p158 P a0 σ_3
    ) (fun E_5 σ_3 =>
    some (.inr E_5, σ_3)
    )
def dm_X12_takeLongNet_p114 (P : xP) (a0 : Nat) (v1 : Int32) (v2 : Int32) (v3 : Int32) (σ : xS) : xO Unit :=
  x_chk (σ.K a0 = 12) <|
  x_bind (dm_X12_ok P a0 σ) (fun v_1 σ_2 =>
    if v_1 = 0 then
      dm_X12_takeLongNet_p158 P a0 σ_2
    else
      if v3 = (-1) then
        x_chk (σ_2.K a0 = 12) <|
        x_bind (dm_X12_mod P a0 σ_2) (fun v_8 σ_9 =>
          x_some (σ_2.R 1109 a0) fun a_11 =>
          x_chk (σ_9.K a_11 = 31 ∧ x_in v_8 (σ_9.L a_11)) <|
          if (σ_9.AI a_11 (Int32.toNatClampNeg v_8)) = 16 then
            dm_X12_takeLongNet_p140 P a0 σ_9
          else
            x_chk (σ_9.K a0 = 12) <|
            x_bind (dm_X12_addNet P a0 v1 v2 1 σ_9) (fun _ σ_15 =>
              dm_X12_takeLongNet_p158 P a0 σ_15
              ) (fun E_18 σ_15 =>
              some (.inr E_18, σ_15)
              )
          ) (fun E_19 σ_9 =>
          some (.inr E_19, σ_9)
          )
      else
        dm_X12_takeLongNet_p140 P a0 σ_2
    ) (fun E_20 σ_2 =>
    some (.inr E_20, σ_2)
    )
def dm_X12_takeLongNet_p23 (P : xP) (a0 : Nat) (v1 : Int32) (v2 : Int32) (s0 : Int32) (σ : xS) : xO Unit :=
  x_chk (σ.K a0 = 12) <|
  x_bind (dm_X12_ok P a0 σ) (fun v_1 σ_2 =>
    if v_1 = 0 then
      dm_X12_takeLongNet_p114 P a0 v1 v2 s0 σ_2
    else
      if 2 ≤ v1 then
        dm_X12_takeLongNet_p114 P a0 v1 v2 s0 σ_2
      else
        if s0 = (-1) then
          dm_X12_takeLongNet_p67 P a0 σ_2
        else
          x_chk (σ_2.K a0 = 12) <|
          x_bind (dm_X12_mod P a0 σ_2) (fun v_9 σ_10 =>
            x_some (σ_2.R 1108 a0) fun a_12 =>
            x_chk (σ_10.K a_12 = 31 ∧ x_in v_9 (σ_10.L a_12)) <|
            if (σ_10.AI a_12 (Int32.toNatClampNeg v_9)) ≤ s0 then
              dm_X12_takeLongNet_p67 P a0 σ_10
            else
              x_chk (σ_10.K a0 = 12) <|
              x_bind (dm_X12_netCell P a0 s0 σ_10) (fun v_16 σ_17 =>
                x_some (σ_10.R 1114 a0) fun a_19 =>
                x_chk (σ_17.K a_19 = 33 ∧ x_in v_16 (σ_17.L a_19)) <|
                if (σ_17.AI a_19 (Int32.toNatClampNeg v_16)) = 0 then
                  x_chk (σ_17.K a0 = 12) <|
                  x_bind (dm_X12_netCell P a0 s0 σ_17) (fun v_23 σ_24 =>
                    x_some (σ_17.R 1111 a0) fun a_26 =>
                    x_chk (σ_24.K a_26 = 31 ∧ x_in v_23 (σ_24.L a_26) ∧ P.base ≤ a_26) <|
                    x_let (σ_24.setAI a_26 (Int32.toNatClampNeg v_23) v1) fun σ_28 =>
                    x_chk (σ_28.K a0 = 12) <|
                    x_bind (dm_X12_netCell P a0 s0 σ_28) (fun v_30 σ_31 =>
                      x_some (σ_28.R 1112 a0) fun a_33 =>
                      x_chk (σ_31.K a_33 = 31 ∧ x_in v_30 (σ_31.L a_33) ∧ P.base ≤ a_33) <|
                      x_let (σ_31.setAI a_33 (Int32.toNatClampNeg v_30) v2) fun σ_35 =>
                      x_chk (σ_35.K a0 = 12) <|
                      x_bind (dm_X12_netCell P a0 s0 σ_35) (fun v_37 σ_38 =>
                        x_some (σ_35.R 1114 a0) fun a_40 =>
                        x_chk (σ_38.K a_40 = 33 ∧ x_in v_37 (σ_38.L a_40) ∧ P.base ≤ a_40 ∧ x_bool 1) <|
                        x_let (σ_38.setAI a_40 (Int32.toNatClampNeg v_37) 1) fun σ_42 =>
                        dm_X12_takeLongNet_p158 P a0 σ_42
                        ) (fun E_43 σ_38 =>
                        some (.inr E_43, σ_38)
                        )
                      ) (fun E_44 σ_31 =>
                      some (.inr E_44, σ_31)
                      )
                    ) (fun E_45 σ_24 =>
                    some (.inr E_45, σ_24)
                    )
                else
                  dm_X12_takeLongNet_p67 P a0 σ_17
                ) (fun E_46 σ_17 =>
                some (.inr E_46, σ_17)
                )
            ) (fun E_47 σ_10 =>
            some (.inr E_47, σ_10)
            )
    ) (fun E_48 σ_2 =>
    some (.inr E_48, σ_2)
    )
def dm_X12_takeLongNet (P : xP) (a0 : Nat) (v1 : Int32) (v2 : Int32) (σ : xS) : xO Unit :=
  x_chk (σ.K a0 = 12) <|
  x_bind (dm_X12_needName P a0 σ) (fun _ σ_2 =>
    x_chk (σ_2.K a0 = 12) <|
    x_bind (dm_X12_ok P a0 σ_2) (fun v_5 σ_6 =>
      if v_5 = 0 then
        dm_X12_takeLongNet_p23 P a0 v1 v2 (-1) σ_6
      else
        x_chk (σ_6.K a0 = 12) <|
        x_bind (dm_X12_netNamed P a0 (σ_6.I 1136 a0) σ_6) (fun v_11 σ_12 =>
          dm_X12_takeLongNet_p23 P a0 v1 v2 v_11 σ_12
          ) (fun E_14 σ_12 =>
          some (.inr E_14, σ_12)
          )
      ) (fun E_15 σ_6 =>
      some (.inr E_15, σ_6)
      )
    ) (fun E_16 σ_2 =>
    some (.inr E_16, σ_2)
    )
def dm_X12_longNets_p96 (P : xP) (a0 : Nat) (σ : xS) : xO Unit :=
  x_chk (σ.K a0 = 12) <|
  x_bind (dm_X12_needSign P a0 59 σ) (fun _ σ_2 =>
    some (.inl (), σ_2)
    ) (fun E_5 σ_2 =>
    some (.inr E_5, σ_2)
    )
def dm_X12_longNets_L61 (P : xP) (a0 : Nat) : Nat → Int32 → Int32 → Int32 → xS → xO Unit
  | 0, _, _, _, _ => none
  | n + 1, v1, v2, v3, σ =>
    if v3 = 0 then
      dm_X12_longNets_p96 P a0 σ
    else
      x_chk (σ.K a0 = 12) <|
      x_bind (dm_X12_ok P a0 σ) (fun v_2 σ_3 =>
        if v_2 = 0 then
          dm_X12_longNets_p96 P a0 σ_3
        else
          x_chk (σ_3.K a0 = 12) <|
          x_bind (dm_X12_takeLongNet P a0 v1 v2 σ_3) (fun _ σ_8 =>
            x_chk (σ_8.K a0 = 12) <|
            x_bind (dm_X12_isSign P a0 44 σ_8) (fun v_11 σ_12 =>
              if v_11 = 0 then
                dm_X12_longNets_L61 P a0 n v1 v2 v_11 σ_12
              else
                x_chk (σ_12.K a0 = 12) <|
                x_bind (dm_X12_next P a0 σ_12) (fun _ σ_17 =>
                  dm_X12_longNets_L61 P a0 n v1 v2 v_11 σ_17
                  ) (fun E_20 σ_17 =>
                  some (.inr E_20, σ_17)
                  )
              ) (fun E_21 σ_12 =>
              some (.inr E_21, σ_12)
              )
            ) (fun E_22 σ_8 =>
            some (.inr E_22, σ_8)
            )
        ) (fun E_23 σ_3 =>
        some (.inr E_23, σ_3)
        )
def dm_X12_longNets_p59 (P : xP) (a0 : Nat) (v1 : Int32) (v2 : Int32) (σ : xS) : xO Unit :=
  dm_X12_longNets_L61 P a0 P.N v1 v2 1 σ
def dm_X12_longNets (P : xP) (a0 : Nat) (v1 : Int32) (σ : xS) : xO Unit :=
  x_chk (σ.K a0 = 12) <|
  x_bind (dm_X12_next P a0 σ) (fun _ σ_2 =>
    x_chk (σ_2.K a0 = 12) <|
    x_bind (dm_X12_isSign P a0 91 σ_2) (fun v_5 σ_6 =>
      if v_5 = 0 then
        dm_X12_longNets_p59 P a0 v1 1 σ_6
      else
        x_chk (σ_6.K a0 = 12) <|
        x_bind (dm_X12_next P a0 σ_6) (fun _ σ_11 =>
          x_chk (σ_11.K a0 = 12) <|
          x_bind (dm_X12_needNumber P a0 0 7 σ_11) (fun _ σ_15 =>
            x_chk (σ_15.K a0 = 12) <|
            x_let (((σ_15.I 1138 a0) + 1)) fun v_19 =>
            x_bind (dm_X12_next P a0 σ_15) (fun _ σ_21 =>
              x_chk (σ_21.K a0 = 12) <|
              x_bind (dm_X12_needSign P a0 58 σ_21) (fun _ σ_24 =>
                x_chk (σ_24.K a0 = 12) <|
                x_bind (dm_X12_needNumber P a0 0 0 σ_24) (fun _ σ_28 =>
                  x_chk (σ_28.K a0 = 12) <|
                  x_bind (dm_X12_next P a0 σ_28) (fun _ σ_32 =>
                    x_chk (σ_32.K a0 = 12) <|
                    x_bind (dm_X12_needSign P a0 93 σ_32) (fun _ σ_36 =>
                      dm_X12_longNets_p59 P a0 v1 v_19 σ_36
                      ) (fun E_39 σ_36 =>
                      some (.inr E_39, σ_36)
                      )
                    ) (fun E_40 σ_32 =>
                    some (.inr E_40, σ_32)
                    )
                  ) (fun E_41 σ_28 =>
                  some (.inr E_41, σ_28)
                  )
                ) (fun E_42 σ_24 =>
                some (.inr E_42, σ_24)
                )
              ) (fun E_43 σ_21 =>
              some (.inr E_43, σ_21)
              )
            ) (fun E_44 σ_15 =>
            some (.inr E_44, σ_15)
            )
          ) (fun E_45 σ_11 =>
          some (.inr E_45, σ_11)
          )
      ) (fun E_46 σ_6 =>
      some (.inr E_46, σ_6)
      )
    ) (fun E_47 σ_2 =>
    some (.inr E_47, σ_2)
    )
def dm_X12_takeDigits_p103 (P : xP) (k56 : Int32 → Int32 → Int32 → xS → xO Int32) (a0 : Nat) (v2 : Int32) (v4 : Int32) (s0 : Int32) (σ : xS) : xO Int32 :=
  x_let (v4 + 1) fun v_1 =>
  k56 v2 s0 v_1 σ
def dm_X12_takeDigits_p98 (P : xP) (k56 : Int32 → Int32 → Int32 → xS → xO Int32) (a0 : Nat) (v2 : Int32) (v4 : Int32) (σ : xS) : xO Int32 :=
  dm_X12_takeDigits_p103 P k56 a0 v2 v4 1 σ
def dm_X12_takeDigits_p129 (P : xP) (a0 : Nat) (v2 : Int32) (σ : xS) : xO Int32 :=
  some (.inl v2, σ)
def dm_X12_takeDigits_p110 (P : xP) (a0 : Nat) (v2 : Int32) (v3 : Int32) (σ : xS) : xO Int32 :=
  x_chk (σ.K a0 = 12) <|
  x_bind (dm_X12_ok P a0 σ) (fun v_1 σ_2 =>
    if v_1 = 0 then
      dm_X12_takeDigits_p129 P a0 v2 σ_2
    else
      if v3 = 0 then
        x_chk (σ_2.K a0 = 12) <|
        x_bind (dm_X12_fail P a0 (σ_2.I 1136 a0) σ_2) (fun _ σ_9 =>
          dm_X12_takeDigits_p129 P a0 v2 σ_9
          ) (fun E_11 σ_9 =>
          some (.inr E_11, σ_9)
          )
      else
        dm_X12_takeDigits_p129 P a0 v2 σ_2
    ) (fun E_12 σ_2 =>
    some (.inr E_12, σ_2)
    )
def dm_X12_takeDigits_L56 (P : xP) (a0 : Nat) : Nat → Int32 → Int32 → Int32 → xS → xO Int32
  | 0, _, _, _, _ => none
  | n + 1, v2, v3, v4, σ =>
    if v2 < v4 then
      dm_X12_takeDigits_p110 P a0 v2 v3 σ
    else
      if v3 = 0 then
        dm_X12_takeDigits_p110 P a0 v2 v3 σ
      else
        x_chk (σ.K a0 = 12) <|
        x_bind (dm_X12_sign P a0 ((σ.I 1136 a0) + v4) σ) (fun v_4 σ_5 =>
          if v_4 = 48 then
            dm_X12_takeDigits_p98 P (dm_X12_takeDigits_L56 P a0 n) a0 v2 v4 σ_5
          else
            x_chk (σ_5.K a0 = 12) <|
            x_bind (dm_X12_sign P a0 ((σ_5.I 1136 a0) + v4) σ_5) (fun v_9 σ_10 =>
              if v_9 = 49 then
                dm_X12_takeDigits_p98 P (dm_X12_takeDigits_L56 P a0 n) a0 v2 v4 σ_10
              else
                dm_X12_takeDigits_p103 P (dm_X12_takeDigits_L56 P a0 n) a0 v2 v4 0 σ_10
              ) (fun E_13 σ_10 =>
              some (.inr E_13, σ_10)
              )
          ) (fun E_14 σ_5 =>
          some (.inr E_14, σ_5)
          )
def dm_X12_takeDigits_p52 (P : xP) (a0 : Nat) (v2 : Int32) (s0 : Int32) (σ : xS) : xO Int32 :=
  dm_X12_takeDigits_L56 P a0 P.N v2 s0 1 σ
def dm_X12_takeDigits_p47 (P : xP) (a0 : Nat) (v2 : Int32) (σ : xS) : xO Int32 :=
  dm_X12_takeDigits_p52 P a0 v2 1 σ
def dm_X12_takeDigits_p51 (P : xP) (a0 : Nat) (v2 : Int32) (σ : xS) : xO Int32 :=
  dm_X12_takeDigits_p52 P a0 v2 0 σ
def dm_X12_takeDigits (P : xP) (a0 : Nat) (v1 : Int32) (σ : xS) : xO Int32 :=
  x_chk (σ.K a0 = 12) <|
  x_let ((((σ.I 1137 a0) - (σ.I 1136 a0)) - 1)) fun v_2 =>
  if (σ.I 1135 a0) = 1 then
    x_bind (dm_X12_sign P a0 (σ.I 1136 a0) σ) (fun v_4 σ_5 =>
      if v_4 = 98 then
        if v_2 < 1 then
          dm_X12_takeDigits_p51 P a0 v_2 σ_5
        else
          if v1 = 0 then
            dm_X12_takeDigits_p47 P a0 v_2 σ_5
          else
            if v_2 = v1 then
              dm_X12_takeDigits_p47 P a0 v_2 σ_5
            else
              dm_X12_takeDigits_p51 P a0 v_2 σ_5
      else
        dm_X12_takeDigits_p51 P a0 v_2 σ_5
      ) (fun E_11 σ_5 =>
      some (.inr E_11, σ_5)
      )
  else
    dm_X12_takeDigits_p51 P a0 v_2 σ
def dm_X12_addRef (P : xP) (a0 : Nat) (v1 : Int32) (v2 : Int32) (v3 : Int32) (v4 : Int32) (v5 : Int32) (σ : xS) : xO Int32 :=
  x_chk (σ.K a0 = 12) <|
  x_some (σ.R 1115 a0) fun a_2 =>
  x_chk (σ.K a_2 = 31 ∧ x_in (σ.I 1140 a0) (σ.L a_2)) <|
  x_let (((512 * (σ.I 1140 a0)) + (σ.AI a_2 (Int32.toNatClampNeg (σ.I 1140 a0))))) fun v_4 =>
  x_some (σ.R 1117 a0) fun a_5 =>
  x_chk (σ.K a_5 = 31 ∧ x_in v_4 (σ.L a_5) ∧ P.base ≤ a_5) <|
  x_let (σ.setAI a_5 (Int32.toNatClampNeg v_4) v1) fun σ_7 =>
  x_chk (σ_7.K a0 = 12) <|
  x_some (σ_7.R 1116 a0) fun a_9 =>
  x_chk (σ_7.K a_9 = 31 ∧ x_in v_4 (σ_7.L a_9) ∧ P.base ≤ a_9) <|
  x_let (σ_7.setAI a_9 (Int32.toNatClampNeg v_4) v2) fun σ_11 =>
  x_chk (σ_11.K a0 = 12) <|
  x_some (σ_11.R 1118 a0) fun a_13 =>
  x_chk (σ_11.K a_13 = 31 ∧ x_in v_4 (σ_11.L a_13) ∧ P.base ≤ a_13) <|
  x_let (σ_11.setAI a_13 (Int32.toNatClampNeg v_4) v3) fun σ_15 =>
  x_chk (σ_15.K a0 = 12) <|
  x_some (σ_15.R 1119 a0) fun a_17 =>
  x_chk (σ_15.K a_17 = 31 ∧ x_in v_4 (σ_15.L a_17) ∧ P.base ≤ a_17) <|
  x_let (σ_15.setAI a_17 (Int32.toNatClampNeg v_4) v4) fun σ_19 =>
  x_chk (σ_19.K a0 = 12) <|
  x_some (σ_19.R 1120 a0) fun a_21 =>
  x_chk (σ_19.K a_21 = 31 ∧ x_in v_4 (σ_19.L a_21) ∧ P.base ≤ a_21) <|
  x_let (σ_19.setAI a_21 (Int32.toNatClampNeg v_4) v5) fun σ_23 =>
  x_chk (σ_23.K a0 = 12) <|
  x_some (σ_23.R 1115 a0) fun a_25 =>
  x_chk (σ_23.K a_25 = 31 ∧ x_in (σ_23.I 1140 a0) (σ_23.L a_25)) <|
  x_chk (σ_23.K a_25 = 31 ∧ x_in (σ_23.I 1140 a0) (σ_23.L a_25) ∧ P.base ≤ a_25) <|
  x_let (σ_23.setAI a_25 (Int32.toNatClampNeg (σ_23.I 1140 a0)) ((σ_23.AI a_25 (Int32.toNatClampNeg (σ_23.I 1140 a0))) + 1)) fun σ_28 =>
  some (.inl v_4, σ_28)
def dm_X12_takeNet_p57 (P : xP) (a0 : Nat) (v1 : Int32) (σ : xS) : xO Int32 :=
  some (.inl v1, σ)
def dm_X12_takeNet_p49 (P : xP) (a0 : Nat) (v1 : Int32) (σ : xS) : xO Int32 :=
  x_chk (σ.K a0 = 12) <|
  x_bind (dm_X12_fail P a0 (σ.I 1136 a0) σ) (fun _ σ_3 =>
    dm_X12_takeNet_p57 P a0 v1 σ_3
    ) (fun E_5 σ_3 =>
    some (.inr E_5, σ_3)
    )
def dm_X12_takeNet_p23 (P : xP) (a0 : Nat) (s0 : Int32) (σ : xS) : xO Int32 :=
  x_chk (σ.K a0 = 12) <|
  x_bind (dm_X12_ok P a0 σ) (fun v_1 σ_2 =>
    if v_1 = 0 then
      dm_X12_takeNet_p57 P a0 s0 σ_2
    else
      if s0 = (-1) then
        dm_X12_takeNet_p49 P a0 s0 σ_2
      else
        x_chk (σ_2.K a0 = 12) <|
        x_bind (dm_X12_netCell P a0 s0 σ_2) (fun v_8 σ_9 =>
          x_some (σ_2.R 1114 a0) fun a_11 =>
          x_chk (σ_9.K a_11 = 33 ∧ x_in v_8 (σ_9.L a_11)) <|
          if (σ_9.AI a_11 (Int32.toNatClampNeg v_8)) = 0 then
            dm_X12_takeNet_p49 P a0 s0 σ_9
          else
            dm_X12_takeNet_p57 P a0 s0 σ_9
          ) (fun E_14 σ_9 =>
          some (.inr E_14, σ_9)
          )
    ) (fun E_15 σ_2 =>
    some (.inr E_15, σ_2)
    )
def dm_X12_takeNet (P : xP) (a0 : Nat) (σ : xS) : xO Int32 :=
  x_chk (σ.K a0 = 12) <|
  x_bind (dm_X12_needName P a0 σ) (fun _ σ_2 =>
    x_chk (σ_2.K a0 = 12) <|
    x_bind (dm_X12_ok P a0 σ_2) (fun v_5 σ_6 =>
      if v_5 = 0 then
        dm_X12_takeNet_p23 P a0 (-1) σ_6
      else
        x_chk (σ_6.K a0 = 12) <|
        x_bind (dm_X12_netNamed P a0 (σ_6.I 1136 a0) σ_6) (fun v_11 σ_12 =>
          dm_X12_takeNet_p23 P a0 v_11 σ_12
          ) (fun E_14 σ_12 =>
          some (.inr E_14, σ_12)
          )
      ) (fun E_15 σ_6 =>
      some (.inr E_15, σ_6)
      )
    ) (fun E_16 σ_2 =>
    some (.inr E_16, σ_2)
    )
def dm_X12_longRef_p77 (P : xP) (a0 : Nat) (s0 : Int32) (σ : xS) : xO Int32 :=
  some (.inl s0, σ)
def dm_X12_longRef_p116 (P : xP) (a0 : Nat) (s0 : Int32) (σ : xS) : xO Int32 :=
  some (.inl s0, σ)
def dm_X12_longRef_p216 (P : xP) (a0 : Nat) (s0 : Int32) (σ : xS) : xO Int32 :=
  some (.inl s0, σ)
def dm_X12_longRef_p188 (P : xP) (a0 : Nat) (v1 : Int32) (v2 : Int32) (v3 : Int32) (v4 : Int32) (v5 : Int32) (σ : xS) : xO Int32 :=
  x_chk (σ.K a0 = 12) <|
  x_bind (dm_X12_needSign P a0 93 σ) (fun _ σ_2 =>
    x_chk (σ_2.K a0 = 12) <|
    x_bind (dm_X12_ok P a0 σ_2) (fun v_5 σ_6 =>
      if v_5 = 0 then
        dm_X12_longRef_p216 P a0 (-1) σ_6
      else
        x_chk (σ_6.K a0 = 12) <|
        x_bind (dm_X12_addRef P a0 v5 v1 v2 v3 v4 σ_6) (fun v_10 σ_11 =>
          dm_X12_longRef_p216 P a0 v_10 σ_11
          ) (fun E_14 σ_11 =>
          some (.inr E_14, σ_11)
          )
      ) (fun E_15 σ_6 =>
      some (.inr E_15, σ_6)
      )
    ) (fun E_16 σ_2 =>
    some (.inr E_16, σ_2)
    )
def dm_X12_longRef_p78 (P : xP) (a0 : Nat) (v1 : Int32) (σ : xS) : xO Int32 :=
  x_chk (σ.K a0 = 12) <|
  x_bind (dm_X12_takeNet P a0 σ) (fun v_1 σ_2 =>
    x_chk (σ_2.K a0 = 12) <|
    x_bind (dm_X12_next P a0 σ_2) (fun _ σ_6 =>
      x_chk (σ_6.K a0 = 12) <|
      x_bind (dm_X12_isSign P a0 91 σ_6) (fun v_9 σ_10 =>
        if v_9 = 0 then
          x_chk (σ_10.K a0 = 12) <|
          x_bind (dm_X12_ok P a0 σ_10) (fun v_60 σ_61 =>
            if v_60 = 0 then
              dm_X12_longRef_p116 P a0 (-1) σ_61
            else
              x_chk (σ_61.K a0 = 12) <|
              x_bind (dm_X12_addRef P a0 0 v1 v_1 0 0 σ_61) (fun v_65 σ_66 =>
                dm_X12_longRef_p116 P a0 v_65 σ_66
                ) (fun E_69 σ_66 =>
                some (.inr E_69, σ_66)
                )
            ) (fun E_70 σ_61 =>
            some (.inr E_70, σ_61)
            )
        else
          x_chk (σ_10.K a0 = 12) <|
          x_bind (dm_X12_next P a0 σ_10) (fun _ σ_15 =>
            x_chk (σ_15.K a0 = 12) <|
            x_bind (dm_X12_netCell P a0 v_1 σ_15) (fun v_19 σ_20 =>
              x_some (σ_15.R 1112 a0) fun a_22 =>
              x_chk (σ_20.K a_22 = 31 ∧ x_in v_19 (σ_20.L a_22)) <|
              x_chk (σ_20.K a0 = 12) <|
              x_bind (dm_X12_needNumber P a0 0 ((σ_20.AI a_22 (Int32.toNatClampNeg v_19)) - 1) σ_20) (fun _ σ_25 =>
                x_chk (σ_25.K a0 = 12) <|
                x_let ((σ_25.I 1138 a0)) fun v_29 =>
                x_let ((σ_25.I 1138 a0)) fun v_30 =>
                x_bind (dm_X12_next P a0 σ_25) (fun _ σ_32 =>
                  x_chk (σ_32.K a0 = 12) <|
                  x_bind (dm_X12_isSign P a0 58 σ_32) (fun v_34 σ_35 =>
                    if v_34 = 0 then
                      dm_X12_longRef_p188 P a0 v1 v_1 v_29 v_30 1 σ_35
                    else
                      x_chk (σ_35.K a0 = 12) <|
                      x_bind (dm_X12_next P a0 σ_35) (fun _ σ_40 =>
                        x_chk (σ_40.K a0 = 12) <|
                        x_bind (dm_X12_needNumber P a0 0 v_29 σ_40) (fun _ σ_44 =>
                          x_chk (σ_44.K a0 = 12) <|
                          x_let ((σ_44.I 1138 a0)) fun v_48 =>
                          x_bind (dm_X12_next P a0 σ_44) (fun _ σ_50 =>
                            dm_X12_longRef_p188 P a0 v1 v_1 v_29 v_48 2 σ_50
                            ) (fun E_52 σ_50 =>
                            some (.inr E_52, σ_50)
                            )
                          ) (fun E_53 σ_44 =>
                          some (.inr E_53, σ_44)
                          )
                        ) (fun E_54 σ_40 =>
                        some (.inr E_54, σ_40)
                        )
                    ) (fun E_55 σ_35 =>
                    some (.inr E_55, σ_35)
                    )
                  ) (fun E_56 σ_32 =>
                  some (.inr E_56, σ_32)
                  )
                ) (fun E_57 σ_25 =>
                some (.inr E_57, σ_25)
                )
              ) (fun E_58 σ_20 =>
              some (.inr E_58, σ_20)
              )
            ) (fun E_59 σ_15 =>
            some (.inr E_59, σ_15)
            )
        ) (fun E_71 σ_10 =>
        some (.inr E_71, σ_10)
        )
      ) (fun E_72 σ_6 =>
      some (.inr E_72, σ_6)
      )
    ) (fun E_73 σ_2 =>
    some (.inr E_73, σ_2)
    )
def dm_X12_longRef (P : xP) (a0 : Nat) (σ : xS) : xO Int32 :=
  x_chk (σ.K a0 = 12) <|
  x_let ((σ.I 1136 a0)) fun v_2 =>
  x_bind (dm_X12_ok P a0 σ) (fun v_3 σ_4 =>
    if v_3 = 0 then
      dm_X12_longRef_p78 P a0 v_2 σ_4
    else
      x_chk (σ_4.K a0 = 12) <|
      if (σ_4.I 1135 a0) = 2 then
        x_let ((σ_4.I 1138 a0)) fun v_9 =>
        x_bind (dm_X12_needNumber P a0 1 7 σ_4) (fun _ σ_11 =>
          x_chk (σ_11.K a0 = 12) <|
          x_bind (dm_X12_next P a0 σ_11) (fun _ σ_14 =>
            x_chk (σ_14.K a0 = 12) <|
            x_bind (dm_X12_needSign P a0 39 σ_14) (fun _ σ_18 =>
              x_chk (σ_18.K a0 = 12) <|
              x_let ((σ_18.I 1136 a0)) fun v_22 =>
              x_bind (dm_X12_takeDigits P a0 v_9 σ_18) (fun v_23 σ_24 =>
                x_chk (σ_24.K a0 = 12) <|
                x_bind (dm_X12_next P a0 σ_24) (fun _ σ_27 =>
                  x_chk (σ_27.K a0 = 12) <|
                  x_bind (dm_X12_ok P a0 σ_27) (fun v_30 σ_31 =>
                    if v_30 = 0 then
                      dm_X12_longRef_p77 P a0 (-1) σ_31
                    else
                      x_chk (σ_31.K a0 = 12) <|
                      x_bind (dm_X12_addRef P a0 3 v_2 (-1) v_22 v_9 σ_31) (fun v_35 σ_36 =>
                        dm_X12_longRef_p77 P a0 v_35 σ_36
                        ) (fun E_39 σ_36 =>
                        some (.inr E_39, σ_36)
                        )
                    ) (fun E_40 σ_31 =>
                    some (.inr E_40, σ_31)
                    )
                  ) (fun E_41 σ_27 =>
                  some (.inr E_41, σ_27)
                  )
                ) (fun E_42 σ_24 =>
                some (.inr E_42, σ_24)
                )
              ) (fun E_43 σ_18 =>
              some (.inr E_43, σ_18)
              )
            ) (fun E_44 σ_14 =>
            some (.inr E_44, σ_14)
            )
          ) (fun E_45 σ_11 =>
          some (.inr E_45, σ_11)
          )
      else
        dm_X12_longRef_p78 P a0 v_2 σ_4
    ) (fun E_46 σ_4 =>
    some (.inr E_46, σ_4)
    )
def dm_X12_shortRef_p53 (P : xP) (a0 : Nat) (s0 : Int32) (σ : xS) : xO Int32 :=
  some (.inl s0, σ)
def dm_X12_shortRef_p92 (P : xP) (a0 : Nat) (s0 : Int32) (σ : xS) : xO Int32 :=
  some (.inl s0, σ)
def dm_X12_shortRef_p186 (P : xP) (a0 : Nat) (s0 : Int32) (σ : xS) : xO Int32 :=
  some (.inl s0, σ)
def dm_X12_shortRef_p164 (P : xP) (a0 : Nat) (v1 : Int32) (v2 : Int32) (v3 : Int32) (v4 : Int32) (v5 : Int32) (σ : xS) : xO Int32 :=
  x_chk (σ.K a0 = 12) <|
  x_bind (dm_X12_ok P a0 σ) (fun v_1 σ_2 =>
    if v_1 = 0 then
      dm_X12_shortRef_p186 P a0 (-1) σ_2
    else
      x_chk (σ_2.K a0 = 12) <|
      x_bind (dm_X12_addRef P a0 v5 v1 v2 v3 v4 σ_2) (fun v_6 σ_7 =>
        dm_X12_shortRef_p186 P a0 v_6 σ_7
        ) (fun E_10 σ_7 =>
        some (.inr E_10, σ_7)
        )
    ) (fun E_11 σ_2 =>
    some (.inr E_11, σ_2)
    )
def dm_X12_shortRef (P : xP) (a0 : Nat) (σ : xS) : xO Int32 :=
  x_chk (σ.K a0 = 12) <|
  x_let ((σ.I 1136 a0)) fun v_2 =>
  x_bind (dm_X12_isSign P a0 39 σ) (fun v_3 σ_4 =>
    if v_3 = 0 then
      x_chk (σ_4.K a0 = 12) <|
      x_bind (dm_X12_takeNet P a0 σ_4) (fun v_7 σ_8 =>
        x_chk (σ_8.K a0 = 12) <|
        x_bind (dm_X12_next P a0 σ_8) (fun _ σ_12 =>
          x_chk (σ_12.K a0 = 12) <|
          x_bind (dm_X12_isSign P a0 46 σ_12) (fun v_15 σ_16 =>
            if v_15 = 0 then
              x_chk (σ_16.K a0 = 12) <|
              x_bind (dm_X12_ok P a0 σ_16) (fun v_66 σ_67 =>
                if v_66 = 0 then
                  dm_X12_shortRef_p92 P a0 (-1) σ_67
                else
                  x_chk (σ_67.K a0 = 12) <|
                  x_bind (dm_X12_addRef P a0 0 v_2 v_7 0 0 σ_67) (fun v_71 σ_72 =>
                    dm_X12_shortRef_p92 P a0 v_71 σ_72
                    ) (fun E_75 σ_72 =>
                    some (.inr E_75, σ_72)
                    )
                ) (fun E_76 σ_67 =>
                some (.inr E_76, σ_67)
                )
            else
              x_chk (σ_16.K a0 = 12) <|
              x_bind (dm_X12_next P a0 σ_16) (fun _ σ_21 =>
                x_chk (σ_21.K a0 = 12) <|
                x_bind (dm_X12_netCell P a0 v_7 σ_21) (fun v_25 σ_26 =>
                  x_some (σ_21.R 1112 a0) fun a_28 =>
                  x_chk (σ_26.K a_28 = 31 ∧ x_in v_25 (σ_26.L a_28)) <|
                  x_chk (σ_26.K a0 = 12) <|
                  x_bind (dm_X12_needNumber P a0 0 ((σ_26.AI a_28 (Int32.toNatClampNeg v_25)) - 1) σ_26) (fun _ σ_31 =>
                    x_chk (σ_31.K a0 = 12) <|
                    x_let ((σ_31.I 1138 a0)) fun v_35 =>
                    x_let ((σ_31.I 1138 a0)) fun v_36 =>
                    x_bind (dm_X12_next P a0 σ_31) (fun _ σ_38 =>
                      x_chk (σ_38.K a0 = 12) <|
                      x_bind (dm_X12_isSign P a0 46 σ_38) (fun v_40 σ_41 =>
                        if v_40 = 0 then
                          dm_X12_shortRef_p164 P a0 v_2 v_7 v_35 v_36 1 σ_41
                        else
                          x_chk (σ_41.K a0 = 12) <|
                          x_bind (dm_X12_next P a0 σ_41) (fun _ σ_46 =>
                            x_chk (σ_46.K a0 = 12) <|
                            x_bind (dm_X12_needNumber P a0 0 v_35 σ_46) (fun _ σ_50 =>
                              x_chk (σ_50.K a0 = 12) <|
                              x_let ((σ_50.I 1138 a0)) fun v_54 =>
                              x_bind (dm_X12_next P a0 σ_50) (fun _ σ_56 =>
                                dm_X12_shortRef_p164 P a0 v_2 v_7 v_35 v_54 2 σ_56
                                ) (fun E_58 σ_56 =>
                                some (.inr E_58, σ_56)
                                )
                              ) (fun E_59 σ_50 =>
                              some (.inr E_59, σ_50)
                              )
                            ) (fun E_60 σ_46 =>
                            some (.inr E_60, σ_46)
                            )
                        ) (fun E_61 σ_41 =>
                        some (.inr E_61, σ_41)
                        )
                      ) (fun E_62 σ_38 =>
                      some (.inr E_62, σ_38)
                      )
                    ) (fun E_63 σ_31 =>
                    some (.inr E_63, σ_31)
                    )
                  ) (fun E_64 σ_26 =>
                  some (.inr E_64, σ_26)
                  )
                ) (fun E_65 σ_21 =>
                some (.inr E_65, σ_21)
                )
            ) (fun E_77 σ_16 =>
            some (.inr E_77, σ_16)
            )
          ) (fun E_78 σ_12 =>
          some (.inr E_78, σ_12)
          )
        ) (fun E_79 σ_8 =>
        some (.inr E_79, σ_8)
        )
    else
      x_chk (σ_4.K a0 = 12) <|
      x_bind (dm_X12_next P a0 σ_4) (fun _ σ_81 =>
        x_chk (σ_81.K a0 = 12) <|
        x_let ((σ_81.I 1136 a0)) fun v_85 =>
        x_bind (dm_X12_takeDigits P a0 0 σ_81) (fun v_86 σ_87 =>
          x_chk (σ_87.K a0 = 12) <|
          x_bind (dm_X12_next P a0 σ_87) (fun _ σ_90 =>
            x_chk (σ_90.K a0 = 12) <|
            x_bind (dm_X12_ok P a0 σ_90) (fun v_93 σ_94 =>
              if v_93 = 0 then
                dm_X12_shortRef_p53 P a0 (-1) σ_94
              else
                x_chk (σ_94.K a0 = 12) <|
                x_bind (dm_X12_addRef P a0 3 v_2 (-1) v_85 v_86 σ_94) (fun v_98 σ_99 =>
                  dm_X12_shortRef_p53 P a0 v_98 σ_99
                  ) (fun E_102 σ_99 =>
                  some (.inr E_102, σ_99)
                  )
              ) (fun E_103 σ_94 =>
              some (.inr E_103, σ_94)
              )
            ) (fun E_104 σ_90 =>
            some (.inr E_104, σ_90)
            )
          ) (fun E_105 σ_87 =>
          some (.inr E_105, σ_87)
          )
        ) (fun E_106 σ_81 =>
        some (.inr E_106, σ_81)
        )
    ) (fun E_107 σ_4 =>
    some (.inr E_107, σ_4)
    )
def dm_X12_readAssign_p140 (P : xP) (a0 : Nat) (σ : xS) : xO Unit :=
  some (.inl (), σ)
def dm_X12_readAssign_p67 (P : xP) (a0 : Nat) (v2 : Int32) (s0 : Int32) (σ : xS) : xO Unit :=
  x_chk (σ.K a0 = 12) <|
  x_bind (dm_X12_needSign P a0 59 σ) (fun _ σ_2 =>
    x_chk (σ_2.K a0 = 12) <|
    x_bind (dm_X12_ok P a0 σ_2) (fun v_5 σ_6 =>
      if v_5 = 0 then
        dm_X12_readAssign_p140 P a0 σ_6
      else
        x_chk (σ_6.K a0 = 12) <|
        x_bind (dm_X12_mod P a0 σ_6) (fun v_11 σ_12 =>
          x_chk (σ_12.K a0 = 12) <|
          x_bind (dm_X12_mod P a0 σ_12) (fun v_15 σ_16 =>
            x_some (σ_12.R 1121 a0) fun a_18 =>
            x_chk (σ_16.K a_18 = 31 ∧ x_in v_15 (σ_16.L a_18)) <|
            x_some (σ_6.R 1122 a0) fun a_20 =>
            x_chk (σ_16.K a_20 = 31 ∧ x_in ((8 * v_11) + (σ_16.AI a_18 (Int32.toNatClampNeg v_15))) (σ_16.L a_20) ∧ P.base ≤ a_20) <|
            x_let (σ_16.setAI a_20 (Int32.toNatClampNeg ((8 * v_11) + (σ_16.AI a_18 (Int32.toNatClampNeg v_15)))) v2) fun σ_22 =>
            x_chk (σ_22.K a0 = 12) <|
            x_bind (dm_X12_mod P a0 σ_22) (fun v_24 σ_25 =>
              x_chk (σ_25.K a0 = 12) <|
              x_bind (dm_X12_mod P a0 σ_25) (fun v_28 σ_29 =>
                x_some (σ_25.R 1121 a0) fun a_31 =>
                x_chk (σ_29.K a_31 = 31 ∧ x_in v_28 (σ_29.L a_31)) <|
                x_some (σ_22.R 1123 a0) fun a_33 =>
                x_chk (σ_29.K a_33 = 31 ∧ x_in ((8 * v_24) + (σ_29.AI a_31 (Int32.toNatClampNeg v_28))) (σ_29.L a_33) ∧ P.base ≤ a_33) <|
                x_let (σ_29.setAI a_33 (Int32.toNatClampNeg ((8 * v_24) + (σ_29.AI a_31 (Int32.toNatClampNeg v_28)))) s0) fun σ_35 =>
                x_chk (σ_35.K a0 = 12) <|
                x_bind (dm_X12_mod P a0 σ_35) (fun v_37 σ_38 =>
                  x_some (σ_35.R 1121 a0) fun a_40 =>
                  x_chk (σ_38.K a_40 = 31 ∧ x_in v_37 (σ_38.L a_40)) <|
                  x_chk (σ_38.K a_40 = 31 ∧ x_in v_37 (σ_38.L a_40) ∧ P.base ≤ a_40) <|
                  x_let (σ_38.setAI a_40 (Int32.toNatClampNeg v_37) ((σ_38.AI a_40 (Int32.toNatClampNeg v_37)) + 1)) fun σ_43 =>
                  dm_X12_readAssign_p140 P a0 σ_43
                  ) (fun E_44 σ_38 =>
                  some (.inr E_44, σ_38)
                  )
                ) (fun E_45 σ_29 =>
                some (.inr E_45, σ_29)
                )
              ) (fun E_46 σ_25 =>
              some (.inr E_46, σ_25)
              )
            ) (fun E_47 σ_16 =>
            some (.inr E_47, σ_16)
            )
          ) (fun E_48 σ_12 =>
          some (.inr E_48, σ_12)
          )
      ) (fun E_49 σ_6 =>
      some (.inr E_49, σ_6)
      )
    ) (fun E_50 σ_2 =>
    some (.inr E_50, σ_2)
    )
def dm_X12_readAssign_p52 (P : xP) (a0 : Nat) (v1 : Int32) (v2 : Int32) (σ : xS) : xO Unit :=
  if v1 = 0 then
    x_chk (σ.K a0 = 12) <|
    x_bind (dm_X12_shortRef P a0 σ) (fun v_2 σ_3 =>
      dm_X12_readAssign_p67 P a0 v2 v_2 σ_3
      ) (fun E_6 σ_3 =>
      some (.inr E_6, σ_3)
      )
  else
    x_chk (σ.K a0 = 12) <|
    x_bind (dm_X12_longRef P a0 σ) (fun v_7 σ_8 =>
      dm_X12_readAssign_p67 P a0 v2 v_7 σ_8
      ) (fun E_11 σ_8 =>
      some (.inr E_11, σ_8)
      )
def dm_X12_readAssign_p41 (P : xP) (a0 : Nat) (v1 : Int32) (s0 : Int32) (σ : xS) : xO Unit :=
  if v1 = 0 then
    dm_X12_readAssign_p52 P a0 v1 s0 σ
  else
    x_chk (σ.K a0 = 12) <|
    x_bind (dm_X12_needSign P a0 61 σ) (fun _ σ_3 =>
      dm_X12_readAssign_p52 P a0 v1 s0 σ_3
      ) (fun E_6 σ_3 =>
      some (.inr E_6, σ_3)
      )
def dm_X12_readAssign_p22 (P : xP) (a0 : Nat) (v1 : Int32) (σ : xS) : xO Unit :=
  x_chk (σ.K a0 = 12) <|
  x_bind (dm_X12_next P a0 σ) (fun _ σ_2 =>
    if v1 = 0 then
      x_chk (σ_2.K a0 = 12) <|
      x_bind (dm_X12_shortRef P a0 σ_2) (fun v_6 σ_7 =>
        dm_X12_readAssign_p41 P a0 v1 v_6 σ_7
        ) (fun E_10 σ_7 =>
        some (.inr E_10, σ_7)
        )
    else
      x_chk (σ_2.K a0 = 12) <|
      x_bind (dm_X12_longRef P a0 σ_2) (fun v_11 σ_12 =>
        dm_X12_readAssign_p41 P a0 v1 v_11 σ_12
        ) (fun E_15 σ_12 =>
        some (.inr E_15, σ_12)
        )
    ) (fun E_16 σ_2 =>
    some (.inr E_16, σ_2)
    )
def dm_X12_readAssign (P : xP) (a0 : Nat) (v1 : Int32) (σ : xS) : xO Unit :=
  x_chk (σ.K a0 = 12) <|
  x_bind (dm_X12_mod P a0 σ) (fun v_2 σ_3 =>
    x_some (σ.R 1121 a0) fun a_5 =>
    x_chk (σ_3.K a_5 = 31 ∧ x_in v_2 (σ_3.L a_5)) <|
    if (σ_3.AI a_5 (Int32.toNatClampNeg v_2)) = 8 then
      x_chk (σ_3.K a0 = 12) <|
      x_bind (dm_X12_fail P a0 (σ_3.I 1136 a0) σ_3) (fun _ σ_10 =>
        dm_X12_readAssign_p22 P a0 v1 σ_10
        ) (fun E_12 σ_10 =>
        some (.inr E_12, σ_10)
        )
    else
      dm_X12_readAssign_p22 P a0 v1 σ_3
    ) (fun E_13 σ_3 =>
    some (.inr E_13, σ_3)
    )
def dm_X12_insCell (P : xP) (a0 : Nat) (v1 : Int32) (σ : xS) : xO Int32 :=
  x_chk (σ.K a0 = 12) <|
  x_bind (dm_X12_mod P a0 σ) (fun v_1 σ_2 =>
    some (.inl ((12 * v_1) + v1), σ_2)
    ) (fun E_5 σ_2 =>
    some (.inr E_5, σ_2)
    )
def dm_X12_takeInstance_p57 (P : xP) (k16 : Int32 → Int32 → Int32 → xS → xO Int32) (a0 : Nat) (v1 : Int32) (v2 : Int32) (v3 : Int32) (σ : xS) : xO Int32 :=
  x_let (v3 + 1) fun v_1 =>
  k16 v1 v2 v_1 σ
def dm_X12_takeInstance_p84 (P : xP) (a0 : Nat) (v1 : Int32) (v2 : Int32) (σ : xS) : xO Int32 :=
  x_chk (σ.K a0 = 12) <|
  x_bind (dm_X12_ok P a0 σ) (fun v_1 σ_2 =>
    if v_1 = 0 then
      some (.inl (-1), σ_2)
    else
      x_chk (σ_2.K a0 = 12) <|
      x_bind (dm_X12_insCell P a0 v2 σ_2) (fun v_7 σ_8 =>
        x_some (σ_2.R 1125 a0) fun a_10 =>
        x_chk (σ_8.K a_10 = 31 ∧ x_in v_7 (σ_8.L a_10) ∧ P.base ≤ a_10) <|
        x_let (σ_8.setAI a_10 (Int32.toNatClampNeg v_7) v1) fun σ_12 =>
        x_chk (σ_12.K a0 = 12) <|
        x_bind (dm_X12_insCell P a0 v2 σ_12) (fun v_14 σ_15 =>
          x_chk (σ_15.K a0 = 12) <|
          x_some (σ_12.R 1126 a0) fun a_18 =>
          x_chk (σ_15.K a_18 = 31 ∧ x_in v_14 (σ_15.L a_18) ∧ P.base ≤ a_18) <|
          x_let (σ_15.setAI a_18 (Int32.toNatClampNeg v_14) (σ_15.I 1136 a0)) fun σ_20 =>
          x_chk (σ_20.K a0 = 12) <|
          x_bind (dm_X12_insCell P a0 v2 σ_20) (fun v_22 σ_23 =>
            x_some (σ_20.R 1127 a0) fun a_25 =>
            x_chk (σ_23.K a_25 = 33 ∧ x_in v_22 (σ_23.L a_25) ∧ P.base ≤ a_25 ∧ x_bool 0) <|
            x_let (σ_23.setAI a_25 (Int32.toNatClampNeg v_22) 0) fun σ_27 =>
            x_chk (σ_27.K a0 = 12) <|
            x_bind (dm_X12_insCell P a0 v2 σ_27) (fun v_29 σ_30 =>
              x_some (σ_27.R 1129 a0) fun a_32 =>
              x_chk (σ_30.K a_32 = 31 ∧ x_in v_29 (σ_30.L a_32) ∧ P.base ≤ a_32) <|
              x_let (σ_30.setAI a_32 (Int32.toNatClampNeg v_29) 0) fun σ_34 =>
              x_chk (σ_34.K a0 = 12) <|
              x_bind (dm_X12_mod P a0 σ_34) (fun v_36 σ_37 =>
                x_some (σ_34.R 1124 a0) fun a_39 =>
                x_chk (σ_37.K a_39 = 31 ∧ x_in v_36 (σ_37.L a_39)) <|
                x_chk (σ_37.K a_39 = 31 ∧ x_in v_36 (σ_37.L a_39) ∧ P.base ≤ a_39) <|
                x_let (σ_37.setAI a_39 (Int32.toNatClampNeg v_36) ((σ_37.AI a_39 (Int32.toNatClampNeg v_36)) + 1)) fun σ_42 =>
                x_chk (σ_42.K a0 = 12) <|
                x_bind (dm_X12_next P a0 σ_42) (fun _ σ_44 =>
                  some (.inl v2, σ_44)
                  ) (fun E_47 σ_44 =>
                  some (.inr E_47, σ_44)
                  )
                ) (fun E_48 σ_37 =>
                some (.inr E_48, σ_37)
                )
              ) (fun E_49 σ_30 =>
              some (.inr E_49, σ_30)
              )
            ) (fun E_50 σ_23 =>
            some (.inr E_50, σ_23)
            )
          ) (fun E_51 σ_15 =>
          some (.inr E_51, σ_15)
          )
        ) (fun E_52 σ_8 =>
        some (.inr E_52, σ_8)
        )
    ) (fun E_53 σ_2 =>
    some (.inr E_53, σ_2)
    )
def dm_X12_takeInstance_p63 (P : xP) (a0 : Nat) (v1 : Int32) (v2 : Int32) (σ : xS) : xO Int32 :=
  x_chk (σ.K a0 = 12) <|
  x_bind (dm_X12_ok P a0 σ) (fun v_1 σ_2 =>
    if v_1 = 0 then
      dm_X12_takeInstance_p84 P a0 v1 v2 σ_2
    else
      if v2 = 12 then
        x_chk (σ_2.K a0 = 12) <|
        x_bind (dm_X12_fail P a0 (σ_2.I 1136 a0) σ_2) (fun _ σ_9 =>
          dm_X12_takeInstance_p84 P a0 v1 v2 σ_9
          ) (fun E_11 σ_9 =>
          some (.inr E_11, σ_9)
          )
      else
        dm_X12_takeInstance_p84 P a0 v1 v2 σ_2
    ) (fun E_12 σ_2 =>
    some (.inr E_12, σ_2)
    )
def dm_X12_takeInstance_L16 (P : xP) (a0 : Nat) : Nat → Int32 → Int32 → Int32 → xS → xO Int32
  | 0, _, _, _, _ => none
  | n + 1, v1, v2, v3, σ =>
    if v2 ≤ v3 then
      dm_X12_takeInstance_p63 P a0 v1 v2 σ
    else
      x_chk (σ.K a0 = 12) <|
      x_bind (dm_X12_ok P a0 σ) (fun v_2 σ_3 =>
        if v_2 = 0 then
          dm_X12_takeInstance_p63 P a0 v1 v2 σ_3
        else
          x_chk (σ_3.K a0 = 12) <|
          x_bind (dm_X12_insCell P a0 v3 σ_3) (fun v_8 σ_9 =>
            x_some (σ_3.R 1126 a0) fun a_11 =>
            x_chk (σ_9.K a_11 = 31 ∧ x_in v_8 (σ_9.L a_11)) <|
            x_chk (σ_9.K a0 = 12) <|
            x_bind (dm_X12_areSame P a0 (σ_9.AI a_11 (Int32.toNatClampNeg v_8)) (σ_9.I 1136 a0) σ_9) (fun v_14 σ_15 =>
              if v_14 = 0 then
                dm_X12_takeInstance_p57 P (dm_X12_takeInstance_L16 P a0 n) a0 v1 v2 v3 σ_15
              else
                x_chk (σ_15.K a0 = 12) <|
                x_bind (dm_X12_fail P a0 (σ_15.I 1136 a0) σ_15) (fun _ σ_20 =>
                  dm_X12_takeInstance_p57 P (dm_X12_takeInstance_L16 P a0 n) a0 v1 v2 v3 σ_20
                  ) (fun E_22 σ_20 =>
                  some (.inr E_22, σ_20)
                  )
              ) (fun E_23 σ_15 =>
              some (.inr E_23, σ_15)
              )
            ) (fun E_24 σ_9 =>
            some (.inr E_24, σ_9)
            )
        ) (fun E_25 σ_3 =>
        some (.inr E_25, σ_3)
        )
def dm_X12_takeInstance (P : xP) (a0 : Nat) (v1 : Int32) (σ : xS) : xO Int32 :=
  x_chk (σ.K a0 = 12) <|
  x_bind (dm_X12_needName P a0 σ) (fun _ σ_2 =>
    x_chk (σ_2.K a0 = 12) <|
    x_bind (dm_X12_mod P a0 σ_2) (fun v_6 σ_7 =>
      x_some (σ_2.R 1124 a0) fun a_9 =>
      x_chk (σ_7.K a_9 = 31 ∧ x_in v_6 (σ_7.L a_9)) <|
      x_let ((σ_7.AI a_9 (Int32.toNatClampNeg v_6))) fun v_11 =>
      dm_X12_takeInstance_L16 P a0 P.N v1 v_11 0 σ_7
      ) (fun E_12 σ_7 =>
      some (.inr E_12, σ_7)
      )
    ) (fun E_13 σ_2 =>
    some (.inr E_13, σ_2)
    )
def dm_X12_addLink_p32 (P : xP) (a0 : Nat) (v2 : Int32) (σ : xS) : xO Int32 :=
  x_chk (σ.K a0 = 12) <|
  x_bind (dm_X12_ok P a0 σ) (fun v_1 σ_2 =>
    if v_1 = 0 then
      some (.inl (-1), σ_2)
    else
      x_chk (σ_2.K a0 = 12) <|
      x_some (σ_2.R 1129 a0) fun a_7 =>
      x_chk (σ_2.K a_7 = 31 ∧ x_in v2 (σ_2.L a_7)) <|
      x_let (((16 * v2) + (σ_2.AI a_7 (Int32.toNatClampNeg v2)))) fun v_9 =>
      x_some (σ_2.R 1130 a0) fun a_10 =>
      x_chk (σ_2.K a_10 = 31 ∧ x_in v_9 (σ_2.L a_10) ∧ P.base ≤ a_10) <|
      x_let (σ_2.setAI a_10 (Int32.toNatClampNeg v_9) (-1)) fun σ_12 =>
      x_chk (σ_12.K a0 = 12) <|
      x_some (σ_12.R 1131 a0) fun a_14 =>
      x_chk (σ_12.K a_14 = 31 ∧ x_in v_9 (σ_12.L a_14) ∧ P.base ≤ a_14) <|
      x_let (σ_12.setAI a_14 (Int32.toNatClampNeg v_9) (-1)) fun σ_16 =>
      x_chk (σ_16.K a0 = 12) <|
      x_some (σ_16.R 1132 a0) fun a_18 =>
      x_chk (σ_16.K a_18 = 31 ∧ x_in v_9 (σ_16.L a_18) ∧ P.base ≤ a_18) <|
      x_let (σ_16.setAI a_18 (Int32.toNatClampNeg v_9) (σ_16.I 1136 a0)) fun σ_20 =>
      x_chk (σ_20.K a0 = 12) <|
      x_some (σ_20.R 1129 a0) fun a_22 =>
      x_chk (σ_20.K a_22 = 31 ∧ x_in v2 (σ_20.L a_22)) <|
      x_chk (σ_20.K a_22 = 31 ∧ x_in v2 (σ_20.L a_22) ∧ P.base ≤ a_22) <|
      x_let (σ_20.setAI a_22 (Int32.toNatClampNeg v2) ((σ_20.AI a_22 (Int32.toNatClampNeg v2)) + 1)) fun σ_25 =>
      some (.inl v_9, σ_25)
    ) (fun E_26 σ_2 =>
    some (.inr E_26, σ_2)
    )
def dm_X12_addLink (P : xP) (a0 : Nat) (v1 : Int32) (σ : xS) : xO Int32 :=
  x_chk (σ.K a0 = 12) <|
  x_bind (dm_X12_insCell P a0 v1 σ) (fun v_1 σ_2 =>
    x_chk (σ_2.K a0 = 12) <|
    x_bind (dm_X12_ok P a0 σ_2) (fun v_5 σ_6 =>
      if v_5 = 0 then
        dm_X12_addLink_p32 P a0 v_1 σ_6
      else
        x_chk (σ_6.K a0 = 12) <|
        x_some (σ_6.R 1129 a0) fun a_11 =>
        x_chk (σ_6.K a_11 = 31 ∧ x_in v_1 (σ_6.L a_11)) <|
        if (σ_6.AI a_11 (Int32.toNatClampNeg v_1)) = 16 then
          x_bind (dm_X12_fail P a0 (σ_6.I 1136 a0) σ_6) (fun _ σ_15 =>
            dm_X12_addLink_p32 P a0 v_1 σ_15
            ) (fun E_17 σ_15 =>
            some (.inr E_17, σ_15)
            )
        else
          dm_X12_addLink_p32 P a0 v_1 σ_6
      ) (fun E_18 σ_6 =>
      some (.inr E_18, σ_6)
      )
    ) (fun E_19 σ_2 =>
    some (.inr E_19, σ_2)
    )
def dm_X12_takeNamed_p75 (P : xP) (k18 : Int32 → Int32 → Int32 → xS → xO Unit) (a0 : Nat) (v1 : Int32) (v2 : Int32) (v3 : Int32) (σ : xS) : xO Unit :=
  x_let (v3 + 1) fun v_1 =>
  k18 v1 v2 v_1 σ
def dm_X12_takeNamed_p149 (P : xP) (a0 : Nat) (σ : xS) : xO Unit :=
  some (.inl (), σ)
def dm_X12_takeNamed_p121 (P : xP) (a0 : Nat) (v2 : Int32) (v3 : Int32) (v4 : Int32) (σ : xS) : xO Unit :=
  x_chk (σ.K a0 = 12) <|
  x_bind (dm_X12_needSign P a0 41 σ) (fun _ σ_2 =>
    x_chk (σ_2.K a0 = 12) <|
    x_bind (dm_X12_ok P a0 σ_2) (fun v_5 σ_6 =>
      if v_5 = 0 then
        dm_X12_takeNamed_p149 P a0 σ_6
      else
        x_chk (σ_6.K a0 = 12) <|
        x_some (σ_6.R 1131 a0) fun a_11 =>
        x_chk (σ_6.K a_11 = 31 ∧ x_in v2 (σ_6.L a_11) ∧ P.base ≤ a_11) <|
        x_let (σ_6.setAI a_11 (Int32.toNatClampNeg v2) v3) fun σ_13 =>
        x_chk (σ_13.K a0 = 12) <|
        x_some (σ_13.R 1130 a0) fun a_15 =>
        x_chk (σ_13.K a_15 = 31 ∧ x_in v2 (σ_13.L a_15) ∧ P.base ≤ a_15) <|
        x_let (σ_13.setAI a_15 (Int32.toNatClampNeg v2) v4) fun σ_17 =>
        dm_X12_takeNamed_p149 P a0 σ_17
      ) (fun E_18 σ_6 =>
      some (.inr E_18, σ_6)
      )
    ) (fun E_19 σ_2 =>
    some (.inr E_19, σ_2)
    )
def dm_X12_takeNamed_p81 (P : xP) (a0 : Nat) (v2 : Int32) (σ : xS) : xO Unit :=
  x_chk (σ.K a0 = 12) <|
  x_let ((σ.I 1136 a0)) fun v_2 =>
  x_bind (dm_X12_next P a0 σ) (fun _ σ_4 =>
    x_chk (σ_4.K a0 = 12) <|
    x_bind (dm_X12_needSign P a0 40 σ_4) (fun _ σ_7 =>
      x_chk (σ_7.K a0 = 12) <|
      x_bind (dm_X12_ok P a0 σ_7) (fun v_10 σ_11 =>
        if v_10 = 0 then
          dm_X12_takeNamed_p121 P a0 v2 v_2 (-1) σ_11
        else
          x_chk (σ_11.K a0 = 12) <|
          x_bind (dm_X12_isSign P a0 41 σ_11) (fun v_15 σ_16 =>
            if v_15 = 0 then
              x_chk (σ_16.K a0 = 12) <|
              x_bind (dm_X12_longRef P a0 σ_16) (fun v_20 σ_21 =>
                dm_X12_takeNamed_p121 P a0 v2 v_2 v_20 σ_21
                ) (fun E_24 σ_21 =>
                some (.inr E_24, σ_21)
                )
            else
              dm_X12_takeNamed_p121 P a0 v2 v_2 (-1) σ_16
            ) (fun E_25 σ_16 =>
            some (.inr E_25, σ_16)
            )
        ) (fun E_26 σ_11 =>
        some (.inr E_26, σ_11)
        )
      ) (fun E_27 σ_7 =>
      some (.inr E_27, σ_7)
      )
    ) (fun E_28 σ_4 =>
    some (.inr E_28, σ_4)
    )
def dm_X12_takeNamed_L18 (P : xP) (a0 : Nat) : Nat → Int32 → Int32 → Int32 → xS → xO Unit
  | 0, _, _, _, _ => none
  | n + 1, v1, v2, v3, σ =>
    x_chk (σ.K a0 = 12) <|
    x_bind (dm_X12_ok P a0 σ) (fun v_1 σ_2 =>
      if v_1 = 0 then
        dm_X12_takeNamed_p81 P a0 v2 σ_2
      else
        x_chk (σ_2.K a0 = 12) <|
        x_bind (dm_X12_insCell P a0 v1 σ_2) (fun v_7 σ_8 =>
          x_some (σ_2.R 1129 a0) fun a_10 =>
          x_chk (σ_8.K a_10 = 31 ∧ x_in v_7 (σ_8.L a_10)) <|
          if ((σ_8.AI a_10 (Int32.toNatClampNeg v_7)) - 1) ≤ v3 then
            dm_X12_takeNamed_p81 P a0 v2 σ_8
          else
            x_chk (σ_8.K a0 = 12) <|
            x_bind (dm_X12_insCell P a0 v1 σ_8) (fun v_14 σ_15 =>
              x_some (σ_8.R 1131 a0) fun a_17 =>
              x_chk (σ_15.K a_17 = 31 ∧ x_in ((16 * v_14) + v3) (σ_15.L a_17)) <|
              x_chk (σ_15.K a0 = 12) <|
              x_bind (dm_X12_areSame P a0 (σ_15.AI a_17 (Int32.toNatClampNeg ((16 * v_14) + v3))) (σ_15.I 1136 a0) σ_15) (fun v_20 σ_21 =>
                if v_20 = 0 then
                  dm_X12_takeNamed_p75 P (dm_X12_takeNamed_L18 P a0 n) a0 v1 v2 v3 σ_21
                else
                  x_chk (σ_21.K a0 = 12) <|
                  x_bind (dm_X12_fail P a0 (σ_21.I 1136 a0) σ_21) (fun _ σ_26 =>
                    dm_X12_takeNamed_p75 P (dm_X12_takeNamed_L18 P a0 n) a0 v1 v2 v3 σ_26
                    ) (fun E_28 σ_26 =>
                    some (.inr E_28, σ_26)
                    )
                ) (fun E_29 σ_21 =>
                some (.inr E_29, σ_21)
                )
              ) (fun E_30 σ_15 =>
              some (.inr E_30, σ_15)
              )
          ) (fun E_31 σ_8 =>
          some (.inr E_31, σ_8)
          )
      ) (fun E_32 σ_2 =>
      some (.inr E_32, σ_2)
      )
def dm_X12_takeNamed (P : xP) (a0 : Nat) (v1 : Int32) (σ : xS) : xO Unit :=
  x_chk (σ.K a0 = 12) <|
  x_bind (dm_X12_addLink P a0 v1 σ) (fun v_1 σ_2 =>
    x_chk (σ_2.K a0 = 12) <|
    x_bind (dm_X12_needSign P a0 46 σ_2) (fun _ σ_6 =>
      x_chk (σ_6.K a0 = 12) <|
      x_bind (dm_X12_needName P a0 σ_6) (fun _ σ_10 =>
        dm_X12_takeNamed_L18 P a0 P.N v1 v_1 0 σ_10
        ) (fun E_13 σ_10 =>
        some (.inr E_13, σ_10)
        )
      ) (fun E_14 σ_6 =>
      some (.inr E_14, σ_6)
      )
    ) (fun E_15 σ_2 =>
    some (.inr E_15, σ_2)
    )
def dm_X12_takeOrdered_p63 (P : xP) (a0 : Nat) (σ : xS) : xO Unit :=
  some (.inl (), σ)
def dm_X12_takeOrdered_p46 (P : xP) (a0 : Nat) (v3 : Int32) (s0 : Int32) (σ : xS) : xO Unit :=
  x_chk (σ.K a0 = 12) <|
  x_bind (dm_X12_ok P a0 σ) (fun v_1 σ_2 =>
    if v_1 = 0 then
      dm_X12_takeOrdered_p63 P a0 σ_2
    else
      x_chk (σ_2.K a0 = 12) <|
      x_some (σ_2.R 1130 a0) fun a_7 =>
      x_chk (σ_2.K a_7 = 31 ∧ x_in v3 (σ_2.L a_7) ∧ P.base ≤ a_7) <|
      x_let (σ_2.setAI a_7 (Int32.toNatClampNeg v3) s0) fun σ_9 =>
      dm_X12_takeOrdered_p63 P a0 σ_9
    ) (fun E_10 σ_2 =>
    some (.inr E_10, σ_2)
    )
def dm_X12_takeOrdered (P : xP) (a0 : Nat) (v1 : Int32) (v2 : Int32) (σ : xS) : xO Unit :=
  x_chk (σ.K a0 = 12) <|
  x_bind (dm_X12_addLink P a0 v1 σ) (fun v_1 σ_2 =>
    x_chk (σ_2.K a0 = 12) <|
    x_bind (dm_X12_isSign P a0 45 σ_2) (fun v_5 σ_6 =>
      if v_5 = 0 then
        x_chk (σ_6.K a0 = 12) <|
        x_bind (dm_X12_ok P a0 σ_6) (fun v_10 σ_11 =>
          if v_10 = 0 then
            dm_X12_takeOrdered_p46 P a0 v_1 (-1) σ_11
          else
            if v2 = 0 then
              x_chk (σ_11.K a0 = 12) <|
              x_bind (dm_X12_shortRef P a0 σ_11) (fun v_16 σ_17 =>
                dm_X12_takeOrdered_p46 P a0 v_1 v_16 σ_17
                ) (fun E_20 σ_17 =>
                some (.inr E_20, σ_17)
                )
            else
              x_chk (σ_11.K a0 = 12) <|
              x_bind (dm_X12_longRef P a0 σ_11) (fun v_21 σ_22 =>
                dm_X12_takeOrdered_p46 P a0 v_1 v_21 σ_22
                ) (fun E_25 σ_22 =>
                some (.inr E_25, σ_22)
                )
          ) (fun E_26 σ_11 =>
          some (.inr E_26, σ_11)
          )
      else
        x_chk (σ_6.K a0 = 12) <|
        x_bind (dm_X12_next P a0 σ_6) (fun _ σ_28 =>
          some (.inl (), σ_28)
          ) (fun E_31 σ_28 =>
          some (.inr E_31, σ_28)
          )
      ) (fun E_32 σ_6 =>
      some (.inr E_32, σ_6)
      )
    ) (fun E_33 σ_2 =>
    some (.inr E_33, σ_2)
    )
def dm_X12_longInstance_p103 (P : xP) (k73 : Int32 → Int32 → Int32 → xS → xO Unit) (a0 : Nat) (v2 : Int32) (v3 : Int32) (σ : xS) : xO Unit :=
  x_chk (σ.K a0 = 12) <|
  x_bind (dm_X12_isSign P a0 44 σ) (fun v_1 σ_2 =>
    if v_1 = 0 then
      k73 v2 v3 v_1 σ_2
    else
      x_chk (σ_2.K a0 = 12) <|
      x_bind (dm_X12_next P a0 σ_2) (fun _ σ_7 =>
        k73 v2 v3 v_1 σ_7
        ) (fun E_10 σ_7 =>
        some (.inr E_10, σ_7)
        )
    ) (fun E_11 σ_2 =>
    some (.inr E_11, σ_2)
    )
def dm_X12_longInstance_p123 (P : xP) (a0 : Nat) (σ : xS) : xO Unit :=
  x_chk (σ.K a0 = 12) <|
  x_bind (dm_X12_needSign P a0 41 σ) (fun _ σ_2 =>
    x_chk (σ_2.K a0 = 12) <|
    x_bind (dm_X12_needSign P a0 59 σ_2) (fun _ σ_6 =>
      some (.inl (), σ_6)
      ) (fun E_9 σ_6 =>
      some (.inr E_9, σ_6)
      )
    ) (fun E_10 σ_2 =>
    some (.inr E_10, σ_2)
    )
def dm_X12_longInstance_L73 (P : xP) (a0 : Nat) : Nat → Int32 → Int32 → Int32 → xS → xO Unit
  | 0, _, _, _, _ => none
  | n + 1, v2, v3, v4, σ =>
    if v4 = 0 then
      dm_X12_longInstance_p123 P a0 σ
    else
      x_chk (σ.K a0 = 12) <|
      x_bind (dm_X12_ok P a0 σ) (fun v_2 σ_3 =>
        if v_2 = 0 then
          dm_X12_longInstance_p123 P a0 σ_3
        else
          if v3 = 0 then
            x_chk (σ_3.K a0 = 12) <|
            x_bind (dm_X12_takeOrdered P a0 v2 1 σ_3) (fun _ σ_9 =>
              dm_X12_longInstance_p103 P (dm_X12_longInstance_L73 P a0 n) a0 v2 v3 σ_9
              ) (fun E_12 σ_9 =>
              some (.inr E_12, σ_9)
              )
          else
            x_chk (σ_3.K a0 = 12) <|
            x_bind (dm_X12_takeNamed P a0 v2 σ_3) (fun _ σ_14 =>
              dm_X12_longInstance_p103 P (dm_X12_longInstance_L73 P a0 n) a0 v2 v3 σ_14
              ) (fun E_17 σ_14 =>
              some (.inr E_17, σ_14)
              )
        ) (fun E_18 σ_3 =>
        some (.inr E_18, σ_3)
        )
def dm_X12_longInstance_p29 (P : xP) (a0 : Nat) (s0 : Int32) (σ : xS) : xO Unit :=
  x_chk (σ.K a0 = 12) <|
  x_bind (dm_X12_needSign P a0 40 σ) (fun _ σ_2 =>
    x_chk (σ_2.K a0 = 12) <|
    x_bind (dm_X12_ok P a0 σ_2) (fun v_5 σ_6 =>
      if v_5 = 0 then
        dm_X12_longInstance_p123 P a0 σ_6
      else
        x_chk (σ_6.K a0 = 12) <|
        x_bind (dm_X12_isSign P a0 41 σ_6) (fun v_10 σ_11 =>
          if v_10 = 0 then
            x_chk (σ_11.K a0 = 12) <|
            x_bind (dm_X12_isSign P a0 46 σ_11) (fun v_15 σ_16 =>
              x_chk (σ_16.K a0 = 12) <|
              x_bind (dm_X12_insCell P a0 s0 σ_16) (fun v_20 σ_21 =>
                x_some (σ_16.R 1127 a0) fun a_23 =>
                x_chk (σ_21.K a_23 = 33 ∧ x_in v_20 (σ_21.L a_23) ∧ P.base ≤ a_23 ∧ x_bool v_15) <|
                x_let (σ_21.setAI a_23 (Int32.toNatClampNeg v_20) v_15) fun σ_25 =>
                dm_X12_longInstance_L73 P a0 P.N s0 v_15 1 σ_25
                ) (fun E_26 σ_21 =>
                some (.inr E_26, σ_21)
                )
              ) (fun E_27 σ_16 =>
              some (.inr E_27, σ_16)
              )
          else
            dm_X12_longInstance_p123 P a0 σ_11
          ) (fun E_28 σ_11 =>
          some (.inr E_28, σ_11)
          )
      ) (fun E_29 σ_6 =>
      some (.inr E_29, σ_6)
      )
    ) (fun E_30 σ_2 =>
    some (.inr E_30, σ_2)
    )
def dm_X12_longInstance (P : xP) (a0 : Nat) (σ : xS) : xO Unit :=
  x_chk (σ.K a0 = 12) <|
  x_bind (dm_X12_needName P a0 σ) (fun _ σ_2 =>
    x_chk (σ_2.K a0 = 12) <|
    x_let ((σ_2.I 1136 a0)) fun v_6 =>
    x_bind (dm_X12_next P a0 σ_2) (fun _ σ_8 =>
      x_chk (σ_8.K a0 = 12) <|
      x_bind (dm_X12_ok P a0 σ_8) (fun v_10 σ_11 =>
        if v_10 = 0 then
          dm_X12_longInstance_p29 P a0 (-1) σ_11
        else
          x_chk (σ_11.K a0 = 12) <|
          x_bind (dm_X12_takeInstance P a0 v_6 σ_11) (fun v_15 σ_16 =>
            dm_X12_longInstance_p29 P a0 v_15 σ_16
            ) (fun E_19 σ_16 =>
            some (.inr E_19, σ_16)
            )
        ) (fun E_20 σ_11 =>
        some (.inr E_20, σ_11)
        )
      ) (fun E_21 σ_8 =>
      some (.inr E_21, σ_8)
      )
    ) (fun E_22 σ_2 =>
    some (.inr E_22, σ_2)
    )
def dm_X12_longModule_p150 (P : xP) (k93 : xS → xO Unit) (a0 : Nat) (σ : xS) : xO Unit :=
  k93 σ
def dm_X12_longModule_p133 (P : xP) (k93 : xS → xO Unit) (a0 : Nat) (v1 : Int32) (σ : xS) : xO Unit :=
  if v1 = 4 then
    x_chk (σ.K a0 = 12) <|
    x_bind (dm_X12_readAssign P a0 1 σ) (fun _ σ_8 =>
      dm_X12_longModule_p150 P k93 a0 σ_8
      ) (fun E_11 σ_8 =>
      some (.inr E_11, σ_8)
      )
  else
    x_chk (σ.K a0 = 12) <|
    x_bind (dm_X12_longInstance P a0 σ) (fun _ σ_3 =>
      dm_X12_longModule_p150 P k93 a0 σ_3
      ) (fun E_6 σ_3 =>
      some (.inr E_6, σ_3)
      )
def dm_X12_longModule_p196 (P : xP) (k155 : Int32 → xS → xO Unit) (a0 : Nat) (v1 : Int32) (σ : xS) : xO Unit :=
  x_let (v1 + 1) fun v_1 =>
  k155 v_1 σ
def dm_X12_longModule_p202 (P : xP) (a0 : Nat) (σ : xS) : xO Unit :=
  x_chk (σ.K a0 = 12) <|
  x_bind (dm_X12_next P a0 σ) (fun _ σ_2 =>
    some (.inl (), σ_2)
    ) (fun E_5 σ_2 =>
    some (.inr E_5, σ_2)
    )
def dm_X12_longModule_L155 (P : xP) (a0 : Nat) : Nat → Int32 → xS → xO Unit
  | 0, _, _ => none
  | n + 1, v1, σ =>
    x_chk (σ.K a0 = 12) <|
    x_bind (dm_X12_ok P a0 σ) (fun v_1 σ_2 =>
      if v_1 = 0 then
        dm_X12_longModule_p202 P a0 σ_2
      else
        x_chk (σ_2.K a0 = 12) <|
        x_bind (dm_X12_mod P a0 σ_2) (fun v_7 σ_8 =>
          x_some (σ_2.R 1108 a0) fun a_10 =>
          x_chk (σ_8.K a_10 = 31 ∧ x_in v_7 (σ_8.L a_10)) <|
          if (σ_8.AI a_10 (Int32.toNatClampNeg v_7)) ≤ v1 then
            dm_X12_longModule_p202 P a0 σ_8
          else
            x_chk (σ_8.K a0 = 12) <|
            x_bind (dm_X12_netCell P a0 v1 σ_8) (fun v_14 σ_15 =>
              x_some (σ_8.R 1114 a0) fun a_17 =>
              x_chk (σ_15.K a_17 = 33 ∧ x_in v_14 (σ_15.L a_17)) <|
              if (σ_15.AI a_17 (Int32.toNatClampNeg v_14)) = 0 then
                x_chk (σ_15.K a0 = 12) <|
                x_bind (dm_X12_fail P a0 (σ_15.I 1136 a0) σ_15) (fun _ σ_22 =>
                  dm_X12_longModule_p196 P (dm_X12_longModule_L155 P a0 n) a0 v1 σ_22
                  ) (fun E_24 σ_22 =>
                  some (.inr E_24, σ_22)
                  )
              else
                dm_X12_longModule_p196 P (dm_X12_longModule_L155 P a0 n) a0 v1 σ_15
              ) (fun E_25 σ_15 =>
              some (.inr E_25, σ_15)
              )
          ) (fun E_26 σ_8 =>
          some (.inr E_26, σ_8)
          )
      ) (fun E_27 σ_2 =>
      some (.inr E_27, σ_2)
      )
def dm_X12_longModule_p153 (P : xP) (a0 : Nat) (σ : xS) : xO Unit :=
  dm_X12_longModule_L155 P a0 P.N 0 σ
def dm_X12_longModule_L93 (P : xP) (a0 : Nat) : Nat → xS → xO Unit
  | 0, _ => none
  | n + 1, σ =>
    x_chk (σ.K a0 = 12) <|
    x_bind (dm_X12_ok P a0 σ) (fun v_1 σ_2 =>
      if v_1 = 0 then
        dm_X12_longModule_p153 P a0 σ_2
      else
        x_chk (σ_2.K a0 = 12) <|
        x_bind (dm_X12_isKey P a0 5 σ_2) (fun v_6 σ_7 =>
          if v_6 = 0 then
            x_chk (σ_7.K a0 = 12) <|
            x_bind (dm_X12_keyword P a0 σ_7) (fun v_11 σ_12 =>
              if v_11 < 1 then
                dm_X12_longModule_p133 P (dm_X12_longModule_L93 P a0 n) a0 v_11 σ_12
              else
                if 3 < v_11 then
                  dm_X12_longModule_p133 P (dm_X12_longModule_L93 P a0 n) a0 v_11 σ_12
                else
                  x_chk (σ_12.K a0 = 12) <|
                  x_bind (dm_X12_longNets P a0 (v_11 - 1) σ_12) (fun _ σ_18 =>
                    dm_X12_longModule_p150 P (dm_X12_longModule_L93 P a0 n) a0 σ_18
                    ) (fun E_21 σ_18 =>
                    some (.inr E_21, σ_18)
                    )
              ) (fun E_22 σ_12 =>
              some (.inr E_22, σ_12)
              )
          else
            dm_X12_longModule_p153 P a0 σ_7
          ) (fun E_23 σ_7 =>
          some (.inr E_23, σ_7)
          )
      ) (fun E_24 σ_2 =>
      some (.inr E_24, σ_2)
      )
def dm_X12_longModule_p81 (P : xP) (a0 : Nat) (σ : xS) : xO Unit :=
  x_chk (σ.K a0 = 12) <|
  x_bind (dm_X12_needSign P a0 41 σ) (fun _ σ_2 =>
    x_chk (σ_2.K a0 = 12) <|
    x_bind (dm_X12_needSign P a0 59 σ_2) (fun _ σ_6 =>
      dm_X12_longModule_L93 P a0 P.N σ_6
      ) (fun E_9 σ_6 =>
      some (.inr E_9, σ_6)
      )
    ) (fun E_10 σ_2 =>
    some (.inr E_10, σ_2)
    )
def dm_X12_longModule_L48 (P : xP) (a0 : Nat) : Nat → Int32 → xS → xO Unit
  | 0, _, _ => none
  | n + 1, v1, σ =>
    if v1 = 0 then
      dm_X12_longModule_p81 P a0 σ
    else
      x_chk (σ.K a0 = 12) <|
      x_bind (dm_X12_ok P a0 σ) (fun v_2 σ_3 =>
        if v_2 = 0 then
          dm_X12_longModule_p81 P a0 σ_3
        else
          x_chk (σ_3.K a0 = 12) <|
          x_bind (dm_X12_takePort P a0 σ_3) (fun _ σ_8 =>
            x_chk (σ_8.K a0 = 12) <|
            x_bind (dm_X12_isSign P a0 44 σ_8) (fun v_11 σ_12 =>
              if v_11 = 0 then
                dm_X12_longModule_L48 P a0 n v_11 σ_12
              else
                x_chk (σ_12.K a0 = 12) <|
                x_bind (dm_X12_next P a0 σ_12) (fun _ σ_17 =>
                  dm_X12_longModule_L48 P a0 n v_11 σ_17
                  ) (fun E_20 σ_17 =>
                  some (.inr E_20, σ_17)
                  )
              ) (fun E_21 σ_12 =>
              some (.inr E_21, σ_12)
              )
            ) (fun E_22 σ_8 =>
            some (.inr E_22, σ_8)
            )
        ) (fun E_23 σ_3 =>
        some (.inr E_23, σ_3)
        )
def dm_X12_longModule_p16 (P : xP) (a0 : Nat) (σ : xS) : xO Unit :=
  x_chk (σ.K a0 = 12) <|
  x_bind (dm_X12_next P a0 σ) (fun _ σ_2 =>
    x_chk (σ_2.K a0 = 12) <|
    x_bind (dm_X12_takeModule P a0 σ_2) (fun _ σ_6 =>
      x_chk (σ_6.K a0 = 12) <|
      x_bind (dm_X12_needSign P a0 40 σ_6) (fun _ σ_10 =>
        x_chk (σ_10.K a0 = 12) <|
        x_bind (dm_X12_ok P a0 σ_10) (fun v_13 σ_14 =>
          if v_13 = 0 then
            dm_X12_longModule_p81 P a0 σ_14
          else
            x_chk (σ_14.K a0 = 12) <|
            x_bind (dm_X12_isSign P a0 41 σ_14) (fun v_18 σ_19 =>
              if v_18 = 0 then
                dm_X12_longModule_L48 P a0 P.N 1 σ_19
              else
                dm_X12_longModule_p81 P a0 σ_19
              ) (fun E_23 σ_19 =>
              some (.inr E_23, σ_19)
              )
          ) (fun E_24 σ_14 =>
          some (.inr E_24, σ_14)
          )
        ) (fun E_25 σ_10 =>
        some (.inr E_25, σ_10)
        )
      ) (fun E_26 σ_6 =>
      some (.inr E_26, σ_6)
      )
    ) (fun E_27 σ_2 =>
    some (.inr E_27, σ_2)
    )
def dm_X12_longModule (P : xP) (a0 : Nat) (σ : xS) : xO Unit :=
  x_chk (σ.K a0 = 12) <|
  x_bind (dm_X12_isKey P a0 0 σ) (fun v_1 σ_2 =>
    if v_1 = 0 then
      x_chk (σ_2.K a0 = 12) <|
      x_bind (dm_X12_fail P a0 (σ_2.I 1136 a0) σ_2) (fun _ σ_8 =>
        dm_X12_longModule_p16 P a0 σ_8
        ) (fun E_10 σ_8 =>
        some (.inr E_10, σ_8)
        )
    else
      dm_X12_longModule_p16 P a0 σ_2
    ) (fun E_11 σ_2 =>
    some (.inr E_11, σ_2)
    )
def dm_X12_isLetterWord_p45 (P : xP) (a0 : Nat) (s0 : Int32) (σ : xS) : xO Int32 :=
  x_chk (x_bool s0) <|
  some (.inl s0, σ)
def dm_X12_isLetterWord_p44 (P : xP) (a0 : Nat) (σ : xS) : xO Int32 :=
  dm_X12_isLetterWord_p45 P a0 0 σ
def dm_X12_isLetterWord (P : xP) (a0 : Nat) (v1 : Int32) (σ : xS) : xO Int32 :=
  x_chk (σ.K a0 = 12) <|
  x_bind (dm_X12_ok P a0 σ) (fun v_1 σ_2 =>
    if v_1 = 0 then
      dm_X12_isLetterWord_p44 P a0 σ_2
    else
      x_chk (σ_2.K a0 = 12) <|
      if (σ_2.I 1135 a0) = 1 then
        if ((σ_2.I 1137 a0) - (σ_2.I 1136 a0)) = 1 then
          x_bind (dm_X12_sign P a0 (σ_2.I 1136 a0) σ_2) (fun v_9 σ_10 =>
            if v_9 = v1 then
              dm_X12_isLetterWord_p45 P a0 1 σ_10
            else
              dm_X12_isLetterWord_p44 P a0 σ_10
            ) (fun E_13 σ_10 =>
            some (.inr E_13, σ_10)
            )
        else
          dm_X12_isLetterWord_p44 P a0 σ_2
      else
        dm_X12_isLetterWord_p44 P a0 σ_2
    ) (fun E_14 σ_2 =>
    some (.inr E_14, σ_2)
    )
def dm_X12_move (P : xP) (a0 : Nat) (v1 : Int32) (v2 : Int32) (σ : xS) : xO Unit :=
  x_chk (σ.K a0 = 12) <|
  x_some (σ.R 1110 a0) fun a_2 =>
  x_chk (σ.K a_2 = 31 ∧ x_in v1 (σ.L a_2)) <|
  x_chk (σ.K a_2 = 31 ∧ x_in v2 (σ.L a_2) ∧ P.base ≤ a_2) <|
  x_let (σ.setAI a_2 (Int32.toNatClampNeg v2) (σ.AI a_2 (Int32.toNatClampNeg v1))) fun σ_5 =>
  x_chk (σ_5.K a0 = 12) <|
  x_some (σ_5.R 1111 a0) fun a_7 =>
  x_chk (σ_5.K a_7 = 31 ∧ x_in v1 (σ_5.L a_7)) <|
  x_chk (σ_5.K a_7 = 31 ∧ x_in v2 (σ_5.L a_7) ∧ P.base ≤ a_7) <|
  x_let (σ_5.setAI a_7 (Int32.toNatClampNeg v2) (σ_5.AI a_7 (Int32.toNatClampNeg v1))) fun σ_10 =>
  x_chk (σ_10.K a0 = 12) <|
  x_some (σ_10.R 1112 a0) fun a_12 =>
  x_chk (σ_10.K a_12 = 31 ∧ x_in v1 (σ_10.L a_12)) <|
  x_chk (σ_10.K a_12 = 31 ∧ x_in v2 (σ_10.L a_12) ∧ P.base ≤ a_12) <|
  x_let (σ_10.setAI a_12 (Int32.toNatClampNeg v2) (σ_10.AI a_12 (Int32.toNatClampNeg v1))) fun σ_15 =>
  x_chk (σ_15.K a0 = 12) <|
  x_some (σ_15.R 1114 a0) fun a_17 =>
  x_chk (σ_15.K a_17 = 33 ∧ x_in v1 (σ_15.L a_17)) <|
  x_chk (σ_15.K a_17 = 33 ∧ x_in v2 (σ_15.L a_17) ∧ P.base ≤ a_17 ∧ x_bool (σ_15.AI a_17 (Int32.toNatClampNeg v1))) <|
  x_let (σ_15.setAI a_17 (Int32.toNatClampNeg v2) (σ_15.AI a_17 (Int32.toNatClampNeg v1))) fun σ_20 =>
  some (.inl (), σ_20)
def dm_X12_shift_p74 (P : xP) (k11 : Int32 → Int32 → Int32 → xS → xO Unit) (a0 : Nat) (v1 : Int32) (v2 : Int32) (v3 : Int32) (σ : xS) : xO Unit :=
  x_let (v3 + 1) fun v_1 =>
  k11 v1 v2 v_1 σ
def dm_X12_shift_L11 (P : xP) (a0 : Nat) : Nat → Int32 → Int32 → Int32 → xS → xO Unit
  | 0, _, _, _, _ => none
  | n + 1, v1, v2, v3, σ =>
    x_chk (σ.K a0 = 12) <|
    x_some (σ.R 1115 a0) fun a_2 =>
    x_chk (σ.K a_2 = 31 ∧ x_in (σ.I 1140 a0) (σ.L a_2)) <|
    if (v2 + (σ.AI a_2 (Int32.toNatClampNeg (σ.I 1140 a0)))) ≤ v3 then
      some (.inl (), σ)
    else
      x_some (σ.R 1116 a0) fun a_5 =>
      x_chk (σ.K a_5 = 31 ∧ x_in v3 (σ.L a_5)) <|
      x_bind (dm_X12_mod P a0 σ) (fun v_7 σ_8 =>
        x_some (σ.R 1107 a0) fun a_10 =>
        x_chk (σ_8.K a_10 = 31 ∧ x_in v_7 (σ_8.L a_10)) <|
        if (σ.AI a_5 (Int32.toNatClampNeg v3)) ≤ (σ_8.AI a_10 (Int32.toNatClampNeg v_7)) then
          dm_X12_shift_p74 P (dm_X12_shift_L11 P a0 n) a0 v1 v2 v3 σ_8
        else
          x_chk (σ_8.K a0 = 12) <|
          x_some (σ_8.R 1117 a0) fun a_14 =>
          x_chk (σ_8.K a_14 = 31 ∧ x_in v3 (σ_8.L a_14)) <|
          if (σ_8.AI a_14 (Int32.toNatClampNeg v3)) = 3 then
            dm_X12_shift_p74 P (dm_X12_shift_L11 P a0 n) a0 v1 v2 v3 σ_8
          else
            x_some (σ_8.R 1118 a0) fun a_17 =>
            x_chk (σ_8.K a_17 = 31 ∧ x_in v3 (σ_8.L a_17)) <|
            if (σ_8.AI a_17 (Int32.toNatClampNeg v3)) < v1 then
              dm_X12_shift_p74 P (dm_X12_shift_L11 P a0 n) a0 v1 v2 v3 σ_8
            else
              x_chk (σ_8.K a_17 = 31 ∧ x_in v3 (σ_8.L a_17) ∧ P.base ≤ a_17) <|
              x_let (σ_8.setAI a_17 (Int32.toNatClampNeg v3) ((σ_8.AI a_17 (Int32.toNatClampNeg v3)) + 1)) fun σ_21 =>
              dm_X12_shift_p74 P (dm_X12_shift_L11 P a0 n) a0 v1 v2 v3 σ_21
        ) (fun E_22 σ_8 =>
        some (.inr E_22, σ_8)
        )
def dm_X12_shift (P : xP) (a0 : Nat) (v1 : Int32) (σ : xS) : xO Unit :=
  x_chk (σ.K a0 = 12) <|
  x_let ((512 * (σ.I 1140 a0))) fun v_2 =>
  dm_X12_shift_L11 P a0 P.N v1 v_2 v_2 σ
def dm_X12_shortNet_p243 (P : xP) (a0 : Nat) (σ : xS) : xO Unit :=
  some (.inl (), σ)
def dm_X12_shortNet_L127 (P : xP) (a0 : Nat) : Nat → Int32 → Int32 → Int32 → Int32 → Int32 → xS → xO Unit
  | 0, _, _, _, _, _, _ => none
  | n + 1, v1, v2, v3, v4, v5, σ =>
    if v5 ≤ v4 then
      x_chk (σ.K a0 = 12) <|
      x_bind (dm_X12_netCell P a0 v4 σ) (fun v_3 σ_4 =>
        x_some (σ.R 1110 a0) fun a_6 =>
        x_chk (σ_4.K a_6 = 31 ∧ x_in v_3 (σ_4.L a_6) ∧ P.base ≤ a_6) <|
        x_let (σ_4.setAI a_6 (Int32.toNatClampNeg v_3) v2) fun σ_8 =>
        x_chk (σ_8.K a0 = 12) <|
        x_bind (dm_X12_netCell P a0 v4 σ_8) (fun v_10 σ_11 =>
          x_some (σ_8.R 1111 a0) fun a_13 =>
          x_chk (σ_11.K a_13 = 31 ∧ x_in v_10 (σ_11.L a_13) ∧ P.base ≤ a_13) <|
          x_let (σ_11.setAI a_13 (Int32.toNatClampNeg v_10) v1) fun σ_15 =>
          x_chk (σ_15.K a0 = 12) <|
          x_bind (dm_X12_netCell P a0 v4 σ_15) (fun v_17 σ_18 =>
            x_some (σ_15.R 1112 a0) fun a_20 =>
            x_chk (σ_18.K a_20 = 31 ∧ x_in v_17 (σ_18.L a_20) ∧ P.base ≤ a_20) <|
            x_let (σ_18.setAI a_20 (Int32.toNatClampNeg v_17) v3) fun σ_22 =>
            x_chk (σ_22.K a0 = 12) <|
            x_bind (dm_X12_netCell P a0 v4 σ_22) (fun v_24 σ_25 =>
              x_some (σ_22.R 1114 a0) fun a_27 =>
              x_chk (σ_25.K a_27 = 33 ∧ x_in v_24 (σ_25.L a_27) ∧ P.base ≤ a_27 ∧ x_bool 1) <|
              x_let (σ_25.setAI a_27 (Int32.toNatClampNeg v_24) 1) fun σ_29 =>
              x_chk (σ_29.K a0 = 12) <|
              x_bind (dm_X12_mod P a0 σ_29) (fun v_31 σ_32 =>
                x_some (σ_29.R 1109 a0) fun a_34 =>
                x_chk (σ_32.K a_34 = 31 ∧ x_in v_31 (σ_32.L a_34)) <|
                x_chk (σ_32.K a_34 = 31 ∧ x_in v_31 (σ_32.L a_34) ∧ P.base ≤ a_34) <|
                x_let (σ_32.setAI a_34 (Int32.toNatClampNeg v_31) ((σ_32.AI a_34 (Int32.toNatClampNeg v_31)) + 1)) fun σ_37 =>
                if 2 ≤ v1 then
                  dm_X12_shortNet_p243 P a0 σ_37
                else
                  x_chk (σ_37.K a0 = 12) <|
                  x_bind (dm_X12_mod P a0 σ_37) (fun v_40 σ_41 =>
                    x_some (σ_37.R 1108 a0) fun a_43 =>
                    x_chk (σ_41.K a_43 = 31 ∧ x_in v_40 (σ_41.L a_43)) <|
                    x_chk (σ_41.K a_43 = 31 ∧ x_in v_40 (σ_41.L a_43) ∧ P.base ≤ a_43) <|
                    x_let (σ_41.setAI a_43 (Int32.toNatClampNeg v_40) ((σ_41.AI a_43 (Int32.toNatClampNeg v_40)) + 1)) fun σ_46 =>
                    x_chk (σ_46.K a0 = 12) <|
                    x_bind (dm_X12_shift P a0 v4 σ_46) (fun _ σ_48 =>
                      dm_X12_shortNet_p243 P a0 σ_48
                      ) (fun E_51 σ_48 =>
                      some (.inr E_51, σ_48)
                      )
                    ) (fun E_52 σ_41 =>
                    some (.inr E_52, σ_41)
                    )
                ) (fun E_53 σ_32 =>
                some (.inr E_53, σ_32)
                )
              ) (fun E_54 σ_25 =>
              some (.inr E_54, σ_25)
              )
            ) (fun E_55 σ_18 =>
            some (.inr E_55, σ_18)
            )
          ) (fun E_56 σ_11 =>
          some (.inr E_56, σ_11)
          )
        ) (fun E_57 σ_4 =>
        some (.inr E_57, σ_4)
        )
    else
      x_chk (σ.K a0 = 12) <|
      x_bind (dm_X12_netCell P a0 (v5 - 1) σ) (fun v_58 σ_59 =>
        x_chk (σ_59.K a0 = 12) <|
        x_bind (dm_X12_netCell P a0 v5 σ_59) (fun v_62 σ_63 =>
          x_chk (σ_63.K a0 = 12) <|
          x_bind (dm_X12_move P a0 v_58 v_62 σ_63) (fun _ σ_67 =>
            x_let (v5 + (-1)) fun v_70 =>
            dm_X12_shortNet_L127 P a0 n v1 v2 v3 v4 v_70 σ_67
            ) (fun E_71 σ_67 =>
            some (.inr E_71, σ_67)
            )
          ) (fun E_72 σ_63 =>
          some (.inr E_72, σ_63)
          )
        ) (fun E_73 σ_59 =>
        some (.inr E_73, σ_59)
        )
def dm_X12_shortNet_p114 (P : xP) (a0 : Nat) (v1 : Int32) (v2 : Int32) (v3 : Int32) (s0 : Int32) (σ : xS) : xO Unit :=
  x_chk (σ.K a0 = 12) <|
  x_bind (dm_X12_mod P a0 σ) (fun v_2 σ_3 =>
    x_some (σ.R 1109 a0) fun a_5 =>
    x_chk (σ_3.K a_5 = 31 ∧ x_in v_2 (σ_3.L a_5)) <|
    x_let ((σ_3.AI a_5 (Int32.toNatClampNeg v_2))) fun v_7 =>
    dm_X12_shortNet_L127 P a0 P.N v1 v2 v3 s0 v_7 σ_3
    ) (fun E_8 σ_3 =>
    some (.inr E_8, σ_3)
    )
def dm_X12_shortNet_p49 (P : xP) (a0 : Nat) (v1 : Int32) (σ : xS) : xO Unit :=
  x_chk (σ.K a0 = 12) <|
  x_let ((σ.I 1136 a0)) fun v_2 =>
  x_bind (dm_X12_next P a0 σ) (fun _ σ_4 =>
    x_chk (σ_4.K a0 = 12) <|
    x_bind (dm_X12_needNumber P a0 1 8 σ_4) (fun _ σ_7 =>
      x_chk (σ_7.K a0 = 12) <|
      x_let ((σ_7.I 1138 a0)) fun v_11 =>
      x_bind (dm_X12_next P a0 σ_7) (fun _ σ_13 =>
        x_chk (σ_13.K a0 = 12) <|
        x_bind (dm_X12_needSign P a0 59 σ_13) (fun _ σ_16 =>
          x_chk (σ_16.K a0 = 12) <|
          x_bind (dm_X12_ok P a0 σ_16) (fun v_19 σ_20 =>
            if v_19 = 0 then
              some (.inl (), σ_20)
            else
              if 2 ≤ v1 then
                x_chk (σ_20.K a0 = 12) <|
                x_bind (dm_X12_mod P a0 σ_20) (fun v_26 σ_27 =>
                  x_some (σ_20.R 1109 a0) fun a_29 =>
                  x_chk (σ_27.K a_29 = 31 ∧ x_in v_26 (σ_27.L a_29)) <|
                  dm_X12_shortNet_p114 P a0 v1 v_2 v_11 (σ_27.AI a_29 (Int32.toNatClampNeg v_26)) σ_27
                  ) (fun E_31 σ_27 =>
                  some (.inr E_31, σ_27)
                  )
              else
                x_chk (σ_20.K a0 = 12) <|
                x_bind (dm_X12_mod P a0 σ_20) (fun v_33 σ_34 =>
                  x_some (σ_20.R 1108 a0) fun a_36 =>
                  x_chk (σ_34.K a_36 = 31 ∧ x_in v_33 (σ_34.L a_36)) <|
                  dm_X12_shortNet_p114 P a0 v1 v_2 v_11 (σ_34.AI a_36 (Int32.toNatClampNeg v_33)) σ_34
                  ) (fun E_38 σ_34 =>
                  some (.inr E_38, σ_34)
                  )
            ) (fun E_39 σ_20 =>
            some (.inr E_39, σ_20)
            )
          ) (fun E_40 σ_16 =>
          some (.inr E_40, σ_16)
          )
        ) (fun E_41 σ_13 =>
        some (.inr E_41, σ_13)
        )
      ) (fun E_42 σ_7 =>
      some (.inr E_42, σ_7)
      )
    ) (fun E_43 σ_4 =>
    some (.inr E_43, σ_4)
    )
def dm_X12_shortNet_p41 (P : xP) (a0 : Nat) (v1 : Int32) (σ : xS) : xO Unit :=
  x_chk (σ.K a0 = 12) <|
  x_bind (dm_X12_fail P a0 (σ.I 1136 a0) σ) (fun _ σ_3 =>
    dm_X12_shortNet_p49 P a0 v1 σ_3
    ) (fun E_5 σ_3 =>
    some (.inr E_5, σ_3)
    )
def dm_X12_shortNet (P : xP) (a0 : Nat) (v1 : Int32) (σ : xS) : xO Unit :=
  x_chk (σ.K a0 = 12) <|
  x_bind (dm_X12_next P a0 σ) (fun _ σ_2 =>
    x_chk (σ_2.K a0 = 12) <|
    x_bind (dm_X12_needName P a0 σ_2) (fun _ σ_6 =>
      x_chk (σ_6.K a0 = 12) <|
      x_bind (dm_X12_ok P a0 σ_6) (fun v_9 σ_10 =>
        if v_9 = 0 then
          dm_X12_shortNet_p49 P a0 v1 σ_10
        else
          x_chk (σ_10.K a0 = 12) <|
          x_bind (dm_X12_netNamed P a0 (σ_10.I 1136 a0) σ_10) (fun v_15 σ_16 =>
            if v_15 = (-1) then
              x_chk (σ_16.K a0 = 12) <|
              x_bind (dm_X12_mod P a0 σ_16) (fun v_20 σ_21 =>
                x_some (σ_16.R 1109 a0) fun a_23 =>
                x_chk (σ_21.K a_23 = 31 ∧ x_in v_20 (σ_21.L a_23)) <|
                if (σ_21.AI a_23 (Int32.toNatClampNeg v_20)) = 16 then
                  dm_X12_shortNet_p41 P a0 v1 σ_21
                else
                  dm_X12_shortNet_p49 P a0 v1 σ_21
                ) (fun E_26 σ_21 =>
                some (.inr E_26, σ_21)
                )
            else
              dm_X12_shortNet_p41 P a0 v1 σ_16
            ) (fun E_27 σ_16 =>
            some (.inr E_27, σ_16)
            )
        ) (fun E_28 σ_10 =>
        some (.inr E_28, σ_10)
        )
      ) (fun E_29 σ_6 =>
      some (.inr E_29, σ_6)
      )
    ) (fun E_30 σ_2 =>
    some (.inr E_30, σ_2)
    )
def dm_X12_shortInstance_p59 (P : xP) (a0 : Nat) (σ : xS) : xO Unit :=
  x_chk (σ.K a0 = 12) <|
  x_bind (dm_X12_needSign P a0 59 σ) (fun _ σ_2 =>
    some (.inl (), σ_2)
    ) (fun E_5 σ_2 =>
    some (.inr E_5, σ_2)
    )
def dm_X12_shortInstance_L34 (P : xP) (a0 : Nat) : Nat → Int32 → xS → xO Unit
  | 0, _, _ => none
  | n + 1, v2, σ =>
    x_chk (σ.K a0 = 12) <|
    x_bind (dm_X12_ok P a0 σ) (fun v_1 σ_2 =>
      if v_1 = 0 then
        dm_X12_shortInstance_p59 P a0 σ_2
      else
        x_chk (σ_2.K a0 = 12) <|
        x_bind (dm_X12_isSign P a0 59 σ_2) (fun v_6 σ_7 =>
          if v_6 = 0 then
            x_chk (σ_7.K a0 = 12) <|
            x_bind (dm_X12_takeOrdered P a0 v2 0 σ_7) (fun _ σ_12 =>
              dm_X12_shortInstance_L34 P a0 n v2 σ_12
              ) (fun E_15 σ_12 =>
              some (.inr E_15, σ_12)
              )
          else
            dm_X12_shortInstance_p59 P a0 σ_7
          ) (fun E_16 σ_7 =>
          some (.inr E_16, σ_7)
          )
      ) (fun E_17 σ_2 =>
      some (.inr E_17, σ_2)
      )
def dm_X12_shortInstance_p33 (P : xP) (a0 : Nat) (s0 : Int32) (σ : xS) : xO Unit :=
  dm_X12_shortInstance_L34 P a0 P.N s0 σ
def dm_X12_shortInstance (P : xP) (a0 : Nat) (σ : xS) : xO Unit :=
  x_chk (σ.K a0 = 12) <|
  x_bind (dm_X12_next P a0 σ) (fun _ σ_2 =>
    x_chk (σ_2.K a0 = 12) <|
    x_bind (dm_X12_needName P a0 σ_2) (fun _ σ_6 =>
      x_chk (σ_6.K a0 = 12) <|
      x_let ((σ_6.I 1136 a0)) fun v_10 =>
      x_bind (dm_X12_next P a0 σ_6) (fun _ σ_12 =>
        x_chk (σ_12.K a0 = 12) <|
        x_bind (dm_X12_ok P a0 σ_12) (fun v_14 σ_15 =>
          if v_14 = 0 then
            dm_X12_shortInstance_p33 P a0 (-1) σ_15
          else
            x_chk (σ_15.K a0 = 12) <|
            x_bind (dm_X12_takeInstance P a0 v_10 σ_15) (fun v_19 σ_20 =>
              dm_X12_shortInstance_p33 P a0 v_19 σ_20
              ) (fun E_23 σ_20 =>
              some (.inr E_23, σ_20)
              )
          ) (fun E_24 σ_15 =>
          some (.inr E_24, σ_15)
          )
        ) (fun E_25 σ_12 =>
        some (.inr E_25, σ_12)
        )
      ) (fun E_26 σ_6 =>
      some (.inr E_26, σ_6)
      )
    ) (fun E_27 σ_2 =>
    some (.inr E_27, σ_2)
    )
def dm_X12_shortModule_p102 (P : xP) (k31 : xS → xO Unit) (a0 : Nat) (s0 : Option Nat) (s1 : Int32) (σ : xS) : xO Unit :=
  x_some s0 fun a_1 =>
  x_chk (σ.K a_1 = 12) <|
  x_bind (dm_X12_shortNet P a_1 s1 σ) (fun _ σ_3 =>
    k31 σ_3
    ) (fun E_6 σ_3 =>
    some (.inr E_6, σ_3)
    )
def dm_X12_shortModule_p74 (P : xP) (k31 : xS → xO Unit) (a0 : Nat) (σ : xS) : xO Unit :=
  x_chk (σ.K a0 = 12) <|
  x_bind (dm_X12_isLetterWord P a0 105 σ) (fun v_1 σ_2 =>
    if v_1 = 0 then
      x_chk (σ_2.K a0 = 12) <|
      x_bind (dm_X12_isLetterWord P a0 111 σ_2) (fun v_6 σ_7 =>
        if v_6 = 0 then
          dm_X12_shortModule_p102 P k31 a0 (some a0) 2 σ_7
        else
          dm_X12_shortModule_p102 P k31 a0 (some a0) 1 σ_7
        ) (fun E_11 σ_7 =>
        some (.inr E_11, σ_7)
        )
    else
      dm_X12_shortModule_p102 P k31 a0 (some a0) 0 σ_2
    ) (fun E_12 σ_2 =>
    some (.inr E_12, σ_2)
    )
def dm_X12_shortModule_p152 (P : xP) (a0 : Nat) (σ : xS) : xO Unit :=
  x_chk (σ.K a0 = 12) <|
  x_bind (dm_X12_next P a0 σ) (fun _ σ_2 =>
    x_chk (σ_2.K a0 = 12) <|
    x_bind (dm_X12_needSign P a0 59 σ_2) (fun _ σ_6 =>
      some (.inl (), σ_6)
      ) (fun E_9 σ_6 =>
      some (.inr E_9, σ_6)
      )
    ) (fun E_10 σ_2 =>
    some (.inr E_10, σ_2)
    )
def dm_X12_shortModule_L31 (P : xP) (a0 : Nat) : Nat → xS → xO Unit
  | 0, _ => none
  | n + 1, σ =>
    x_chk (σ.K a0 = 12) <|
    x_bind (dm_X12_ok P a0 σ) (fun v_1 σ_2 =>
      if v_1 = 0 then
        dm_X12_shortModule_p152 P a0 σ_2
      else
        x_chk (σ_2.K a0 = 12) <|
        x_bind (dm_X12_isLetterWord P a0 101 σ_2) (fun v_6 σ_7 =>
          if v_6 = 0 then
            x_chk (σ_7.K a0 = 12) <|
            x_bind (dm_X12_isLetterWord P a0 105 σ_7) (fun v_11 σ_12 =>
              if v_11 = 0 then
                x_chk (σ_12.K a0 = 12) <|
                x_bind (dm_X12_isLetterWord P a0 111 σ_12) (fun v_16 σ_17 =>
                  if v_16 = 0 then
                    x_chk (σ_17.K a0 = 12) <|
                    x_bind (dm_X12_isLetterWord P a0 119 σ_17) (fun v_21 σ_22 =>
                      if v_21 = 0 then
                        x_chk (σ_22.K a0 = 12) <|
                        x_bind (dm_X12_isLetterWord P a0 97 σ_22) (fun v_26 σ_27 =>
                          if v_26 = 0 then
                            x_chk (σ_27.K a0 = 12) <|
                            x_bind (dm_X12_isLetterWord P a0 117 σ_27) (fun v_31 σ_32 =>
                              if v_31 = 0 then
                                x_chk (σ_32.K a0 = 12) <|
                                x_bind (dm_X12_fail P a0 (σ_32.I 1136 a0) σ_32) (fun _ σ_38 =>
                                  dm_X12_shortModule_L31 P a0 n σ_38
                                  ) (fun E_40 σ_38 =>
                                  some (.inr E_40, σ_38)
                                  )
                              else
                                x_chk (σ_32.K a0 = 12) <|
                                x_bind (dm_X12_shortInstance P a0 σ_32) (fun _ σ_42 =>
                                  dm_X12_shortModule_L31 P a0 n σ_42
                                  ) (fun E_45 σ_42 =>
                                  some (.inr E_45, σ_42)
                                  )
                              ) (fun E_46 σ_32 =>
                              some (.inr E_46, σ_32)
                              )
                          else
                            x_chk (σ_27.K a0 = 12) <|
                            x_bind (dm_X12_readAssign P a0 0 σ_27) (fun _ σ_48 =>
                              dm_X12_shortModule_L31 P a0 n σ_48
                              ) (fun E_51 σ_48 =>
                              some (.inr E_51, σ_48)
                              )
                          ) (fun E_52 σ_27 =>
                          some (.inr E_52, σ_27)
                          )
                      else
                        dm_X12_shortModule_p74 P (dm_X12_shortModule_L31 P a0 n) a0 σ_22
                      ) (fun E_53 σ_22 =>
                      some (.inr E_53, σ_22)
                      )
                  else
                    dm_X12_shortModule_p74 P (dm_X12_shortModule_L31 P a0 n) a0 σ_17
                  ) (fun E_54 σ_17 =>
                  some (.inr E_54, σ_17)
                  )
              else
                dm_X12_shortModule_p74 P (dm_X12_shortModule_L31 P a0 n) a0 σ_12
              ) (fun E_55 σ_12 =>
              some (.inr E_55, σ_12)
              )
          else
            dm_X12_shortModule_p152 P a0 σ_7
          ) (fun E_56 σ_7 =>
          some (.inr E_56, σ_7)
          )
      ) (fun E_57 σ_2 =>
      some (.inr E_57, σ_2)
      )
def dm_X12_shortModule_p17 (P : xP) (a0 : Nat) (σ : xS) : xO Unit :=
  x_chk (σ.K a0 = 12) <|
  x_bind (dm_X12_next P a0 σ) (fun _ σ_2 =>
    x_chk (σ_2.K a0 = 12) <|
    x_bind (dm_X12_takeModule P a0 σ_2) (fun _ σ_6 =>
      x_chk (σ_6.K a0 = 12) <|
      x_bind (dm_X12_needSign P a0 59 σ_6) (fun _ σ_10 =>
        dm_X12_shortModule_L31 P a0 P.N σ_10
        ) (fun E_13 σ_10 =>
        some (.inr E_13, σ_10)
        )
      ) (fun E_14 σ_6 =>
      some (.inr E_14, σ_6)
      )
    ) (fun E_15 σ_2 =>
    some (.inr E_15, σ_2)
    )
def dm_X12_shortModule (P : xP) (a0 : Nat) (σ : xS) : xO Unit :=
  x_chk (σ.K a0 = 12) <|
  x_bind (dm_X12_isLetterWord P a0 109 σ) (fun v_1 σ_2 =>
    if v_1 = 0 then
      x_chk (σ_2.K a0 = 12) <|
      x_bind (dm_X12_fail P a0 (σ_2.I 1136 a0) σ_2) (fun _ σ_8 =>
        dm_X12_shortModule_p17 P a0 σ_8
        ) (fun E_10 σ_8 =>
        some (.inr E_10, σ_8)
        )
    else
      dm_X12_shortModule_p17 P a0 σ_2
    ) (fun E_11 σ_2 =>
    some (.inr E_11, σ_2)
    )
def dm_X12_moduleNamed_p39 (P : xP) (k4 : Int32 → Int32 → Int32 → xS → xO Int32) (a0 : Nat) (v1 : Int32) (v3 : Int32) (s0 : Int32) (σ : xS) : xO Int32 :=
  x_let (v3 + 1) fun v_1 =>
  k4 v1 s0 v_1 σ
def dm_X12_moduleNamed_L4 (P : xP) (a0 : Nat) : Nat → Int32 → Int32 → Int32 → xS → xO Int32
  | 0, _, _, _, _ => none
  | n + 1, v1, v2, v3, σ =>
    x_chk (σ.K a0 = 12) <|
    if (σ.I 1141 a0) ≤ v3 then
      some (.inl v2, σ)
    else
      x_some (σ.R 1107 a0) fun a_3 =>
      x_chk (σ.K a_3 = 31 ∧ x_in ((8 * (σ.I 1140 a0)) + v3) (σ.L a_3)) <|
      x_bind (dm_X12_areSame P a0 (σ.AI a_3 (Int32.toNatClampNeg ((8 * (σ.I 1140 a0)) + v3))) v1 σ) (fun v_5 σ_6 =>
        if v_5 = 0 then
          dm_X12_moduleNamed_p39 P (dm_X12_moduleNamed_L4 P a0 n) a0 v1 v3 v2 σ_6
        else
          dm_X12_moduleNamed_p39 P (dm_X12_moduleNamed_L4 P a0 n) a0 v1 v3 v3 σ_6
        ) (fun E_9 σ_6 =>
        some (.inr E_9, σ_6)
        )
def dm_X12_moduleNamed (P : xP) (a0 : Nat) (v1 : Int32) (σ : xS) : xO Int32 :=
  dm_X12_moduleNamed_L4 P a0 P.N v1 (-1) 0 σ
def dm_X12_refWidth_p70 (P : xP) (a0 : Nat) (s0 : Int32) (σ : xS) : xO Int32 :=
  some (.inl s0, σ)
def dm_X12_refWidth (P : xP) (a0 : Nat) (v1 : Int32) (v2 : Int32) (v3 : Int32) (σ : xS) : xO Int32 :=
  x_chk (σ.K a0 = 12) <|
  x_some (σ.R 1117 a0) fun a_2 =>
  x_chk (σ.K a_2 = 31 ∧ x_in v3 (σ.L a_2)) <|
  x_let ((σ.AI a_2 (Int32.toNatClampNeg v3))) fun v_4 =>
  if v_4 = 3 then
    x_some (σ.R 1120 a0) fun a_16 =>
    x_chk (σ.K a_16 = 31 ∧ x_in v3 (σ.L a_16)) <|
    some (.inl (σ.AI a_16 (Int32.toNatClampNeg v3)), σ)
  else
    if v_4 = 0 then
      x_some (σ.R 1118 a0) fun a_12 =>
      x_chk (σ.K a_12 = 31 ∧ x_in v3 (σ.L a_12)) <|
      x_some (σ.R 1112 a0) fun a_14 =>
      x_chk (σ.K a_14 = 31 ∧ x_in ((16 * v2) + (σ.AI a_12 (Int32.toNatClampNeg v3))) (σ.L a_14)) <|
      dm_X12_refWidth_p70 P a0 (σ.AI a_14 (Int32.toNatClampNeg ((16 * v2) + (σ.AI a_12 (Int32.toNatClampNeg v3))))) σ
    else
      if v_4 = 1 then
        dm_X12_refWidth_p70 P a0 1 σ
      else
        x_some (σ.R 1119 a0) fun a_8 =>
        x_chk (σ.K a_8 = 31 ∧ x_in v3 (σ.L a_8)) <|
        x_some (σ.R 1120 a0) fun a_10 =>
        x_chk (σ.K a_10 = 31 ∧ x_in v3 (σ.L a_10)) <|
        dm_X12_refWidth_p70 P a0 (((σ.AI a_8 (Int32.toNatClampNeg v3)) - (σ.AI a_10 (Int32.toNatClampNeg v3))) + 1) σ
def dm_X12_late_p25 (P : xP) (a0 : Nat) (s0 : Option Nat) (s1 : Int32) (σ : xS) : xO Unit :=
  x_some s0 fun a_1 =>
  x_chk ((σ.K a_1 = 12) ∧ P.base ≤ a_1) <|
  x_let (σ.setI 1139 a_1 s1) fun σ_3 =>
  some (.inl (), σ_3)
def dm_X12_late_p17 (P : xP) (a0 : Nat) (v1 : Int32) (s0 : Option Nat) (σ : xS) : xO Unit :=
  dm_X12_late_p25 P a0 s0 v1 σ
def dm_X12_late (P : xP) (a0 : Nat) (v1 : Int32) (σ : xS) : xO Unit :=
  x_chk (σ.K a0 = 12) <|
  if (σ.I 1139 a0) = (-1) then
    dm_X12_late_p17 P a0 v1 (some a0) σ
  else
    if (σ.I 1139 a0) ≤ v1 then
      dm_X12_late_p25 P a0 (some a0) (σ.I 1139 a0) σ
    else
      dm_X12_late_p17 P a0 v1 (some a0) σ
def dm_X12_portNamed_p42 (P : xP) (k5 : Int32 → Int32 → Int32 → Int32 → xS → xO Int32) (a0 : Nat) (v1 : Int32) (v2 : Int32) (v4 : Int32) (s0 : Int32) (σ : xS) : xO Int32 :=
  x_let (v4 + 1) fun v_1 =>
  k5 v1 v2 s0 v_1 σ
def dm_X12_portNamed_L5 (P : xP) (a0 : Nat) : Nat → Int32 → Int32 → Int32 → Int32 → xS → xO Int32
  | 0, _, _, _, _, _ => none
  | n + 1, v1, v2, v3, v4, σ =>
    x_chk (σ.K a0 = 12) <|
    x_some (σ.R 1108 a0) fun a_2 =>
    x_chk (σ.K a_2 = 31 ∧ x_in v1 (σ.L a_2)) <|
    if (σ.AI a_2 (Int32.toNatClampNeg v1)) ≤ v4 then
      some (.inl v3, σ)
    else
      x_some (σ.R 1110 a0) fun a_5 =>
      x_chk (σ.K a_5 = 31 ∧ x_in ((16 * v1) + v4) (σ.L a_5)) <|
      x_bind (dm_X12_areSame P a0 (σ.AI a_5 (Int32.toNatClampNeg ((16 * v1) + v4))) v2 σ) (fun v_7 σ_8 =>
        if v_7 = 0 then
          dm_X12_portNamed_p42 P (dm_X12_portNamed_L5 P a0 n) a0 v1 v2 v4 v3 σ_8
        else
          dm_X12_portNamed_p42 P (dm_X12_portNamed_L5 P a0 n) a0 v1 v2 v4 v4 σ_8
        ) (fun E_11 σ_8 =>
        some (.inr E_11, σ_8)
        )
def dm_X12_portNamed (P : xP) (a0 : Nat) (v1 : Int32) (v2 : Int32) (σ : xS) : xO Int32 :=
  dm_X12_portNamed_L5 P a0 P.N v1 v2 (-1) 0 σ
def dm_X12_checkInstance_p232 (P : xP) (k72 : Int32 → Int32 → Int32 → Int32 → xS → xO Unit) (a0 : Nat) (v1 : Int32) (v2 : Int32) (v3 : Int32) (v4 : Int32) (σ : xS) : xO Unit :=
  x_let (v4 + 1) fun v_1 =>
  k72 v1 v2 v3 v_1 σ
def dm_X12_checkInstance_p168 (P : xP) (k72 : Int32 → Int32 → Int32 → Int32 → xS → xO Unit) (a0 : Nat) (v1 : Int32) (v2 : Int32) (v3 : Int32) (v4 : Int32) (s0 : Option Nat) (s1 : Int32) (σ : xS) : xO Unit :=
  x_some s0 fun a_1 =>
  x_chk (σ.K a_1 = 12) <|
  x_bind (dm_X12_late P a_1 s1 σ) (fun _ σ_3 =>
    dm_X12_checkInstance_p232 P k72 a0 v1 v2 v3 v4 σ_3
    ) (fun E_6 σ_3 =>
    some (.inr E_6, σ_3)
    )
def dm_X12_checkInstance_p133 (P : xP) (k72 : Int32 → Int32 → Int32 → Int32 → xS → xO Unit) (a0 : Nat) (v1 : Int32) (v2 : Int32) (v3 : Int32) (v4 : Int32) (v5 : Int32) (s0 : Int32) (σ : xS) : xO Unit :=
  if s0 = (-1) then
    x_chk (σ.K a0 = 12) <|
    x_some (σ.R 1127 a0) fun a_23 =>
    x_chk (σ.K a_23 = 33 ∧ x_in v2 (σ.L a_23)) <|
    if (σ.AI a_23 (Int32.toNatClampNeg v2)) = 0 then
      x_some (σ.R 1132 a0) fun a_26 =>
      x_chk (σ.K a_26 = 31 ∧ x_in v5 (σ.L a_26)) <|
      dm_X12_checkInstance_p168 P k72 a0 v1 v2 v3 v4 (some a0) (σ.AI a_26 (Int32.toNatClampNeg v5)) σ
    else
      x_some (σ.R 1131 a0) fun a_28 =>
      x_chk (σ.K a_28 = 31 ∧ x_in v5 (σ.L a_28)) <|
      dm_X12_checkInstance_p168 P k72 a0 v1 v2 v3 v4 (some a0) (σ.AI a_28 (Int32.toNatClampNeg v5)) σ
  else
    x_chk (σ.K a0 = 12) <|
    x_some (σ.R 1130 a0) fun a_3 =>
    x_chk (σ.K a_3 = 31 ∧ x_in v5 (σ.L a_3)) <|
    if (σ.AI a_3 (Int32.toNatClampNeg v5)) = (-1) then
      dm_X12_checkInstance_p232 P k72 a0 v1 v2 v3 v4 σ
    else
      x_bind (dm_X12_refWidth P a0 (σ.I 1140 a0) v1 (σ.AI a_3 (Int32.toNatClampNeg v5)) σ) (fun v_6 σ_7 =>
        x_chk (σ_7.K a0 = 12) <|
        x_some (σ_7.R 1112 a0) fun a_10 =>
        x_chk (σ_7.K a_10 = 31 ∧ x_in ((16 * v3) + s0) (σ_7.L a_10)) <|
        if v_6 = (σ_7.AI a_10 (Int32.toNatClampNeg ((16 * v3) + s0))) then
          dm_X12_checkInstance_p232 P k72 a0 v1 v2 v3 v4 σ_7
        else
          x_some (σ_7.R 1130 a0) fun a_13 =>
          x_chk (σ_7.K a_13 = 31 ∧ x_in v5 (σ_7.L a_13)) <|
          x_some (σ_7.R 1116 a0) fun a_15 =>
          x_chk (σ_7.K a_15 = 31 ∧ x_in (σ_7.AI a_13 (Int32.toNatClampNeg v5)) (σ_7.L a_15)) <|
          x_bind (dm_X12_late P a0 (σ_7.AI a_15 (Int32.toNatClampNeg (σ_7.AI a_13 (Int32.toNatClampNeg v5)))) σ_7) (fun _ σ_18 =>
            dm_X12_checkInstance_p232 P k72 a0 v1 v2 v3 v4 σ_18
            ) (fun E_20 σ_18 =>
            some (.inr E_20, σ_18)
            )
        ) (fun E_21 σ_7 =>
        some (.inr E_21, σ_7)
        )
def dm_X12_checkInstance_L72 (P : xP) (a0 : Nat) : Nat → Int32 → Int32 → Int32 → Int32 → xS → xO Unit
  | 0, _, _, _, _, _ => none
  | n + 1, v1, v2, v3, v4, σ =>
    x_chk (σ.K a0 = 12) <|
    x_some (σ.R 1129 a0) fun a_2 =>
    x_chk (σ.K a_2 = 31 ∧ x_in v2 (σ.L a_2)) <|
    if (σ.AI a_2 (Int32.toNatClampNeg v2)) ≤ v4 then
      some (.inl (), σ)
    else
      x_let (((16 * v2) + v4)) fun v_5 =>
      x_some (σ.R 1127 a0) fun a_6 =>
      x_chk (σ.K a_6 = 33 ∧ x_in v2 (σ.L a_6)) <|
      if (σ.AI a_6 (Int32.toNatClampNeg v2)) = 0 then
        x_some (σ.R 1108 a0) fun a_9 =>
        x_chk (σ.K a_9 = 31 ∧ x_in v3 (σ.L a_9)) <|
        if (σ.AI a_9 (Int32.toNatClampNeg v3)) ≤ v4 then
          dm_X12_checkInstance_p133 P (dm_X12_checkInstance_L72 P a0 n) a0 v1 v2 v3 v4 v_5 (-1) σ
        else
          dm_X12_checkInstance_p133 P (dm_X12_checkInstance_L72 P a0 n) a0 v1 v2 v3 v4 v_5 v4 σ
      else
        x_some (σ.R 1131 a0) fun a_12 =>
        x_chk (σ.K a_12 = 31 ∧ x_in v_5 (σ.L a_12)) <|
        x_bind (dm_X12_portNamed P a0 v3 (σ.AI a_12 (Int32.toNatClampNeg v_5)) σ) (fun v_14 σ_15 =>
          dm_X12_checkInstance_p133 P (dm_X12_checkInstance_L72 P a0 n) a0 v1 v2 v3 v4 v_5 v_14 σ_15
          ) (fun E_17 σ_15 =>
          some (.inr E_17, σ_15)
          )
def dm_X12_checkInstance_p69 (P : xP) (a0 : Nat) (v1 : Int32) (v2 : Int32) (v3 : Int32) (σ : xS) : xO Unit :=
  dm_X12_checkInstance_L72 P a0 P.N v1 v2 v3 0 σ
def dm_X12_checkInstance_p28 (P : xP) (a0 : Nat) (v1 : Int32) (v2 : Int32) (s0 : Int32) (σ : xS) : xO Unit :=
  if s0 = (-1) then
    some (.inl (), σ)
  else
    x_chk (σ.K a0 = 12) <|
    x_some (σ.R 1127 a0) fun a_3 =>
    x_chk (σ.K a_3 = 33 ∧ x_in v2 (σ.L a_3)) <|
    if (σ.AI a_3 (Int32.toNatClampNeg v2)) = 0 then
      x_some (σ.R 1129 a0) fun a_6 =>
      x_chk (σ.K a_6 = 31 ∧ x_in v2 (σ.L a_6)) <|
      x_some (σ.R 1108 a0) fun a_8 =>
      x_chk (σ.K a_8 = 31 ∧ x_in s0 (σ.L a_8)) <|
      if (σ.AI a_8 (Int32.toNatClampNeg s0)) ≤ (σ.AI a_6 (Int32.toNatClampNeg v2)) then
        dm_X12_checkInstance_p69 P a0 v1 v2 s0 σ
      else
        x_some (σ.R 1126 a0) fun a_11 =>
        x_chk (σ.K a_11 = 31 ∧ x_in v2 (σ.L a_11)) <|
        x_bind (dm_X12_late P a0 (σ.AI a_11 (Int32.toNatClampNeg v2)) σ) (fun _ σ_14 =>
          dm_X12_checkInstance_p69 P a0 v1 v2 s0 σ_14
          ) (fun E_16 σ_14 =>
          some (.inr E_16, σ_14)
          )
    else
      dm_X12_checkInstance_p69 P a0 v1 v2 s0 σ
def dm_X12_checkInstance (P : xP) (a0 : Nat) (v1 : Int32) (v2 : Int32) (σ : xS) : xO Unit :=
  x_chk (σ.K a0 = 12) <|
  x_some (σ.R 1128 a0) fun a_2 =>
  x_chk (σ.K a_2 = 31 ∧ x_in v2 (σ.L a_2)) <|
  if (σ.AI a_2 (Int32.toNatClampNeg v2)) = (-1) then
    dm_X12_checkInstance_p28 P a0 v1 v2 (-1) σ
  else
    dm_X12_checkInstance_p28 P a0 v1 v2 ((8 * (σ.I 1140 a0)) + (σ.AI a_2 (Int32.toNatClampNeg v2))) σ
def dm_X12_checkAll_L27 (P : xP) (k2 : Int32 → xS → xO Unit) (a0 : Nat) : Nat → Int32 → Int32 → Int32 → xS → xO Unit
  | 0, _, _, _, _ => none
  | n + 1, v1, v2, v3, σ =>
    x_chk (σ.K a0 = 12) <|
    x_some (σ.R 1124 a0) fun a_2 =>
    x_chk (σ.K a_2 = 31 ∧ x_in v2 (σ.L a_2)) <|
    if (σ.AI a_2 (Int32.toNatClampNeg v2)) ≤ v3 then
      x_let (v1 + 1) fun v_5 =>
      k2 v_5 σ
    else
      x_some (σ.R 1125 a0) fun a_6 =>
      x_chk (σ.K a_6 = 31 ∧ x_in ((12 * v2) + v3) (σ.L a_6)) <|
      x_bind (dm_X12_moduleNamed P a0 (σ.AI a_6 (Int32.toNatClampNeg ((12 * v2) + v3))) σ) (fun v_8 σ_9 =>
        x_some (σ.R 1128 a0) fun a_11 =>
        x_chk (σ_9.K a_11 = 31 ∧ x_in ((12 * v2) + v3) (σ_9.L a_11) ∧ P.base ≤ a_11) <|
        x_let (σ_9.setAI a_11 (Int32.toNatClampNeg ((12 * v2) + v3)) v_8) fun σ_13 =>
        x_let (v3 + 1) fun v_14 =>
        dm_X12_checkAll_L27 P k2 a0 n v1 v2 v_14 σ_13
        ) (fun E_15 σ_9 =>
        some (.inr E_15, σ_9)
        )
def dm_X12_checkAll_p170 (P : xP) (k102 : Int32 → Int32 → Int32 → xS → xO Unit) (k77 : Int32 → xS → xO Unit) (a0 : Nat) (v1 : Int32) (v2 : Int32) (v3 : Int32) (σ : xS) : xO Unit :=
  x_let (v3 + 1) fun v_1 =>
  k102 v1 v2 v_1 σ
def dm_X12_checkAll_L178 (P : xP) (k77 : Int32 → xS → xO Unit) (a0 : Nat) : Nat → Int32 → Int32 → Int32 → xS → xO Unit
  | 0, _, _, _, _ => none
  | n + 1, v1, v2, v3, σ =>
    x_chk (σ.K a0 = 12) <|
    x_some (σ.R 1124 a0) fun a_2 =>
    x_chk (σ.K a_2 = 31 ∧ x_in v2 (σ.L a_2)) <|
    if (σ.AI a_2 (Int32.toNatClampNeg v2)) ≤ v3 then
      x_let (v1 + 1) fun v_5 =>
      k77 v_5 σ
    else
      x_bind (dm_X12_checkInstance P a0 v2 ((12 * v2) + v3) σ) (fun _ σ_7 =>
        x_let (v3 + 1) fun v_9 =>
        dm_X12_checkAll_L178 P k77 a0 n v1 v2 v_9 σ_7
        ) (fun E_10 σ_7 =>
        some (.inr E_10, σ_7)
        )
def dm_X12_checkAll_L102 (P : xP) (k77 : Int32 → xS → xO Unit) (a0 : Nat) : Nat → Int32 → Int32 → Int32 → xS → xO Unit
  | 0, _, _, _, _ => none
  | n + 1, v1, v2, v3, σ =>
    x_chk (σ.K a0 = 12) <|
    x_some (σ.R 1121 a0) fun a_2 =>
    x_chk (σ.K a_2 = 31 ∧ x_in v2 (σ.L a_2)) <|
    if (σ.AI a_2 (Int32.toNatClampNeg v2)) ≤ v3 then
      dm_X12_checkAll_L178 P k77 a0 P.N v1 v2 0 σ
    else
      x_some (σ.R 1123 a0) fun a_5 =>
      x_chk (σ.K a_5 = 31 ∧ x_in ((8 * v2) + v3) (σ.L a_5)) <|
      x_let ((σ.AI a_5 (Int32.toNatClampNeg ((8 * v2) + v3)))) fun v_7 =>
      x_some (σ.R 1122 a0) fun a_8 =>
      x_chk (σ.K a_8 = 31 ∧ x_in ((8 * v2) + v3) (σ.L a_8)) <|
      x_bind (dm_X12_refWidth P a0 (σ.I 1140 a0) v2 (σ.AI a_8 (Int32.toNatClampNeg ((8 * v2) + v3))) σ) (fun v_10 σ_11 =>
        x_chk (σ_11.K a0 = 12) <|
        x_bind (dm_X12_refWidth P a0 (σ_11.I 1140 a0) v2 v_7 σ_11) (fun v_14 σ_15 =>
          if v_10 = v_14 then
            dm_X12_checkAll_p170 P (dm_X12_checkAll_L102 P k77 a0 n) k77 a0 v1 v2 v3 σ_15
          else
            x_chk (σ_15.K a0 = 12) <|
            x_some (σ_15.R 1116 a0) fun a_19 =>
            x_chk (σ_15.K a_19 = 31 ∧ x_in v_7 (σ_15.L a_19)) <|
            x_bind (dm_X12_late P a0 (σ_15.AI a_19 (Int32.toNatClampNeg v_7)) σ_15) (fun _ σ_22 =>
              dm_X12_checkAll_p170 P (dm_X12_checkAll_L102 P k77 a0 n) k77 a0 v1 v2 v3 σ_22
              ) (fun E_24 σ_22 =>
              some (.inr E_24, σ_22)
              )
          ) (fun E_25 σ_15 =>
          some (.inr E_25, σ_15)
          )
        ) (fun E_26 σ_11 =>
        some (.inr E_26, σ_11)
        )
def dm_X12_checkAll_L77 (P : xP) (a0 : Nat) : Nat → Int32 → xS → xO Unit
  | 0, _, _ => none
  | n + 1, v1, σ =>
    x_chk (σ.K a0 = 12) <|
    x_some (σ.R 1106 a0) fun a_2 =>
    x_chk (σ.K a_2 = 31 ∧ x_in (σ.I 1140 a0) (σ.L a_2)) <|
    if (σ.AI a_2 (Int32.toNatClampNeg (σ.I 1140 a0))) ≤ v1 then
      some (.inl (), σ)
    else
      x_let (((8 * (σ.I 1140 a0)) + v1)) fun v_5 =>
      dm_X12_checkAll_L102 P (dm_X12_checkAll_L77 P a0 n) a0 P.N v1 v_5 0 σ
def dm_X12_checkAll_L2 (P : xP) (a0 : Nat) : Nat → Int32 → xS → xO Unit
  | 0, _, _ => none
  | n + 1, v1, σ =>
    x_chk (σ.K a0 = 12) <|
    x_some (σ.R 1106 a0) fun a_2 =>
    x_chk (σ.K a_2 = 31 ∧ x_in (σ.I 1140 a0) (σ.L a_2)) <|
    if (σ.AI a_2 (Int32.toNatClampNeg (σ.I 1140 a0))) ≤ v1 then
      dm_X12_checkAll_L77 P a0 P.N 0 σ
    else
      x_let (((8 * (σ.I 1140 a0)) + v1)) fun v_5 =>
      dm_X12_checkAll_L27 P (dm_X12_checkAll_L2 P a0 n) a0 P.N v1 v_5 0 σ
def dm_X12_checkAll (P : xP) (a0 : Nat) (σ : xS) : xO Unit :=
  dm_X12_checkAll_L2 P a0 P.N 0 σ
def dm_X12_reached_p106 (P : xP) (k45 : Int32 → Int32 → Int32 → Int32 → Int32 → Int32 → Int32 → xS → xO Int32) (k16 : Int32 → Int32 → Int32 → Int32 → Int32 → xS → xO Int32) (k4 : Int32 → Int32 → Int32 → xS → xO Int32) (a0 : Nat) (v1 : Int32) (v2 : Int32) (v3 : Int32) (v5 : Int32) (v6 : Int32) (v7 : Int32) (s0 : Int32) (σ : xS) : xO Int32 :=
  x_let (v7 + 1) fun v_1 =>
  k45 v1 v2 v3 s0 v5 v6 v_1 σ
def dm_X12_reached_p73 (P : xP) (k45 : Int32 → Int32 → Int32 → Int32 → Int32 → Int32 → Int32 → xS → xO Int32) (k16 : Int32 → Int32 → Int32 → Int32 → Int32 → xS → xO Int32) (k4 : Int32 → Int32 → Int32 → xS → xO Int32) (a0 : Nat) (v1 : Int32) (v2 : Int32) (v3 : Int32) (v4 : Int32) (v5 : Int32) (v6 : Int32) (v7 : Int32) (σ : xS) : xO Int32 :=
  x_chk (σ.K a0 = 12) <|
  x_some (σ.R 1128 a0) fun a_2 =>
  x_chk (σ.K a_2 = 31 ∧ x_in ((12 * v6) + v7) (σ.L a_2)) <|
  x_let ((σ.AI a_2 (Int32.toNatClampNeg ((12 * v6) + v7)))) fun v_4 =>
  if v_4 = (-1) then
    dm_X12_reached_p106 P k45 k16 k4 a0 v1 v2 v3 v5 v6 v7 v4 σ
  else
    dm_X12_reached_p106 P k45 k16 k4 a0 v1 v2 v3 v5 v6 v7 (v4 ||| (1 <<< (v_4 &&& 31))) σ
def dm_X12_reached_p114 (P : xP) (k16 : Int32 → Int32 → Int32 → Int32 → Int32 → xS → xO Int32) (k4 : Int32 → Int32 → Int32 → xS → xO Int32) (a0 : Nat) (v1 : Int32) (v2 : Int32) (v3 : Int32) (v4 : Int32) (v5 : Int32) (σ : xS) : xO Int32 :=
  x_let (v5 + 1) fun v_1 =>
  k16 v1 v2 v3 v4 v_1 σ
def dm_X12_reached_L45 (P : xP) (k16 : Int32 → Int32 → Int32 → Int32 → Int32 → xS → xO Int32) (k4 : Int32 → Int32 → Int32 → xS → xO Int32) (a0 : Nat) : Nat → Int32 → Int32 → Int32 → Int32 → Int32 → Int32 → Int32 → xS → xO Int32
  | 0, _, _, _, _, _, _, _, _ => none
  | n + 1, v1, v2, v3, v4, v5, v6, v7, σ =>
    x_chk (σ.K a0 = 12) <|
    x_some (σ.R 1124 a0) fun a_2 =>
    x_chk (σ.K a_2 = 31 ∧ x_in v6 (σ.L a_2)) <|
    if (σ.AI a_2 (Int32.toNatClampNeg v6)) ≤ v7 then
      dm_X12_reached_p114 P k16 k4 a0 v1 v2 v3 v4 v5 σ
    else
      if v5 = v1 then
        dm_X12_reached_p73 P (dm_X12_reached_L45 P k16 k4 a0 n) k16 k4 a0 v1 v2 v3 v4 v5 v6 v7 σ
      else
        if ((v2 >>> (v5 &&& 31)) &&& 1) = 1 then
          dm_X12_reached_p73 P (dm_X12_reached_L45 P k16 k4 a0 n) k16 k4 a0 v1 v2 v3 v4 v5 v6 v7 σ
        else
          dm_X12_reached_p114 P k16 k4 a0 v1 v2 v3 v4 v5 σ
def dm_X12_reached_L16 (P : xP) (k4 : Int32 → Int32 → Int32 → xS → xO Int32) (a0 : Nat) : Nat → Int32 → Int32 → Int32 → Int32 → Int32 → xS → xO Int32
  | 0, _, _, _, _, _, _ => none
  | n + 1, v1, v2, v3, v4, v5, σ =>
    x_chk (σ.K a0 = 12) <|
    x_some (σ.R 1106 a0) fun a_2 =>
    x_chk (σ.K a_2 = 31 ∧ x_in (σ.I 1140 a0) (σ.L a_2)) <|
    if (σ.AI a_2 (Int32.toNatClampNeg (σ.I 1140 a0))) ≤ v5 then
      x_let (v3 + 1) fun v_5 =>
      k4 v1 v4 v_5 σ
    else
      x_let (((8 * (σ.I 1140 a0)) + v5)) fun v_6 =>
      dm_X12_reached_L45 P (dm_X12_reached_L16 P k4 a0 n) k4 a0 P.N v1 v2 v3 v4 v5 v_6 0 σ
def dm_X12_reached_L4 (P : xP) (a0 : Nat) : Nat → Int32 → Int32 → Int32 → xS → xO Int32
  | 0, _, _, _, _ => none
  | n + 1, v1, v2, v3, σ =>
    if 8 ≤ v3 then
      some (.inl v2, σ)
    else
      dm_X12_reached_L16 P (dm_X12_reached_L4 P a0 n) a0 P.N v1 v2 v3 v2 0 σ
def dm_X12_reached (P : xP) (a0 : Nat) (v1 : Int32) (σ : xS) : xO Int32 :=
  dm_X12_reached_L4 P a0 P.N v1 0 0 σ
def dm_X12_checkRings_p53 (P : xP) (k2 : Int32 → xS → xO Unit) (a0 : Nat) (v1 : Int32) (σ : xS) : xO Unit :=
  x_let (v1 + 1) fun v_1 =>
  k2 v_1 σ
def dm_X12_checkRings_p59 (P : xP) (a0 : Nat) (σ : xS) : xO Unit :=
  some (.inl (), σ)
def dm_X12_checkRings_L2 (P : xP) (a0 : Nat) : Nat → Int32 → xS → xO Unit
  | 0, _, _ => none
  | n + 1, v1, σ =>
    x_chk (σ.K a0 = 12) <|
    x_some (σ.R 1106 a0) fun a_2 =>
    x_chk (σ.K a_2 = 31 ∧ x_in (σ.I 1140 a0) (σ.L a_2)) <|
    if (σ.AI a_2 (Int32.toNatClampNeg (σ.I 1140 a0))) ≤ v1 then
      dm_X12_checkRings_p59 P a0 σ
    else
      x_bind (dm_X12_ok P a0 σ) (fun v_5 σ_6 =>
        if v_5 = 0 then
          dm_X12_checkRings_p59 P a0 σ_6
        else
          x_chk (σ_6.K a0 = 12) <|
          x_bind (dm_X12_reached P a0 v1 σ_6) (fun v_9 σ_10 =>
            if ((v_9 >>> (v1 &&& 31)) &&& 1) = 1 then
              x_chk (σ_10.K a0 = 12) <|
              x_some (σ_10.R 1107 a0) fun a_15 =>
              x_chk (σ_10.K a_15 = 31 ∧ x_in ((8 * (σ_10.I 1140 a0)) + v1) (σ_10.L a_15)) <|
              x_bind (dm_X12_fail P a0 (σ_10.AI a_15 (Int32.toNatClampNeg ((8 * (σ_10.I 1140 a0)) + v1))) σ_10) (fun _ σ_18 =>
                dm_X12_checkRings_p53 P (dm_X12_checkRings_L2 P a0 n) a0 v1 σ_18
                ) (fun E_20 σ_18 =>
                some (.inr E_20, σ_18)
                )
            else
              dm_X12_checkRings_p53 P (dm_X12_checkRings_L2 P a0 n) a0 v1 σ_10
            ) (fun E_21 σ_10 =>
            some (.inr E_21, σ_10)
            )
        ) (fun E_22 σ_6 =>
        some (.inr E_22, σ_6)
        )
def dm_X12_checkRings (P : xP) (a0 : Nat) (σ : xS) : xO Unit :=
  dm_X12_checkRings_L2 P a0 P.N 0 σ
def dm_X12_finish_L19 (P : xP) (k2 : Int32 → xS → xO Unit) (a0 : Nat) : Nat → Int32 → Int32 → Int32 → xS → xO Unit
  | 0, _, _, _, _ => none
  | n + 1, v1, v2, v3, σ =>
    x_chk (σ.K a0 = 12) <|
    x_some (σ.R 1109 a0) fun a_2 =>
    x_chk (σ.K a_2 = 31 ∧ x_in ((8 * (σ.I 1140 a0)) + v1) (σ.L a_2)) <|
    if (σ.AI a_2 (Int32.toNatClampNeg ((8 * (σ.I 1140 a0)) + v1))) ≤ v3 then
      x_some (σ.R 1133 a0) fun a_5 =>
      x_chk (σ.K a_5 = 31 ∧ x_in ((8 * (σ.I 1140 a0)) + v1) (σ.L a_5) ∧ P.base ≤ a_5) <|
      x_let (σ.setAI a_5 (Int32.toNatClampNeg ((8 * (σ.I 1140 a0)) + v1)) 0) fun σ_7 =>
      x_let (v1 + 1) fun v_8 =>
      k2 v_8 σ_7
    else
      x_some (σ.R 1113 a0) fun a_9 =>
      x_chk (σ.K a_9 = 31 ∧ x_in ((16 * ((8 * (σ.I 1140 a0)) + v1)) + v3) (σ.L a_9) ∧ P.base ≤ a_9) <|
      x_let (σ.setAI a_9 (Int32.toNatClampNeg ((16 * ((8 * (σ.I 1140 a0)) + v1)) + v3)) v2) fun σ_11 =>
      x_chk (σ_11.K a0 = 12) <|
      x_some (σ_11.R 1112 a0) fun a_13 =>
      x_chk (σ_11.K a_13 = 31 ∧ x_in ((16 * ((8 * (σ_11.I 1140 a0)) + v1)) + v3) (σ_11.L a_13)) <|
      x_let ((v2 + (σ_11.AI a_13 (Int32.toNatClampNeg ((16 * ((8 * (σ_11.I 1140 a0)) + v1)) + v3))))) fun v_15 =>
      x_let (v3 + 1) fun v_16 =>
      dm_X12_finish_L19 P k2 a0 n v1 v_15 v_16 σ_11
def dm_X12_finish_p223 (P : xP) (k142 : Int32 → Int32 → Int32 → Int32 → xS → xO Unit) (k116 : Int32 → Int32 → xS → xO Unit) (k108 : Int32 → xS → xO Unit) (a0 : Nat) (v1 : Int32) (v2 : Int32) (v3 : Int32) (v4 : Int32) (s0 : Option Nat) (s1 : Int32) (s2 : Int32) (σ : xS) : xO Unit :=
  x_some s0 fun a_1 =>
  x_chk (σ.K a_1 = 31 ∧ x_in s1 (σ.L a_1) ∧ P.base ≤ a_1) <|
  x_let (σ.setAI a_1 (Int32.toNatClampNeg s1) s2) fun σ_3 =>
  x_let (v4 + 1) fun v_4 =>
  k142 v1 v2 v3 v_4 σ_3
def dm_X12_finish_p194 (P : xP) (k142 : Int32 → Int32 → Int32 → Int32 → xS → xO Unit) (k116 : Int32 → Int32 → xS → xO Unit) (k108 : Int32 → xS → xO Unit) (a0 : Nat) (v1 : Int32) (v2 : Int32) (v3 : Int32) (v4 : Int32) (s0 : Int32) (σ : xS) : xO Unit :=
  x_chk (σ.K a0 = 12) <|
  x_some (σ.R 1133 a0) fun a_2 =>
  x_chk (σ.K a_2 = 31 ∧ x_in v3 (σ.L a_2)) <|
  if s0 ≤ (σ.AI a_2 (Int32.toNatClampNeg v3)) then
    dm_X12_finish_p223 P k142 k116 k108 a0 v1 v2 v3 v4 (σ.R 1133 a0) v3 (σ.AI a_2 (Int32.toNatClampNeg v3)) σ
  else
    dm_X12_finish_p223 P k142 k116 k108 a0 v1 v2 v3 v4 (σ.R 1133 a0) v3 s0 σ
def dm_X12_finish_L142 (P : xP) (k116 : Int32 → Int32 → xS → xO Unit) (k108 : Int32 → xS → xO Unit) (a0 : Nat) : Nat → Int32 → Int32 → Int32 → Int32 → xS → xO Unit
  | 0, _, _, _, _, _ => none
  | n + 1, v1, v2, v3, v4, σ =>
    x_chk (σ.K a0 = 12) <|
    x_some (σ.R 1124 a0) fun a_2 =>
    x_chk (σ.K a_2 = 31 ∧ x_in v3 (σ.L a_2)) <|
    if (σ.AI a_2 (Int32.toNatClampNeg v3)) ≤ v4 then
      x_let (v2 + 1) fun v_5 =>
      k116 v1 v_5 σ
    else
      x_some (σ.R 1128 a0) fun a_6 =>
      x_chk (σ.K a_6 = 31 ∧ x_in ((12 * v3) + v4) (σ.L a_6)) <|
      x_let ((σ.AI a_6 (Int32.toNatClampNeg ((12 * v3) + v4)))) fun v_8 =>
      if v_8 = (-1) then
        dm_X12_finish_p194 P (dm_X12_finish_L142 P k116 k108 a0 n) k116 k108 a0 v1 v2 v3 v4 0 σ
      else
        x_some (σ.R 1133 a0) fun a_10 =>
        x_chk (σ.K a_10 = 31 ∧ x_in ((8 * (σ.I 1140 a0)) + v_8) (σ.L a_10)) <|
        dm_X12_finish_p194 P (dm_X12_finish_L142 P k116 k108 a0 n) k116 k108 a0 v1 v2 v3 v4 ((σ.AI a_10 (Int32.toNatClampNeg ((8 * (σ.I 1140 a0)) + v_8))) + 1) σ
def dm_X12_finish_L116 (P : xP) (k108 : Int32 → xS → xO Unit) (a0 : Nat) : Nat → Int32 → Int32 → xS → xO Unit
  | 0, _, _, _ => none
  | n + 1, v1, v2, σ =>
    x_chk (σ.K a0 = 12) <|
    x_some (σ.R 1106 a0) fun a_2 =>
    x_chk (σ.K a_2 = 31 ∧ x_in (σ.I 1140 a0) (σ.L a_2)) <|
    if (σ.AI a_2 (Int32.toNatClampNeg (σ.I 1140 a0))) ≤ v2 then
      x_let (v1 + 1) fun v_5 =>
      k108 v_5 σ
    else
      x_let (((8 * (σ.I 1140 a0)) + v2)) fun v_6 =>
      dm_X12_finish_L142 P (dm_X12_finish_L116 P k108 a0 n) k108 a0 P.N v1 v2 v_6 0 σ
def dm_X12_finish_L108 (P : xP) (a0 : Nat) : Nat → Int32 → xS → xO Unit
  | 0, _, _ => none
  | n + 1, v1, σ =>
    if 8 ≤ v1 then
      some (.inl (), σ)
    else
      dm_X12_finish_L116 P (dm_X12_finish_L108 P a0 n) a0 P.N v1 0 σ
def dm_X12_finish_L2 (P : xP) (a0 : Nat) : Nat → Int32 → xS → xO Unit
  | 0, _, _ => none
  | n + 1, v1, σ =>
    x_chk (σ.K a0 = 12) <|
    x_some (σ.R 1106 a0) fun a_2 =>
    x_chk (σ.K a_2 = 31 ∧ x_in (σ.I 1140 a0) (σ.L a_2)) <|
    if (σ.AI a_2 (Int32.toNatClampNeg (σ.I 1140 a0))) ≤ v1 then
      dm_X12_finish_L108 P a0 P.N 0 σ
    else
      dm_X12_finish_L19 P (dm_X12_finish_L2 P a0 n) a0 P.N v1 0 0 σ
def dm_X12_finish (P : xP) (a0 : Nat) (σ : xS) : xO Unit :=
  dm_X12_finish_L2 P a0 P.N 0 σ
def dm_X12_read_p160 (P : xP) (k131 : Int32 → xS → xO Int32) (a0 : Nat) (v1 : Int32) (σ : xS) : xO Int32 :=
  x_chk (σ.K a0 = 12) <|
  x_chk ((σ.K a0 = 12) ∧ P.base ≤ a0) <|
  x_let (σ.setI 1141 a0 ((σ.I 1141 a0) + 1)) fun σ_3 =>
  x_chk (σ_3.K a0 = 12) <|
  x_some (σ_3.R 1106 a0) fun a_5 =>
  x_chk (σ_3.K a_5 = 31 ∧ x_in (σ_3.I 1140 a0) (σ_3.L a_5) ∧ P.base ≤ a_5) <|
  x_let (σ_3.setAI a_5 (Int32.toNatClampNeg (σ_3.I 1140 a0)) (σ_3.I 1141 a0)) fun σ_7 =>
  k131 v1 σ_7
def dm_X12_read_p208 (P : xP) (a0 : Nat) (σ : xS) : xO Int32 :=
  x_chk (σ.K a0 = 12) <|
  x_bind (dm_X12_ok P a0 σ) (fun v_1 σ_2 =>
    if v_1 = 0 then
      x_chk (σ_2.K a0 = 12) <|
      x_let ((σ_2.I 1139 a0)) fun v_18 =>
      x_chk ((σ_2.K a0 = 12) ∧ P.base ≤ a0) <|
      x_let (σ_2.setI 1139 a0 (-1)) fun σ_20 =>
      some (.inl ((-1) - v_18), σ_20)
    else
      x_chk (σ_2.K a0 = 12) <|
      x_bind (dm_X12_finish P a0 σ_2) (fun _ σ_7 =>
        x_chk (σ_7.K a0 = 12) <|
        x_chk ((σ_7.K a0 = 12) ∧ P.base ≤ a0) <|
        x_let (σ_7.setI 1103 a0 (σ_7.I 1140 a0)) fun σ_12 =>
        x_chk (σ_12.K a0 = 12) <|
        x_some (σ_12.R 1106 a0) fun a_14 =>
        x_chk (σ_12.K a_14 = 31 ∧ x_in (σ_12.I 1103 a0) (σ_12.L a_14)) <|
        some (.inl (σ_12.AI a_14 (Int32.toNatClampNeg (σ_12.I 1103 a0))), σ_12)
        ) (fun E_16 σ_7 =>
        some (.inr E_16, σ_7)
        )
    ) (fun E_21 σ_2 =>
    some (.inr E_21, σ_2)
    )
def dm_X12_read_p197 (P : xP) (a0 : Nat) (σ : xS) : xO Int32 :=
  x_chk (σ.K a0 = 12) <|
  x_bind (dm_X12_ok P a0 σ) (fun v_1 σ_2 =>
    if v_1 = 0 then
      dm_X12_read_p208 P a0 σ_2
    else
      x_chk (σ_2.K a0 = 12) <|
      x_bind (dm_X12_checkRings P a0 σ_2) (fun _ σ_7 =>
        dm_X12_read_p208 P a0 σ_7
        ) (fun E_10 σ_7 =>
        some (.inr E_10, σ_7)
        )
    ) (fun E_11 σ_2 =>
    some (.inr E_11, σ_2)
    )
def dm_X12_read_p186 (P : xP) (a0 : Nat) (σ : xS) : xO Int32 :=
  x_chk (σ.K a0 = 12) <|
  x_bind (dm_X12_ok P a0 σ) (fun v_1 σ_2 =>
    if v_1 = 0 then
      dm_X12_read_p197 P a0 σ_2
    else
      x_chk (σ_2.K a0 = 12) <|
      x_bind (dm_X12_checkAll P a0 σ_2) (fun _ σ_7 =>
        dm_X12_read_p197 P a0 σ_7
        ) (fun E_10 σ_7 =>
        some (.inr E_10, σ_7)
        )
    ) (fun E_11 σ_2 =>
    some (.inr E_11, σ_2)
    )
def dm_X12_read_L131 (P : xP) (a0 : Nat) : Nat → Int32 → xS → xO Int32
  | 0, _, _ => none
  | n + 1, v1, σ =>
    x_chk (σ.K a0 = 12) <|
    x_bind (dm_X12_ok P a0 σ) (fun v_1 σ_2 =>
      if v_1 = 0 then
        dm_X12_read_p186 P a0 σ_2
      else
        x_chk (σ_2.K a0 = 12) <|
        if (σ_2.I 1135 a0) = 0 then
          dm_X12_read_p186 P a0 σ_2
        else
          if v1 = 0 then
            x_bind (dm_X12_longModule P a0 σ_2) (fun _ σ_14 =>
              dm_X12_read_p160 P (dm_X12_read_L131 P a0 n) a0 v1 σ_14
              ) (fun E_16 σ_14 =>
              some (.inr E_16, σ_14)
              )
          else
            x_bind (dm_X12_shortModule P a0 σ_2) (fun _ σ_10 =>
              dm_X12_read_p160 P (dm_X12_read_L131 P a0 n) a0 v1 σ_10
              ) (fun E_12 σ_10 =>
              some (.inr E_12, σ_10)
              )
      ) (fun E_17 σ_2 =>
      some (.inr E_17, σ_2)
      )
def dm_X12_read_L52 (P : xP) (a0 : Nat) : Nat → Int32 → Int32 → xS → xO Int32
  | 0, _, _, _ => none
  | n + 1, v1, v2, σ =>
    x_chk (σ.K a0 = 12) <|
    if (σ.I 1102 a0) ≤ v2 then
      x_chk ((σ.K a0 = 12) ∧ P.base ≤ a0) <|
      x_let (σ.setI 1102 a0 0) fun σ_4 =>
      x_chk (σ_4.K a0 = 12) <|
      x_some (σ_4.R 1115 a0) fun a_6 =>
      x_chk (σ_4.K a_6 = 31 ∧ x_in (σ_4.I 1140 a0) (σ_4.L a_6) ∧ P.base ≤ a_6) <|
      x_let (σ_4.setAI a_6 (Int32.toNatClampNeg (σ_4.I 1140 a0)) 0) fun σ_8 =>
      x_chk (σ_8.K a0 = 12) <|
      x_some (σ_8.R 1106 a0) fun a_10 =>
      x_chk (σ_8.K a_10 = 31 ∧ x_in (σ_8.I 1140 a0) (σ_8.L a_10) ∧ P.base ≤ a_10) <|
      x_let (σ_8.setAI a_10 (Int32.toNatClampNeg (σ_8.I 1140 a0)) 0) fun σ_12 =>
      x_chk ((σ_12.K a0 = 12) ∧ P.base ≤ a0) <|
      x_let (σ_12.setI 1141 a0 0) fun σ_14 =>
      x_chk ((σ_14.K a0 = 12) ∧ P.base ≤ a0) <|
      x_let (σ_14.setI 1134 a0 0) fun σ_16 =>
      x_chk ((σ_16.K a0 = 12) ∧ P.base ≤ a0) <|
      x_let (σ_16.setI 1139 a0 (-1)) fun σ_18 =>
      x_chk (σ_18.K a0 = 12) <|
      x_bind (dm_X12_next P a0 σ_18) (fun _ σ_20 =>
        dm_X12_read_L131 P a0 P.N v1 σ_20
        ) (fun E_23 σ_20 =>
        some (.inr E_23, σ_20)
        )
    else
      x_some (σ.R 1101 a0) fun a_24 =>
      x_chk (σ.K a_24 = 31 ∧ x_in v2 (σ.L a_24)) <|
      x_some (σ.R 1104 a0) fun a_26 =>
      x_chk (σ.K a_26 = 31 ∧ x_in ((1000 * (σ.I 1140 a0)) + v2) (σ.L a_26) ∧ P.base ≤ a_26) <|
      x_let (σ.setAI a_26 (Int32.toNatClampNeg ((1000 * (σ.I 1140 a0)) + v2)) (σ.AI a_24 (Int32.toNatClampNeg v2))) fun σ_28 =>
      x_let (v2 + 1) fun v_29 =>
      dm_X12_read_L52 P a0 n v1 v_29 σ_28
def dm_X12_read_p15 (P : xP) (a0 : Nat) (v1 : Int32) (s0 : Option Nat) (s1 : Int32) (σ : xS) : xO Int32 :=
  x_some s0 fun a_1 =>
  x_chk ((σ.K a_1 = 12) ∧ P.base ≤ a_1) <|
  x_let (σ.setI 1100 a_1 s1) fun σ_3 =>
  x_chk (σ_3.K a0 = 12) <|
  if (σ_3.I 1100 a0) ≤ 0 then
    x_chk ((σ_3.K a0 = 12) ∧ P.base ≤ a0) <|
    x_let (σ_3.setI 1140 a0 (1 - (σ_3.I 1103 a0))) fun σ_7 =>
    x_chk (σ_7.K a0 = 12) <|
    x_some (σ_7.R 1105 a0) fun a_9 =>
    x_chk (σ_7.K a_9 = 31 ∧ x_in (σ_7.I 1140 a0) (σ_7.L a_9) ∧ P.base ≤ a_9) <|
    x_let (σ_7.setAI a_9 (Int32.toNatClampNeg (σ_7.I 1140 a0)) (σ_7.I 1102 a0)) fun σ_11 =>
    dm_X12_read_L52 P a0 P.N v1 0 σ_11
  else
    some (.inl 0, σ_3)
def dm_X12_read_p10 (P : xP) (a0 : Nat) (v1 : Int32) (s0 : Option Nat) (σ : xS) : xO Int32 :=
  dm_X12_read_p15 P a0 v1 s0 0 σ
def dm_X12_read (P : xP) (a0 : Nat) (v1 : Int32) (σ : xS) : xO Int32 :=
  if v1 = 0 then
    dm_X12_read_p10 P a0 v1 (some a0) σ
  else
    if v1 = 1 then
      dm_X12_read_p10 P a0 v1 (some a0) σ
    else
      dm_X12_read_p15 P a0 v1 (some a0) 1 σ
def dm_X12_thrown (P : xP) (a0 : Nat) (σ : xS) : xO Int32 :=
  x_chk (σ.K a0 = 12) <|
  some (.inl (σ.I 1100 a0), σ)
def dm_X11_module (P : xP) (a0 : Nat) (v1 : Int32) (v2 : Int32) (σ : xS) : xO Int32 :=
  x_chk (σ.K a0 = 11) <|
  x_bind (dm_X11_moduleAt P a0 v1 σ) (fun v_1 σ_2 =>
    x_let (v2) fun v_5 =>
    if v_5 = 0 then
      x_some v_1 fun a_7 =>
      x_chk (σ_2.K a_7 = 6) <|
      some (.inl (σ_2.I 505 a_7), σ_2)
    else
    if v_5 = 1 then
      x_some v_1 fun a_10 =>
      x_chk (σ_2.K a_10 = 6) <|
      some (.inl (σ_2.I 504 a_10), σ_2)
    else
    if v_5 = 2 then
      x_some v_1 fun a_13 =>
      x_chk (σ_2.K a_13 = 6) <|
      some (.inl (σ_2.I 506 a_13), σ_2)
    else
    if v_5 = 3 then
      x_some v_1 fun a_16 =>
      x_chk (σ_2.K a_16 = 6) <|
      some (.inl (σ_2.I 509 a_16), σ_2)
    else
    if v_5 = 4 then
      x_some v_1 fun a_19 =>
      x_chk (σ_2.K a_19 = 6) <|
      some (.inl (σ_2.I 511 a_19), σ_2)
    else
    if v_5 = 5 then
      x_some v_1 fun a_22 =>
      x_chk (σ_2.K a_22 = 6) <|
      some (.inl (σ_2.I 512 a_22), σ_2)
    else
      x_chk (σ_2.sz + 1 ≤ P.lim ∧ σ_2.su + 6 ≤ P.slim) <|
      some (.inr "java/lang/IndexOutOfBoundsException", σ_2.skip 6)
    ) (fun E_25 σ_2 =>
    some (.inr E_25, σ_2)
    )
def dm_L_module (P : xP) (v0 : Option Nat) (v1 : Int32) (v2 : Int32) (v3 : Option Nat) (σ : xS) : xO Int32 :=
  x_some v0 fun a_1 =>
  x_chk (σ.K a_1 = 11) <|
  x_bind (dm_X11_module P a_1 v1 v2 σ) (fun v_2 σ_3 =>
    x_some v3 fun a_6 =>
    x_chk (σ_3.K a_6 = 42 ∧ x_in 0 (σ_3.L a_6) ∧ P.base ≤ a_6) <|
    x_let (σ_3.setAJ a_6 (Int32.toNatClampNeg 0) (Int32.toInt64 v_2)) fun σ_8 =>
    some (.inl 0, σ_8)
    ) (fun E_9 σ_3 =>
    x_chk (E_9 = "java/lang/IndexOutOfBoundsException") <|
    some (.inl 1, σ_3)
    )
def dm_X12_isModule_p22 (P : xP) (a0 : Nat) (s0 : Int32) (σ : xS) : xO Int32 :=
  x_chk (x_bool s0) <|
  some (.inl s0, σ)
def dm_X12_isModule_p21 (P : xP) (a0 : Nat) (σ : xS) : xO Int32 :=
  dm_X12_isModule_p22 P a0 0 σ
def dm_X12_isModule (P : xP) (a0 : Nat) (v1 : Int32) (σ : xS) : xO Int32 :=
  if v1 < 0 then
    dm_X12_isModule_p21 P a0 σ
  else
    x_chk (σ.K a0 = 12) <|
    x_some (σ.R 1106 a0) fun a_3 =>
    x_chk (σ.K a_3 = 31 ∧ x_in (σ.I 1103 a0) (σ.L a_3)) <|
    if (σ.AI a_3 (Int32.toNatClampNeg (σ.I 1103 a0))) ≤ v1 then
      dm_X12_isModule_p21 P a0 σ
    else
      dm_X12_isModule_p22 P a0 1 σ
def dm_X12_of (P : xP) (a0 : Nat) (v1 : Int32) (σ : xS) : xO Int32 :=
  x_chk (σ.K a0 = 12) <|
  some (.inl ((8 * (σ.I 1103 a0)) + v1), σ)
def dm_X12_bitsOf_L4 (P : xP) (a0 : Nat) : Nat → Int32 → Int32 → Int32 → xS → xO Int32
  | 0, _, _, _, _ => none
  | n + 1, v1, v2, v3, σ =>
    x_chk (σ.K a0 = 12) <|
    x_some (σ.R 1109 a0) fun a_2 =>
    x_chk (σ.K a_2 = 31 ∧ x_in v1 (σ.L a_2)) <|
    if (σ.AI a_2 (Int32.toNatClampNeg v1)) ≤ v3 then
      some (.inl v2, σ)
    else
      x_some (σ.R 1112 a0) fun a_5 =>
      x_chk (σ.K a_5 = 31 ∧ x_in ((16 * v1) + v3) (σ.L a_5)) <|
      x_let ((v2 + (σ.AI a_5 (Int32.toNatClampNeg ((16 * v1) + v3))))) fun v_7 =>
      x_let (v3 + 1) fun v_8 =>
      dm_X12_bitsOf_L4 P a0 n v1 v_7 v_8 σ
def dm_X12_bitsOf (P : xP) (a0 : Nat) (v1 : Int32) (σ : xS) : xO Int32 :=
  dm_X12_bitsOf_L4 P a0 P.N v1 0 0 σ
def dm_X12_module_p23 (P : xP) (a0 : Nat) (v1 : Int32) (v2 : Int32) (s0 : Option Nat) (s1 : Int32) (σ : xS) : xO Int32 :=
  x_some s0 fun a_1 =>
  x_chk ((σ.K a_1 = 12) ∧ P.base ≤ a_1) <|
  x_let (σ.setI 1100 a_1 s1) fun σ_3 =>
  x_chk (σ_3.K a0 = 12) <|
  if (σ_3.I 1100 a0) ≤ 0 then
    x_bind (dm_X12_of P a0 v1 σ_3) (fun v_6 σ_7 =>
      x_let (v2) fun v_9 =>
      if v_9 = 0 then
        x_chk (σ_7.K a0 = 12) <|
        x_some (σ_7.R 1108 a0) fun a_12 =>
        x_chk (σ_7.K a_12 = 31 ∧ x_in v_6 (σ_7.L a_12)) <|
        some (.inl (σ_7.AI a_12 (Int32.toNatClampNeg v_6)), σ_7)
      else
      if v_9 = 1 then
        x_chk (σ_7.K a0 = 12) <|
        x_some (σ_7.R 1109 a0) fun a_16 =>
        x_chk (σ_7.K a_16 = 31 ∧ x_in v_6 (σ_7.L a_16)) <|
        some (.inl (σ_7.AI a_16 (Int32.toNatClampNeg v_6)), σ_7)
      else
      if v_9 = 2 then
        x_chk (σ_7.K a0 = 12) <|
        x_bind (dm_X12_bitsOf P a0 v_6 σ_7) (fun v_19 σ_20 =>
          some (.inl v_19, σ_20)
          ) (fun E_23 σ_20 =>
          some (.inr E_23, σ_20)
          )
      else
      if v_9 = 3 then
        x_chk (σ_7.K a0 = 12) <|
        x_some (σ_7.R 1121 a0) fun a_26 =>
        x_chk (σ_7.K a_26 = 31 ∧ x_in v_6 (σ_7.L a_26)) <|
        some (.inl (σ_7.AI a_26 (Int32.toNatClampNeg v_6)), σ_7)
      else
      if v_9 = 4 then
        x_chk (σ_7.K a0 = 12) <|
        x_some (σ_7.R 1124 a0) fun a_30 =>
        x_chk (σ_7.K a_30 = 31 ∧ x_in v_6 (σ_7.L a_30)) <|
        some (.inl (σ_7.AI a_30 (Int32.toNatClampNeg v_6)), σ_7)
      else
        x_chk (σ_7.K a0 = 12) <|
        x_some (σ_7.R 1133 a0) fun a_33 =>
        x_chk (σ_7.K a_33 = 31 ∧ x_in v_6 (σ_7.L a_33)) <|
        some (.inl (σ_7.AI a_33 (Int32.toNatClampNeg v_6)), σ_7)
      ) (fun E_35 σ_7 =>
      some (.inr E_35, σ_7)
      )
  else
    some (.inl 0, σ_3)
def dm_X12_module_p22 (P : xP) (a0 : Nat) (v1 : Int32) (v2 : Int32) (s0 : Option Nat) (σ : xS) : xO Int32 :=
  dm_X12_module_p23 P a0 v1 v2 s0 1 σ
def dm_X12_module (P : xP) (a0 : Nat) (v1 : Int32) (v2 : Int32) (σ : xS) : xO Int32 :=
  x_chk (σ.K a0 = 12) <|
  x_bind (dm_X12_isModule P a0 v1 σ) (fun v_1 σ_2 =>
    if v_1 = 0 then
      dm_X12_module_p22 P a0 v1 v2 (some a0) σ_2
    else
      if v2 < 0 then
        dm_X12_module_p22 P a0 v1 v2 (some a0) σ_2
      else
        if 5 < v2 then
          dm_X12_module_p22 P a0 v1 v2 (some a0) σ_2
        else
          dm_X12_module_p23 P a0 v1 v2 (some a0) 0 σ_2
    ) (fun E_8 σ_2 =>
    some (.inr E_8, σ_2)
    )
def dm_X11_netAt_p23 (P : xP) (a0 : Nat) (v2 : Int32) (v3 : Option Nat) (s0 : Int32) (σ : xS) : xO (Option Nat) :=
  x_bind (dm_X11_refuseUnless P s0 σ) (fun _ σ_2 =>
    x_some v3 fun a_4 =>
    x_chk (σ_2.K a_4 = 6) <|
    x_some (σ_2.R 503 a_4) fun a_6 =>
    x_chk (σ_2.K a_6 = 26 ∧ x_in v2 (σ_2.L a_6)) <|
    some (.inl (σ_2.AR a_6 (Int32.toNatClampNeg v2)), σ_2)
    ) (fun E_8 σ_2 =>
    some (.inr E_8, σ_2)
    )
def dm_X11_netAt_p22 (P : xP) (a0 : Nat) (v2 : Int32) (v3 : Option Nat) (σ : xS) : xO (Option Nat) :=
  dm_X11_netAt_p23 P a0 v2 v3 0 σ
def dm_X11_netAt (P : xP) (a0 : Nat) (v1 : Int32) (v2 : Int32) (σ : xS) : xO (Option Nat) :=
  x_chk (σ.K a0 = 11) <|
  x_bind (dm_X11_moduleAt P a0 v1 σ) (fun v_1 σ_2 =>
    if v2 < 0 then
      dm_X11_netAt_p22 P a0 v2 v_1 σ_2
    else
      x_some v_1 fun a_6 =>
      x_chk (σ_2.K a_6 = 6) <|
      if (σ_2.I 504 a_6) ≤ v2 then
        dm_X11_netAt_p22 P a0 v2 v_1 σ_2
      else
        dm_X11_netAt_p23 P a0 v2 v_1 1 σ_2
    ) (fun E_9 σ_2 =>
    some (.inr E_9, σ_2)
    )
def dm_X11_net (P : xP) (a0 : Nat) (v1 : Int32) (v2 : Int32) (v3 : Int32) (σ : xS) : xO Int32 :=
  x_chk (σ.K a0 = 11) <|
  x_bind (dm_X11_netAt P a0 v1 v2 σ) (fun v_1 σ_2 =>
    x_let (v3) fun v_5 =>
    if v_5 = 0 then
      x_some v_1 fun a_7 =>
      x_chk (σ_2.K a_7 = 5) <|
      some (.inl (σ_2.I 401 a_7), σ_2)
    else
    if v_5 = 1 then
      x_some v_1 fun a_10 =>
      x_chk (σ_2.K a_10 = 5) <|
      some (.inl (σ_2.I 402 a_10), σ_2)
    else
    if v_5 = 2 then
      x_some v_1 fun a_13 =>
      x_chk (σ_2.K a_13 = 5) <|
      some (.inl (σ_2.I 403 a_13), σ_2)
    else
      x_chk (σ_2.sz + 1 ≤ P.lim ∧ σ_2.su + 6 ≤ P.slim) <|
      some (.inr "java/lang/IndexOutOfBoundsException", σ_2.skip 6)
    ) (fun E_16 σ_2 =>
    some (.inr E_16, σ_2)
    )
def dm_L_net (P : xP) (v0 : Option Nat) (v1 : Int32) (v2 : Int32) (v3 : Int32) (v4 : Option Nat) (σ : xS) : xO Int32 :=
  x_some v0 fun a_1 =>
  x_chk (σ.K a_1 = 11) <|
  x_bind (dm_X11_net P a_1 v1 v2 v3 σ) (fun v_2 σ_3 =>
    x_some v4 fun a_6 =>
    x_chk (σ_3.K a_6 = 42 ∧ x_in 0 (σ_3.L a_6) ∧ P.base ≤ a_6) <|
    x_let (σ_3.setAJ a_6 (Int32.toNatClampNeg 0) (Int32.toInt64 v_2)) fun σ_8 =>
    some (.inl 0, σ_8)
    ) (fun E_9 σ_3 =>
    x_chk (E_9 = "java/lang/IndexOutOfBoundsException") <|
    some (.inl 1, σ_3)
    )
def dm_X12_net_p125 (P : xP) (a0 : Nat) (s0 : Int32) (σ : xS) : xO Int32 :=
  some (.inl s0, σ)
def dm_X12_net_p65 (P : xP) (a0 : Nat) (v1 : Int32) (v2 : Int32) (v3 : Int32) (s0 : Option Nat) (s1 : Int32) (σ : xS) : xO Int32 :=
  x_some s0 fun a_1 =>
  x_chk ((σ.K a_1 = 12) ∧ P.base ≤ a_1) <|
  x_let (σ.setI 1100 a_1 s1) fun σ_3 =>
  x_chk (σ_3.K a0 = 12) <|
  if (σ_3.I 1100 a0) ≤ 0 then
    x_bind (dm_X12_of P a0 v1 σ_3) (fun v_6 σ_7 =>
      x_let (((16 * v_6) + v2)) fun v_9 =>
      if v3 = 0 then
        x_chk (σ_7.K a0 = 12) <|
        x_some (σ_7.R 1111 a0) fun a_19 =>
        x_chk (σ_7.K a_19 = 31 ∧ x_in v_9 (σ_7.L a_19)) <|
        dm_X12_net_p125 P a0 (σ_7.AI a_19 (Int32.toNatClampNeg v_9)) σ_7
      else
        if v3 = 1 then
          x_chk (σ_7.K a0 = 12) <|
          x_some (σ_7.R 1112 a0) fun a_16 =>
          x_chk (σ_7.K a_16 = 31 ∧ x_in v_9 (σ_7.L a_16)) <|
          dm_X12_net_p125 P a0 (σ_7.AI a_16 (Int32.toNatClampNeg v_9)) σ_7
        else
          x_chk (σ_7.K a0 = 12) <|
          x_some (σ_7.R 1113 a0) fun a_13 =>
          x_chk (σ_7.K a_13 = 31 ∧ x_in v_9 (σ_7.L a_13)) <|
          dm_X12_net_p125 P a0 (σ_7.AI a_13 (Int32.toNatClampNeg v_9)) σ_7
      ) (fun E_21 σ_7 =>
      some (.inr E_21, σ_7)
      )
  else
    some (.inl 0, σ_3)
def dm_X12_net_p64 (P : xP) (a0 : Nat) (v1 : Int32) (v2 : Int32) (v3 : Int32) (s0 : Option Nat) (σ : xS) : xO Int32 :=
  dm_X12_net_p65 P a0 v1 v2 v3 s0 1 σ
def dm_X12_net_p43 (P : xP) (a0 : Nat) (v1 : Int32) (v2 : Int32) (v3 : Int32) (s0 : Int32) (σ : xS) : xO Int32 :=
  if s0 = 0 then
    dm_X12_net_p64 P a0 v1 v2 v3 (some a0) σ
  else
    if v3 < 0 then
      dm_X12_net_p64 P a0 v1 v2 v3 (some a0) σ
    else
      if 2 < v3 then
        dm_X12_net_p64 P a0 v1 v2 v3 (some a0) σ
      else
        dm_X12_net_p65 P a0 v1 v2 v3 (some a0) 0 σ
def dm_X12_net_p42 (P : xP) (a0 : Nat) (v1 : Int32) (v2 : Int32) (v3 : Int32) (σ : xS) : xO Int32 :=
  dm_X12_net_p43 P a0 v1 v2 v3 0 σ
def dm_X12_net_p31 (P : xP) (a0 : Nat) (v1 : Int32) (v2 : Int32) (v3 : Int32) (s0 : Int32) (s1 : Option Nat) (s2 : Option Nat) (s3 : Int32) (σ : xS) : xO Int32 :=
  x_some s2 fun a_1 =>
  x_chk (σ.K a_1 = 12) <|
  x_bind (dm_X12_of P a_1 s3 σ) (fun v_2 σ_3 =>
    x_some s1 fun a_6 =>
    x_chk (σ_3.K a_6 = 31 ∧ x_in v_2 (σ_3.L a_6)) <|
    if (σ_3.AI a_6 (Int32.toNatClampNeg v_2)) ≤ s0 then
      dm_X12_net_p42 P a0 v1 v2 v3 σ_3
    else
      dm_X12_net_p43 P a0 v1 v2 v3 1 σ_3
    ) (fun E_9 σ_3 =>
    some (.inr E_9, σ_3)
    )
def dm_X12_net (P : xP) (a0 : Nat) (v1 : Int32) (v2 : Int32) (v3 : Int32) (σ : xS) : xO Int32 :=
  x_chk (σ.K a0 = 12) <|
  x_bind (dm_X12_isModule P a0 v1 σ) (fun v_1 σ_2 =>
    if v_1 = 0 then
      dm_X12_net_p42 P a0 v1 v2 v3 σ_2
    else
      if v2 < 0 then
        dm_X12_net_p42 P a0 v1 v2 v3 σ_2
      else
        x_chk (σ_2.K a0 = 12) <|
        x_bind (dm_X12_isModule P a0 v1 σ_2) (fun v_8 σ_9 =>
          if v_8 = 0 then
            dm_X12_net_p31 P a0 v1 v2 v3 v2 (σ_2.R 1109 a0) (some a0) 0 σ_9
          else
            dm_X12_net_p31 P a0 v1 v2 v3 v2 (σ_2.R 1109 a0) (some a0) v1 σ_9
          ) (fun E_12 σ_9 =>
          some (.inr E_12, σ_9)
          )
    ) (fun E_13 σ_2 =>
    some (.inr E_13, σ_2)
    )
def dm_X12_isInstance_p31 (P : xP) (a0 : Nat) (s0 : Int32) (σ : xS) : xO Int32 :=
  x_chk (x_bool s0) <|
  some (.inl s0, σ)
def dm_X12_isInstance_p30 (P : xP) (a0 : Nat) (σ : xS) : xO Int32 :=
  dm_X12_isInstance_p31 P a0 0 σ
def dm_X12_isInstance (P : xP) (a0 : Nat) (v1 : Int32) (v2 : Int32) (σ : xS) : xO Int32 :=
  x_chk (σ.K a0 = 12) <|
  x_bind (dm_X12_isModule P a0 v1 σ) (fun v_1 σ_2 =>
    if v_1 = 0 then
      dm_X12_isInstance_p30 P a0 σ_2
    else
      if v2 < 0 then
        dm_X12_isInstance_p30 P a0 σ_2
      else
        x_chk (σ_2.K a0 = 12) <|
        x_bind (dm_X12_of P a0 v1 σ_2) (fun v_8 σ_9 =>
          x_some (σ_2.R 1124 a0) fun a_11 =>
          x_chk (σ_9.K a_11 = 31 ∧ x_in v_8 (σ_9.L a_11)) <|
          if (σ_9.AI a_11 (Int32.toNatClampNeg v_8)) ≤ v2 then
            dm_X12_isInstance_p30 P a0 σ_9
          else
            dm_X12_isInstance_p31 P a0 1 σ_9
          ) (fun E_14 σ_9 =>
          some (.inr E_14, σ_9)
          )
    ) (fun E_15 σ_2 =>
    some (.inr E_15, σ_2)
    )
def dm_X12_pins_p34 (P : xP) (a0 : Nat) (s0 : Int32) (σ : xS) : xO Int32 :=
  some (.inl s0, σ)
def dm_X12_pins (P : xP) (a0 : Nat) (v1 : Int32) (σ : xS) : xO Int32 :=
  x_chk (σ.K a0 = 12) <|
  x_some (σ.R 1128 a0) fun a_2 =>
  x_chk (σ.K a_2 = 31 ∧ x_in v1 (σ.L a_2)) <|
  if (σ.AI a_2 (Int32.toNatClampNeg v1)) = (-1) then
    x_some (σ.R 1129 a0) fun a_11 =>
    x_chk (σ.K a_11 = 31 ∧ x_in v1 (σ.L a_11)) <|
    dm_X12_pins_p34 P a0 (σ.AI a_11 (Int32.toNatClampNeg v1)) σ
  else
    x_bind (dm_X12_of P a0 (σ.AI a_2 (Int32.toNatClampNeg v1)) σ) (fun v_5 σ_6 =>
      x_some (σ.R 1108 a0) fun a_8 =>
      x_chk (σ_6.K a_8 = 31 ∧ x_in v_5 (σ_6.L a_8)) <|
      dm_X12_pins_p34 P a0 (σ_6.AI a_8 (Int32.toNatClampNeg v_5)) σ_6
      ) (fun E_10 σ_6 =>
      some (.inr E_10, σ_6)
      )
def dm_X12_instance_p106 (P : xP) (a0 : Nat) (s0 : Int32) (σ : xS) : xO Int32 :=
  some (.inl s0, σ)
def dm_X12_instance_p24 (P : xP) (a0 : Nat) (v1 : Int32) (v2 : Int32) (v3 : Int32) (s0 : Option Nat) (s1 : Int32) (σ : xS) : xO Int32 :=
  x_some s0 fun a_1 =>
  x_chk ((σ.K a_1 = 12) ∧ P.base ≤ a_1) <|
  x_let (σ.setI 1100 a_1 s1) fun σ_3 =>
  x_chk (σ_3.K a0 = 12) <|
  if (σ_3.I 1100 a0) ≤ 0 then
    x_bind (dm_X12_of P a0 v1 σ_3) (fun v_6 σ_7 =>
      x_let (((12 * v_6) + v2)) fun v_9 =>
      if v3 = 0 then
        x_chk (σ_7.K a0 = 12) <|
        x_some (σ_7.R 1128 a0) fun a_26 =>
        x_chk (σ_7.K a_26 = 31 ∧ x_in v_9 (σ_7.L a_26)) <|
        dm_X12_instance_p106 P a0 (σ_7.AI a_26 (Int32.toNatClampNeg v_9)) σ_7
      else
        if v3 = 1 then
          x_chk (σ_7.K a0 = 12) <|
          x_bind (dm_X12_pins P a0 v_9 σ_7) (fun v_20 σ_21 =>
            dm_X12_instance_p106 P a0 v_20 σ_21
            ) (fun E_24 σ_21 =>
            some (.inr E_24, σ_21)
            )
        else
          if v3 = 2 then
            x_chk (σ_7.K a0 = 12) <|
            x_some (σ_7.R 1126 a0) fun a_18 =>
            x_chk (σ_7.K a_18 = 31 ∧ x_in v_9 (σ_7.L a_18)) <|
            dm_X12_instance_p106 P a0 (σ_7.AI a_18 (Int32.toNatClampNeg v_9)) σ_7
          else
            x_chk (σ_7.K a0 = 12) <|
            x_some (σ_7.R 1127 a0) fun a_14 =>
            x_chk (σ_7.K a_14 = 33 ∧ x_in v_9 (σ_7.L a_14)) <|
            if (σ_7.AI a_14 (Int32.toNatClampNeg v_9)) = 0 then
              dm_X12_instance_p106 P a0 0 σ_7
            else
              dm_X12_instance_p106 P a0 1 σ_7
      ) (fun E_28 σ_7 =>
      some (.inr E_28, σ_7)
      )
  else
    some (.inl 0, σ_3)
def dm_X12_instance_p23 (P : xP) (a0 : Nat) (v1 : Int32) (v2 : Int32) (v3 : Int32) (s0 : Option Nat) (σ : xS) : xO Int32 :=
  dm_X12_instance_p24 P a0 v1 v2 v3 s0 1 σ
def dm_X12_instance (P : xP) (a0 : Nat) (v1 : Int32) (v2 : Int32) (v3 : Int32) (σ : xS) : xO Int32 :=
  x_chk (σ.K a0 = 12) <|
  x_bind (dm_X12_isInstance P a0 v1 v2 σ) (fun v_1 σ_2 =>
    if v_1 = 0 then
      dm_X12_instance_p23 P a0 v1 v2 v3 (some a0) σ_2
    else
      if v3 < 0 then
        dm_X12_instance_p23 P a0 v1 v2 v3 (some a0) σ_2
      else
        if 3 < v3 then
          dm_X12_instance_p23 P a0 v1 v2 v3 (some a0) σ_2
        else
          dm_X12_instance_p24 P a0 v1 v2 v3 (some a0) 0 σ_2
    ) (fun E_8 σ_2 =>
    some (.inr E_8, σ_2)
    )
def dm_X12_pinWidth_p65 (P : xP) (a0 : Nat) (s0 : Int32) (σ : xS) : xO Int32 :=
  some (.inl s0, σ)
def dm_X12_pinWidth (P : xP) (a0 : Nat) (v1 : Int32) (v2 : Int32) (v3 : Int32) (σ : xS) : xO Int32 :=
  x_chk (σ.K a0 = 12) <|
  x_some (σ.R 1128 a0) fun a_2 =>
  x_chk (σ.K a_2 = 31 ∧ x_in v2 (σ.L a_2)) <|
  if (σ.AI a_2 (Int32.toNatClampNeg v2)) = (-1) then
    x_some (σ.R 1130 a0) fun a_5 =>
    x_chk (σ.K a_5 = 31 ∧ x_in ((16 * v2) + v3) (σ.L a_5)) <|
    x_let ((σ.AI a_5 (Int32.toNatClampNeg ((16 * v2) + v3)))) fun v_7 =>
    if v_7 = (-1) then
      dm_X12_pinWidth_p65 P a0 1 σ
    else
      x_bind (dm_X12_refWidth P a0 (σ.I 1103 a0) v1 v_7 σ) (fun v_9 σ_10 =>
        dm_X12_pinWidth_p65 P a0 v_9 σ_10
        ) (fun E_12 σ_10 =>
        some (.inr E_12, σ_10)
        )
  else
    x_bind (dm_X12_of P a0 (σ.AI a_2 (Int32.toNatClampNeg v2)) σ) (fun v_13 σ_14 =>
      x_some (σ.R 1112 a0) fun a_16 =>
      x_chk (σ_14.K a_16 = 31 ∧ x_in ((16 * v_13) + v3) (σ_14.L a_16)) <|
      some (.inl (σ_14.AI a_16 (Int32.toNatClampNeg ((16 * v_13) + v3))), σ_14)
      ) (fun E_18 σ_14 =>
      some (.inr E_18, σ_14)
      )
def dm_X12_linkOf_p19 (P : xP) (a0 : Nat) (v1 : Int32) (v2 : Int32) (σ : xS) : xO Int32 :=
  x_chk (σ.K a0 = 12) <|
  x_some (σ.R 1130 a0) fun a_2 =>
  x_chk (σ.K a_2 = 31 ∧ x_in ((16 * v1) + v2) (σ.L a_2)) <|
  some (.inl (σ.AI a_2 (Int32.toNatClampNeg ((16 * v1) + v2))), σ)
def dm_X12_linkOf_p120 (P : xP) (k72 : Int32 → Int32 → Int32 → Int32 → Int32 → xS → xO Int32) (a0 : Nat) (v1 : Int32) (v4 : Int32) (v5 : Int32) (v6 : Int32) (s0 : Int32) (σ : xS) : xO Int32 :=
  x_let (v6 + 1) fun v_1 =>
  k72 v1 s0 v4 v5 v_1 σ
def dm_X12_linkOf_L72 (P : xP) (a0 : Nat) : Nat → Int32 → Int32 → Int32 → Int32 → Int32 → xS → xO Int32
  | 0, _, _, _, _, _, _ => none
  | n + 1, v1, v3, v4, v5, v6, σ =>
    x_chk (σ.K a0 = 12) <|
    x_some (σ.R 1129 a0) fun a_2 =>
    x_chk (σ.K a_2 = 31 ∧ x_in v1 (σ.L a_2)) <|
    if (σ.AI a_2 (Int32.toNatClampNeg v1)) ≤ v6 then
      x_chk ((σ.K a0 = 12) ∧ P.base ≤ a0) <|
      x_let (σ.setI 1140 a0 v5) fun σ_6 =>
      some (.inl v3, σ_6)
    else
      x_some (σ.R 1131 a0) fun a_7 =>
      x_chk (σ.K a_7 = 31 ∧ x_in ((16 * v1) + v6) (σ.L a_7)) <|
      x_bind (dm_X12_areSame P a0 (σ.AI a_7 (Int32.toNatClampNeg ((16 * v1) + v6))) v4 σ) (fun v_9 σ_10 =>
        if v_9 = 0 then
          dm_X12_linkOf_p120 P (dm_X12_linkOf_L72 P a0 n) a0 v1 v4 v5 v6 v3 σ_10
        else
          x_chk (σ_10.K a0 = 12) <|
          x_some (σ_10.R 1130 a0) fun a_14 =>
          x_chk (σ_10.K a_14 = 31 ∧ x_in ((16 * v1) + v6) (σ_10.L a_14)) <|
          dm_X12_linkOf_p120 P (dm_X12_linkOf_L72 P a0 n) a0 v1 v4 v5 v6 (σ_10.AI a_14 (Int32.toNatClampNeg ((16 * v1) + v6))) σ_10
        ) (fun E_16 σ_10 =>
        some (.inr E_16, σ_10)
        )
def dm_X12_linkOf (P : xP) (a0 : Nat) (v1 : Int32) (v2 : Int32) (σ : xS) : xO Int32 :=
  x_chk (σ.K a0 = 12) <|
  x_some (σ.R 1128 a0) fun a_2 =>
  x_chk (σ.K a_2 = 31 ∧ x_in v1 (σ.L a_2)) <|
  if (σ.AI a_2 (Int32.toNatClampNeg v1)) = (-1) then
    dm_X12_linkOf_p19 P a0 v1 v2 σ
  else
    x_some (σ.R 1127 a0) fun a_5 =>
    x_chk (σ.K a_5 = 33 ∧ x_in v1 (σ.L a_5)) <|
    if (σ.AI a_5 (Int32.toNatClampNeg v1)) = 0 then
      dm_X12_linkOf_p19 P a0 v1 v2 σ
    else
      x_bind (dm_X12_of P a0 (σ.AI a_2 (Int32.toNatClampNeg v1)) σ) (fun v_8 σ_9 =>
        x_some (σ.R 1110 a0) fun a_11 =>
        x_chk (σ_9.K a_11 = 31 ∧ x_in ((16 * v_8) + v2) (σ_9.L a_11)) <|
        x_let ((σ_9.AI a_11 (Int32.toNatClampNeg ((16 * v_8) + v2)))) fun v_13 =>
        x_chk (σ_9.K a0 = 12) <|
        x_let ((σ_9.I 1140 a0)) fun v_15 =>
        x_chk ((σ_9.K a0 = 12) ∧ P.base ≤ a0) <|
        x_let (σ_9.setI 1140 a0 (σ_9.I 1103 a0)) fun σ_17 =>
        dm_X12_linkOf_L72 P a0 P.N v1 (-1) v_13 v_15 0 σ_17
        ) (fun E_18 σ_9 =>
        some (.inr E_18, σ_9)
        )
def dm_X12_refPlaceOf (P : xP) (a0 : Nat) (v1 : Int32) (σ : xS) : xO Int32 :=
  x_chk (σ.K a0 = 12) <|
  x_some (σ.R 1119 a0) fun a_2 =>
  x_chk (σ.K a_2 = 31 ∧ x_in v1 (σ.L a_2)) <|
  some (.inl (σ.AI a_2 (Int32.toNatClampNeg v1)), σ)
def dm_X12_bitOf_p57 (P : xP) (a0 : Nat) (s0 : Int32) (σ : xS) : xO Int32 :=
  some (.inl s0, σ)
def dm_X12_bitOf_p99 (P : xP) (a0 : Nat) (s0 : Int32) (s1 : Int32) (σ : xS) : xO Int32 :=
  some (.inl (s0 + s1), σ)
def dm_X12_bitOf (P : xP) (a0 : Nat) (v1 : Int32) (v2 : Int32) (v3 : Int32) (σ : xS) : xO Int32 :=
  if v2 = (-1) then
    some (.inl (-1), σ)
  else
    x_chk (σ.K a0 = 12) <|
    x_some (σ.R 1117 a0) fun a_3 =>
    x_chk (σ.K a_3 = 31 ∧ x_in v2 (σ.L a_3)) <|
    if (σ.AI a_3 (Int32.toNatClampNeg v2)) = 3 then
      x_bind (dm_X12_refPlaceOf P a0 v2 σ) (fun v_14 σ_15 =>
        x_chk (σ_15.K a0 = 12) <|
        x_some (σ_15.R 1120 a0) fun a_18 =>
        x_chk (σ_15.K a_18 = 31 ∧ x_in v2 (σ_15.L a_18)) <|
        x_some (σ.R 1104 a0) fun a_20 =>
        x_chk (σ_15.K a_20 = 31 ∧ x_in ((((1000 * (σ.I 1103 a0)) + v_14) + (σ_15.AI a_18 (Int32.toNatClampNeg v2))) - v3) (σ_15.L a_20)) <|
        if (σ_15.AI a_20 (Int32.toNatClampNeg ((((1000 * (σ.I 1103 a0)) + v_14) + (σ_15.AI a_18 (Int32.toNatClampNeg v2))) - v3))) = 49 then
          dm_X12_bitOf_p57 P a0 (-3) σ_15
        else
          dm_X12_bitOf_p57 P a0 (-2) σ_15
        ) (fun E_23 σ_15 =>
        some (.inr E_23, σ_15)
        )
    else
      x_some (σ.R 1118 a0) fun a_6 =>
      x_chk (σ.K a_6 = 31 ∧ x_in v2 (σ.L a_6)) <|
      x_some (σ.R 1113 a0) fun a_8 =>
      x_chk (σ.K a_8 = 31 ∧ x_in ((16 * v1) + (σ.AI a_6 (Int32.toNatClampNeg v2))) (σ.L a_8)) <|
      x_let ((σ.AI a_8 (Int32.toNatClampNeg ((16 * v1) + (σ.AI a_6 (Int32.toNatClampNeg v2)))))) fun v_10 =>
      if (σ.AI a_3 (Int32.toNatClampNeg v2)) = 0 then
        dm_X12_bitOf_p99 P a0 (v_10 + v3) 0 σ
      else
        x_some (σ.R 1120 a0) fun a_12 =>
        x_chk (σ.K a_12 = 31 ∧ x_in v2 (σ.L a_12)) <|
        dm_X12_bitOf_p99 P a0 (v_10 + v3) (σ.AI a_12 (Int32.toNatClampNeg v2)) σ
def dm_X12_joined_p120 (P : xP) (a0 : Nat) (s0 : Int32) (σ : xS) : xO Int32 :=
  some (.inl s0, σ)
def dm_X12_joined_p88 (P : xP) (a0 : Nat) (v1 : Int32) (v3 : Int32) (v4 : Int32) (v6 : Int32) (s0 : Option Nat) (s1 : Int32) (σ : xS) : xO Int32 :=
  x_some s0 fun a_1 =>
  x_chk ((σ.K a_1 = 12) ∧ P.base ≤ a_1) <|
  x_let (σ.setI 1100 a_1 s1) fun σ_3 =>
  x_chk (σ_3.K a0 = 12) <|
  if (σ_3.I 1100 a0) ≤ 0 then
    x_bind (dm_X12_of P a0 v1 σ_3) (fun v_6 σ_7 =>
      x_chk (σ_7.K a0 = 12) <|
      x_bind (dm_X12_linkOf P a0 v6 v3 σ_7) (fun v_9 σ_10 =>
        x_chk (σ_10.K a0 = 12) <|
        x_bind (dm_X12_bitOf P a0 v_6 v_9 v4 σ_10) (fun v_13 σ_14 =>
          dm_X12_joined_p120 P a0 v_13 σ_14
          ) (fun E_17 σ_14 =>
          some (.inr E_17, σ_14)
          )
        ) (fun E_18 σ_10 =>
        some (.inr E_18, σ_10)
        )
      ) (fun E_19 σ_7 =>
      some (.inr E_19, σ_7)
      )
  else
    dm_X12_joined_p120 P a0 0 σ_3
def dm_X12_joined_p87 (P : xP) (a0 : Nat) (v1 : Int32) (v3 : Int32) (v4 : Int32) (v6 : Int32) (s0 : Option Nat) (σ : xS) : xO Int32 :=
  dm_X12_joined_p88 P a0 v1 v3 v4 v6 s0 1 σ
def dm_X12_joined_p53 (P : xP) (a0 : Nat) (v1 : Int32) (v3 : Int32) (v4 : Int32) (v6 : Int32) (s0 : Int32) (σ : xS) : xO Int32 :=
  if s0 = 0 then
    dm_X12_joined_p87 P a0 v1 v3 v4 v6 (some a0) σ
  else
    if v4 < 0 then
      dm_X12_joined_p87 P a0 v1 v3 v4 v6 (some a0) σ
    else
      x_chk (σ.K a0 = 12) <|
      x_bind (dm_X12_of P a0 v1 σ) (fun v_3 σ_4 =>
        x_chk (σ_4.K a0 = 12) <|
        x_bind (dm_X12_pinWidth P a0 v_3 v6 v3 σ_4) (fun v_7 σ_8 =>
          if v_7 ≤ v4 then
            dm_X12_joined_p87 P a0 v1 v3 v4 v6 (some a0) σ_8
          else
            dm_X12_joined_p88 P a0 v1 v3 v4 v6 (some a0) 0 σ_8
          ) (fun E_12 σ_8 =>
          some (.inr E_12, σ_8)
          )
        ) (fun E_13 σ_4 =>
        some (.inr E_13, σ_4)
        )
def dm_X12_joined_p52 (P : xP) (a0 : Nat) (v1 : Int32) (v3 : Int32) (v4 : Int32) (v6 : Int32) (σ : xS) : xO Int32 :=
  dm_X12_joined_p53 P a0 v1 v3 v4 v6 0 σ
def dm_X12_joined_p27 (P : xP) (a0 : Nat) (v1 : Int32) (v3 : Int32) (v4 : Int32) (v5 : Int32) (s0 : Int32) (σ : xS) : xO Int32 :=
  if v5 = 0 then
    dm_X12_joined_p52 P a0 v1 v3 v4 s0 σ
  else
    if v3 < 0 then
      dm_X12_joined_p52 P a0 v1 v3 v4 s0 σ
    else
      x_chk (σ.K a0 = 12) <|
      x_bind (dm_X12_pins P a0 s0 σ) (fun v_3 σ_4 =>
        if v_3 ≤ v3 then
          dm_X12_joined_p52 P a0 v1 v3 v4 s0 σ_4
        else
          dm_X12_joined_p53 P a0 v1 v3 v4 s0 1 σ_4
        ) (fun E_8 σ_4 =>
        some (.inr E_8, σ_4)
        )
def dm_X12_joined (P : xP) (a0 : Nat) (v1 : Int32) (v2 : Int32) (v3 : Int32) (v4 : Int32) (σ : xS) : xO Int32 :=
  x_chk (σ.K a0 = 12) <|
  x_bind (dm_X12_isInstance P a0 v1 v2 σ) (fun v_1 σ_2 =>
    if v_1 = 0 then
      dm_X12_joined_p27 P a0 v1 v3 v4 v_1 0 σ_2
    else
      x_chk (σ_2.K a0 = 12) <|
      x_bind (dm_X12_of P a0 v1 σ_2) (fun v_6 σ_7 =>
        dm_X12_joined_p27 P a0 v1 v3 v4 v_1 ((12 * v_6) + v2) σ_7
        ) (fun E_10 σ_7 =>
        some (.inr E_10, σ_7)
        )
    ) (fun E_11 σ_2 =>
    some (.inr E_11, σ_2)
    )
def dm_X12_assign_p165 (P : xP) (a0 : Nat) (s0 : Int32) (σ : xS) : xO Int32 :=
  some (.inl s0, σ)
def dm_X12_assign_p138 (P : xP) (a0 : Nat) (v1 : Int32) (v4 : Int32) (v6 : Int32) (s0 : Option Nat) (s1 : Int32) (σ : xS) : xO Int32 :=
  x_some s0 fun a_1 =>
  x_chk ((σ.K a_1 = 12) ∧ P.base ≤ a_1) <|
  x_let (σ.setI 1100 a_1 s1) fun σ_3 =>
  x_chk (σ_3.K a0 = 12) <|
  if (σ_3.I 1100 a0) ≤ 0 then
    x_bind (dm_X12_of P a0 v1 σ_3) (fun v_6 σ_7 =>
      x_chk (σ_7.K a0 = 12) <|
      x_bind (dm_X12_bitOf P a0 v_6 v6 v4 σ_7) (fun v_9 σ_10 =>
        dm_X12_assign_p165 P a0 v_9 σ_10
        ) (fun E_13 σ_10 =>
        some (.inr E_13, σ_10)
        )
      ) (fun E_14 σ_7 =>
      some (.inr E_14, σ_7)
      )
  else
    dm_X12_assign_p165 P a0 0 σ_3
def dm_X12_assign_p137 (P : xP) (a0 : Nat) (v1 : Int32) (v4 : Int32) (v6 : Int32) (s0 : Option Nat) (σ : xS) : xO Int32 :=
  dm_X12_assign_p138 P a0 v1 v4 v6 s0 1 σ
def dm_X12_assign_p100 (P : xP) (a0 : Nat) (v1 : Int32) (v4 : Int32) (v5 : Int32) (s0 : Int32) (σ : xS) : xO Int32 :=
  if v5 = 0 then
    dm_X12_assign_p137 P a0 v1 v4 s0 (some a0) σ
  else
    if v4 < 0 then
      dm_X12_assign_p137 P a0 v1 v4 s0 (some a0) σ
    else
      x_chk (σ.K a0 = 12) <|
      x_bind (dm_X12_of P a0 v1 σ) (fun v_4 σ_5 =>
        x_chk (σ_5.K a0 = 12) <|
        x_bind (dm_X12_refWidth P a0 (σ.I 1103 a0) v_4 s0 σ_5) (fun v_7 σ_8 =>
          if v_7 ≤ v4 then
            dm_X12_assign_p137 P a0 v1 v4 s0 (some a0) σ_8
          else
            dm_X12_assign_p138 P a0 v1 v4 s0 (some a0) 0 σ_8
          ) (fun E_12 σ_8 =>
          some (.inr E_12, σ_8)
          )
        ) (fun E_13 σ_5 =>
        some (.inr E_13, σ_5)
        )
def dm_X12_assign_p52 (P : xP) (a0 : Nat) (v1 : Int32) (v2 : Int32) (v3 : Int32) (v4 : Int32) (s0 : Int32) (σ : xS) : xO Int32 :=
  if s0 = 0 then
    dm_X12_assign_p100 P a0 v1 v4 s0 0 σ
  else
    if v3 = 0 then
      x_chk (σ.K a0 = 12) <|
      x_bind (dm_X12_of P a0 v1 σ) (fun v_11 σ_12 =>
        x_some (σ.R 1122 a0) fun a_14 =>
        x_chk (σ_12.K a_14 = 31 ∧ x_in ((8 * v_11) + v2) (σ_12.L a_14)) <|
        dm_X12_assign_p100 P a0 v1 v4 s0 (σ_12.AI a_14 (Int32.toNatClampNeg ((8 * v_11) + v2))) σ_12
        ) (fun E_16 σ_12 =>
        some (.inr E_16, σ_12)
        )
    else
      x_chk (σ.K a0 = 12) <|
      x_bind (dm_X12_of P a0 v1 σ) (fun v_4 σ_5 =>
        x_some (σ.R 1123 a0) fun a_7 =>
        x_chk (σ_5.K a_7 = 31 ∧ x_in ((8 * v_4) + v2) (σ_5.L a_7)) <|
        dm_X12_assign_p100 P a0 v1 v4 s0 (σ_5.AI a_7 (Int32.toNatClampNeg ((8 * v_4) + v2))) σ_5
        ) (fun E_9 σ_5 =>
        some (.inr E_9, σ_5)
        )
def dm_X12_assign_p47 (P : xP) (a0 : Nat) (v1 : Int32) (v2 : Int32) (v3 : Int32) (v4 : Int32) (σ : xS) : xO Int32 :=
  dm_X12_assign_p52 P a0 v1 v2 v3 v4 1 σ
def dm_X12_assign_p51 (P : xP) (a0 : Nat) (v1 : Int32) (v2 : Int32) (v3 : Int32) (v4 : Int32) (σ : xS) : xO Int32 :=
  dm_X12_assign_p52 P a0 v1 v2 v3 v4 0 σ
def dm_X12_assign_p31 (P : xP) (a0 : Nat) (v1 : Int32) (v2 : Int32) (v3 : Int32) (v4 : Int32) (s0 : Int32) (s1 : Option Nat) (s2 : Option Nat) (s3 : Int32) (σ : xS) : xO Int32 :=
  x_some s2 fun a_1 =>
  x_chk (σ.K a_1 = 12) <|
  x_bind (dm_X12_of P a_1 s3 σ) (fun v_2 σ_3 =>
    x_some s1 fun a_6 =>
    x_chk (σ_3.K a_6 = 31 ∧ x_in v_2 (σ_3.L a_6)) <|
    if (σ_3.AI a_6 (Int32.toNatClampNeg v_2)) ≤ s0 then
      dm_X12_assign_p51 P a0 v1 v2 v3 v4 σ_3
    else
      if v3 = 0 then
        dm_X12_assign_p47 P a0 v1 v2 v3 v4 σ_3
      else
        if v3 = 1 then
          dm_X12_assign_p47 P a0 v1 v2 v3 v4 σ_3
        else
          dm_X12_assign_p51 P a0 v1 v2 v3 v4 σ_3
    ) (fun E_11 σ_3 =>
    some (.inr E_11, σ_3)
    )
def dm_X12_assign (P : xP) (a0 : Nat) (v1 : Int32) (v2 : Int32) (v3 : Int32) (v4 : Int32) (σ : xS) : xO Int32 :=
  x_chk (σ.K a0 = 12) <|
  x_bind (dm_X12_isModule P a0 v1 σ) (fun v_1 σ_2 =>
    if v_1 = 0 then
      dm_X12_assign_p51 P a0 v1 v2 v3 v4 σ_2
    else
      if v2 < 0 then
        dm_X12_assign_p51 P a0 v1 v2 v3 v4 σ_2
      else
        x_chk (σ_2.K a0 = 12) <|
        x_bind (dm_X12_isModule P a0 v1 σ_2) (fun v_8 σ_9 =>
          if v_8 = 0 then
            dm_X12_assign_p31 P a0 v1 v2 v3 v4 v2 (σ_2.R 1121 a0) (some a0) 0 σ_9
          else
            dm_X12_assign_p31 P a0 v1 v2 v3 v4 v2 (σ_2.R 1121 a0) (some a0) v1 σ_9
          ) (fun E_12 σ_9 =>
          some (.inr E_12, σ_9)
          )
    ) (fun E_13 σ_2 =>
    some (.inr E_13, σ_2)
    )
def dm_X11_nameOf (P : xP) (a0 : Nat) (v1 : Int32) (v2 : Int32) (v3 : Int32) (σ : xS) : xO Int64 :=
  x_let (v1) fun v_1 =>
  if v_1 = 0 then
    x_chk (σ.K a0 = 11) <|
    x_bind (dm_X11_moduleAt P a0 v2 σ) (fun v_3 σ_4 =>
      x_some v_3 fun a_7 =>
      x_chk (σ_4.K a_7 = 6) <|
      some (.inl (σ_4.J 501 a_7), σ_4)
      ) (fun E_9 σ_4 =>
      some (.inr E_9, σ_4)
      )
  else
  if v_1 = 1 then
    x_chk (σ.K a0 = 11) <|
    x_bind (dm_X11_netAt P a0 v2 v3 σ) (fun v_11 σ_12 =>
      x_some v_11 fun a_15 =>
      x_chk (σ_12.K a_15 = 5) <|
      some (.inl (σ_12.J 400 a_15), σ_12)
      ) (fun E_17 σ_12 =>
      some (.inr E_17, σ_12)
      )
  else
  if v_1 = 2 then
    x_chk (σ.K a0 = 11) <|
    x_bind (dm_X11_instanceAt P a0 v2 v3 σ) (fun v_19 σ_20 =>
      x_some v_19 fun a_23 =>
      x_chk (σ_20.K a_23 = 2) <|
      some (.inl (σ_20.J 101 a_23), σ_20)
      ) (fun E_25 σ_20 =>
      some (.inr E_25, σ_20)
      )
  else
  if v_1 = 3 then
    x_chk (σ.K a0 = 11) <|
    x_bind (dm_X11_instanceAt P a0 v2 v3 σ) (fun v_27 σ_28 =>
      x_some v_27 fun a_31 =>
      x_chk (σ_28.K a_31 = 2) <|
      some (.inl (σ_28.J 100 a_31), σ_28)
      ) (fun E_33 σ_28 =>
      some (.inr E_33, σ_28)
      )
  else
    x_chk (σ.sz + 1 ≤ P.lim ∧ σ.su + 6 ≤ P.slim) <|
    some (.inr "java/lang/IndexOutOfBoundsException", σ.skip 6)
def dm_X11_letter_p38 (P : xP) (a0 : Nat) (s0 : Int32) (σ : xS) : xO Int32 :=
  some (.inl s0, σ)
def dm_X11_letter_p10 (P : xP) (a0 : Nat) (v1 : Int32) (v2 : Int32) (v3 : Int32) (v4 : Int32) (s0 : Int32) (σ : xS) : xO Int32 :=
  x_bind (dm_X11_refuseUnless P s0 σ) (fun _ σ_2 =>
    x_chk (σ_2.K a0 = 11) <|
    x_bind (dm_X11_nameOf P a0 v1 v2 v3 σ_2) (fun v_4 σ_5 =>
      x_bind (dm_X10_letterOf P v_4 v4 σ_5) (fun v_8 σ_9 =>
        if v_8 = 0 then
          dm_X11_letter_p38 P a0 (-1) σ_9
        else
          dm_X11_letter_p38 P a0 v_8 σ_9
        ) (fun E_12 σ_9 =>
        some (.inr E_12, σ_9)
        )
      ) (fun E_13 σ_5 =>
      some (.inr E_13, σ_5)
      )
    ) (fun E_14 σ_2 =>
    some (.inr E_14, σ_2)
    )
def dm_X11_letter (P : xP) (a0 : Nat) (v1 : Int32) (v2 : Int32) (v3 : Int32) (v4 : Int32) (σ : xS) : xO Int32 :=
  if v4 < 0 then
    dm_X11_letter_p10 P a0 v1 v2 v3 v4 0 σ
  else
    dm_X11_letter_p10 P a0 v1 v2 v3 v4 1 σ
def dm_L_letter (P : xP) (v0 : Option Nat) (v1 : Int32) (v2 : Int32) (v3 : Int32) (v4 : Int32) (v5 : Option Nat) (σ : xS) : xO Int32 :=
  x_some v0 fun a_1 =>
  x_chk (σ.K a_1 = 11) <|
  x_bind (dm_X11_letter P a_1 v1 v2 v3 v4 σ) (fun v_2 σ_3 =>
    x_some v5 fun a_6 =>
    x_chk (σ_3.K a_6 = 42 ∧ x_in 0 (σ_3.L a_6) ∧ P.base ≤ a_6) <|
    x_let (σ_3.setAJ a_6 (Int32.toNatClampNeg 0) (Int32.toInt64 v_2)) fun σ_8 =>
    some (.inl 0, σ_8)
    ) (fun E_9 σ_3 =>
    x_chk (E_9 = "java/lang/IndexOutOfBoundsException") <|
    some (.inl 1, σ_3)
    )
def dm_X12_letter_p219 (P : xP) (a0 : Nat) (s0 : Int32) (σ : xS) : xO Int32 :=
  some (.inl s0, σ)
def dm_X12_letter_p179 (P : xP) (a0 : Nat) (v4 : Int32) (s0 : Int32) (σ : xS) : xO Int32 :=
  x_chk (σ.K a0 = 12) <|
  x_bind (dm_X12_length P a0 (σ.I 1103 a0) s0 σ) (fun v_2 σ_3 =>
    if v_2 ≤ v4 then
      dm_X12_letter_p219 P a0 (-1) σ_3
    else
      x_chk (σ_3.K a0 = 12) <|
      x_some (σ_3.R 1104 a0) fun a_7 =>
      x_chk (σ_3.K a_7 = 31 ∧ x_in (((1000 * (σ_3.I 1103 a0)) + s0) + v4) (σ_3.L a_7)) <|
      dm_X12_letter_p219 P a0 (σ_3.AI a_7 (Int32.toNatClampNeg (((1000 * (σ_3.I 1103 a0)) + s0) + v4))) σ_3
    ) (fun E_9 σ_3 =>
    some (.inr E_9, σ_3)
    )
def dm_X12_letter_p89 (P : xP) (a0 : Nat) (v1 : Int32) (v2 : Int32) (v3 : Int32) (v4 : Int32) (s0 : Option Nat) (s1 : Int32) (σ : xS) : xO Int32 :=
  x_some s0 fun a_1 =>
  x_chk ((σ.K a_1 = 12) ∧ P.base ≤ a_1) <|
  x_let (σ.setI 1100 a_1 s1) fun σ_3 =>
  x_chk (σ_3.K a0 = 12) <|
  if (σ_3.I 1100 a0) ≤ 0 then
    if v1 = 0 then
      x_bind (dm_X12_of P a0 v2 σ_3) (fun v_27 σ_28 =>
        x_some (σ_3.R 1107 a0) fun a_30 =>
        x_chk (σ_28.K a_30 = 31 ∧ x_in v_27 (σ_28.L a_30)) <|
        dm_X12_letter_p179 P a0 v4 (σ_28.AI a_30 (Int32.toNatClampNeg v_27)) σ_28
        ) (fun E_32 σ_28 =>
        some (.inr E_32, σ_28)
        )
    else
      if v1 = 1 then
        x_bind (dm_X12_of P a0 v2 σ_3) (fun v_21 σ_22 =>
          x_some (σ_3.R 1110 a0) fun a_24 =>
          x_chk (σ_22.K a_24 = 31 ∧ x_in ((16 * v_21) + v3) (σ_22.L a_24)) <|
          dm_X12_letter_p179 P a0 v4 (σ_22.AI a_24 (Int32.toNatClampNeg ((16 * v_21) + v3))) σ_22
          ) (fun E_26 σ_22 =>
          some (.inr E_26, σ_22)
          )
      else
        if v1 = 2 then
          x_bind (dm_X12_of P a0 v2 σ_3) (fun v_15 σ_16 =>
            x_some (σ_3.R 1126 a0) fun a_18 =>
            x_chk (σ_16.K a_18 = 31 ∧ x_in ((12 * v_15) + v3) (σ_16.L a_18)) <|
            dm_X12_letter_p179 P a0 v4 (σ_16.AI a_18 (Int32.toNatClampNeg ((12 * v_15) + v3))) σ_16
            ) (fun E_20 σ_16 =>
            some (.inr E_20, σ_16)
            )
        else
          x_bind (dm_X12_of P a0 v2 σ_3) (fun v_9 σ_10 =>
            x_some (σ_3.R 1125 a0) fun a_12 =>
            x_chk (σ_10.K a_12 = 31 ∧ x_in ((12 * v_9) + v3) (σ_10.L a_12)) <|
            dm_X12_letter_p179 P a0 v4 (σ_10.AI a_12 (Int32.toNatClampNeg ((12 * v_9) + v3))) σ_10
            ) (fun E_14 σ_10 =>
            some (.inr E_14, σ_10)
            )
  else
    some (.inl 0, σ_3)
def dm_X12_letter_p76 (P : xP) (a0 : Nat) (v1 : Int32) (v2 : Int32) (v3 : Int32) (v4 : Int32) (s0 : Int32) (σ : xS) : xO Int32 :=
  if s0 = 0 then
    dm_X12_letter_p89 P a0 v1 v2 v3 v4 (some a0) 1 σ
  else
    dm_X12_letter_p89 P a0 v1 v2 v3 v4 (some a0) 0 σ
def dm_X12_letter_p71 (P : xP) (a0 : Nat) (v1 : Int32) (v2 : Int32) (v3 : Int32) (v4 : Int32) (σ : xS) : xO Int32 :=
  dm_X12_letter_p76 P a0 v1 v2 v3 v4 1 σ
def dm_X12_letter_p75 (P : xP) (a0 : Nat) (v1 : Int32) (v2 : Int32) (v3 : Int32) (v4 : Int32) (σ : xS) : xO Int32 :=
  dm_X12_letter_p76 P a0 v1 v2 v3 v4 0 σ
def dm_X12_letter_p57 (P : xP) (a0 : Nat) (v1 : Int32) (v2 : Int32) (v3 : Int32) (v4 : Int32) (σ : xS) : xO Int32 :=
  if v1 < 2 then
    dm_X12_letter_p71 P a0 v1 v2 v3 v4 σ
  else
    x_chk (σ.K a0 = 12) <|
    x_bind (dm_X12_isInstance P a0 v2 v3 σ) (fun v_2 σ_3 =>
      if v_2 = 0 then
        dm_X12_letter_p75 P a0 v1 v2 v3 v4 σ_3
      else
        dm_X12_letter_p71 P a0 v1 v2 v3 v4 σ_3
      ) (fun E_7 σ_3 =>
      some (.inr E_7, σ_3)
      )
def dm_X12_letter_p27 (P : xP) (a0 : Nat) (v1 : Int32) (v2 : Int32) (v3 : Int32) (v4 : Int32) (s0 : Int32) (σ : xS) : xO Int32 :=
  if s0 = 0 then
    dm_X12_letter_p75 P a0 v1 v2 v3 v4 σ
  else
    if v1 = 1 then
      if v3 < 0 then
        dm_X12_letter_p75 P a0 v1 v2 v3 v4 σ
      else
        x_chk (σ.K a0 = 12) <|
        x_bind (dm_X12_of P a0 v2 σ) (fun v_5 σ_6 =>
          x_some (σ.R 1109 a0) fun a_8 =>
          x_chk (σ_6.K a_8 = 31 ∧ x_in v_5 (σ_6.L a_8)) <|
          if (σ_6.AI a_8 (Int32.toNatClampNeg v_5)) ≤ v3 then
            dm_X12_letter_p75 P a0 v1 v2 v3 v4 σ_6
          else
            dm_X12_letter_p57 P a0 v1 v2 v3 v4 σ_6
          ) (fun E_11 σ_6 =>
          some (.inr E_11, σ_6)
          )
    else
      dm_X12_letter_p57 P a0 v1 v2 v3 v4 σ
def dm_X12_letter_p26 (P : xP) (a0 : Nat) (v1 : Int32) (v2 : Int32) (v3 : Int32) (v4 : Int32) (σ : xS) : xO Int32 :=
  dm_X12_letter_p27 P a0 v1 v2 v3 v4 0 σ
def dm_X12_letter (P : xP) (a0 : Nat) (v1 : Int32) (v2 : Int32) (v3 : Int32) (v4 : Int32) (σ : xS) : xO Int32 :=
  x_chk (σ.K a0 = 12) <|
  x_bind (dm_X12_isModule P a0 v2 σ) (fun v_1 σ_2 =>
    if v_1 = 0 then
      dm_X12_letter_p26 P a0 v1 v2 v3 v4 σ_2
    else
      if v4 < 0 then
        dm_X12_letter_p26 P a0 v1 v2 v3 v4 σ_2
      else
        if v1 < 0 then
          dm_X12_letter_p26 P a0 v1 v2 v3 v4 σ_2
        else
          if 3 < v1 then
            dm_X12_letter_p26 P a0 v1 v2 v3 v4 σ_2
          else
            dm_X12_letter_p27 P a0 v1 v2 v3 v4 1 σ_2
    ) (fun E_9 σ_2 =>
    some (.inr E_9, σ_2)
    )
def dm_X7_put_p12 (P : xP) (a0 : Nat) (σ : xS) : xO Unit :=
  x_chk (σ.K a0 = 8) <|
  x_chk ((σ.K a0 = 8) ∧ P.base ≤ a0) <|
  x_let (σ.setI 701 a0 ((σ.I 701 a0) - 1)) fun σ_3 =>
  some (.inl (), σ_3)
def dm_X7_put (P : xP) (a0 : Nat) (v1 : Int32) (σ : xS) : xO Unit :=
  x_chk (σ.K a0 = 8) <|
  if (σ.I 701 a0) = 0 then
    x_chk ((σ.K a0 = 8) ∧ P.base ≤ a0) <|
    x_let (σ.setI 702 a0 v1) fun σ_4 =>
    dm_X7_put_p12 P a0 σ_4
  else
    dm_X7_put_p12 P a0 σ
def dm_X7_putText_L2 (P : xP) (a0 : Nat) : Nat → Option Nat → Int32 → xS → xO Unit
  | 0, _, _, _ => none
  | n + 1, v1, v2, σ =>
    x_some v1 fun a_1 =>
    x_chk (σ.K a_1 = 13) <|
    x_bind (dm_J0_length_8abf5 P a_1 σ) (fun v_2 σ_3 =>
      if v_2 ≤ v2 then
        some (.inl (), σ_3)
      else
        x_chk (σ_3.K a_1 = 13) <|
        x_bind (dm_J0_charAt_5068e P a_1 v2 σ_3) (fun v_7 σ_8 =>
          x_chk (σ_8.K a0 = 8) <|
          x_bind (dm_X7_put P a0 v_7 σ_8) (fun _ σ_12 =>
            x_let (v2 + 1) fun v_15 =>
            dm_X7_putText_L2 P a0 n v1 v_15 σ_12
            ) (fun E_16 σ_12 =>
            some (.inr E_16, σ_12)
            )
          ) (fun E_17 σ_8 =>
          some (.inr E_17, σ_8)
          )
      ) (fun E_18 σ_3 =>
      some (.inr E_18, σ_3)
      )
def dm_X7_putText (P : xP) (a0 : Nat) (v1 : Option Nat) (σ : xS) : xO Unit :=
  dm_X7_putText_L2 P a0 P.N v1 0 σ
def dm_X7_putName_p32 (P : xP) (a0 : Nat) (σ : xS) : xO Unit :=
  some (.inl (), σ)
def dm_X7_putName_L2 (P : xP) (a0 : Nat) : Nat → Int64 → Int32 → xS → xO Unit
  | 0, _, _, _ => none
  | n + 1, v1, v3, σ =>
    if 8 ≤ v3 then
      dm_X7_putName_p32 P a0 σ
    else
      x_bind (dm_X10_letterOf P v1 v3 σ) (fun v_2 σ_3 =>
        if v_2 = 0 then
          dm_X7_putName_p32 P a0 σ_3
        else
          x_bind (dm_X10_letterOf P v1 v3 σ_3) (fun v_6 σ_7 =>
            x_chk (σ_7.K a0 = 8) <|
            x_bind (dm_X7_put P a0 (UInt32.toInt32 (Int32.toUInt32 v_6 % 65536)) σ_7) (fun _ σ_10 =>
              x_let (v3 + 1) fun v_13 =>
              dm_X7_putName_L2 P a0 n v1 v_13 σ_10
              ) (fun E_14 σ_10 =>
              some (.inr E_14, σ_10)
              )
            ) (fun E_15 σ_7 =>
            some (.inr E_15, σ_7)
            )
        ) (fun E_16 σ_3 =>
        some (.inr E_16, σ_3)
        )
def dm_X7_putName (P : xP) (a0 : Nat) (v1 : Int64) (σ : xS) : xO Unit :=
  dm_X7_putName_L2 P a0 P.N v1 0 σ
def dm_X7_putDigit (P : xP) (a0 : Nat) (v1 : Int32) (σ : xS) : xO Unit :=
  x_chk (σ.K a0 = 8) <|
  x_bind (dm_X7_put P a0 (UInt32.toInt32 (Int32.toUInt32 (48 + v1) % 65536)) σ) (fun _ σ_2 =>
    some (.inl (), σ_2)
    ) (fun E_5 σ_2 =>
    some (.inr E_5, σ_2)
    )
def dm_X7_printLongNet_p61 (P : xP) (a0 : Nat) (v1 : Option Nat) (σ : xS) : xO Unit :=
  x_some v1 fun a_1 =>
  x_chk (σ.K a_1 = 5) <|
  x_chk (σ.K a0 = 8) <|
  x_bind (dm_X7_putName P a0 (σ.J 400 a_1) σ) (fun _ σ_4 =>
    x_chk (σ_4.K a0 = 8) <|
    x_bind (dm_X7_putText P a0 (some (P.ad 4)) σ_4) (fun _ σ_8 =>
      some (.inl (), σ_8)
      ) (fun E_11 σ_8 =>
      some (.inr E_11, σ_8)
      )
    ) (fun E_12 σ_4 =>
    some (.inr E_12, σ_4)
    )
def dm_X7_printLongNet_p28 (P : xP) (a0 : Nat) (v1 : Option Nat) (s0 : Option Nat) (s1 : Option Nat) (σ : xS) : xO Unit :=
  x_some s0 fun a_1 =>
  x_chk (σ.K a_1 = 8) <|
  x_bind (dm_X7_putText P a_1 s1 σ) (fun _ σ_3 =>
    x_some v1 fun a_6 =>
    x_chk (σ_3.K a_6 = 5) <|
    if (σ_3.I 402 a_6) ≤ 1 then
      dm_X7_printLongNet_p61 P a0 v1 σ_3
    else
      x_chk (σ_3.K a0 = 8) <|
      x_bind (dm_X7_put P a0 91 σ_3) (fun _ σ_10 =>
        x_chk (σ_10.K a_6 = 5) <|
        x_chk (σ_10.K a0 = 8) <|
        x_bind (dm_X7_putDigit P a0 ((σ_10.I 402 a_6) - 1) σ_10) (fun _ σ_15 =>
          x_chk (σ_15.K a0 = 8) <|
          x_bind (dm_X7_putText P a0 (some (P.ad 3)) σ_15) (fun _ σ_19 =>
            dm_X7_printLongNet_p61 P a0 v1 σ_19
            ) (fun E_22 σ_19 =>
            some (.inr E_22, σ_19)
            )
          ) (fun E_23 σ_15 =>
          some (.inr E_23, σ_15)
          )
        ) (fun E_24 σ_10 =>
        some (.inr E_24, σ_10)
        )
    ) (fun E_25 σ_3 =>
    some (.inr E_25, σ_3)
    )
def dm_X7_printLongNet (P : xP) (a0 : Nat) (v1 : Option Nat) (σ : xS) : xO Unit :=
  x_some v1 fun a_1 =>
  x_chk (σ.K a_1 = 5) <|
  if (σ.I 401 a_1) = 0 then
    dm_X7_printLongNet_p28 P a0 v1 (some a0) (some (P.ad 16)) σ
  else
    if (σ.I 401 a_1) = 1 then
      dm_X7_printLongNet_p28 P a0 v1 (some a0) (some (P.ad 24)) σ
    else
      dm_X7_printLongNet_p28 P a0 v1 (some a0) (some (P.ad 30)) σ
def dm_X7_putConstant_p60 (P : xP) (k38 : Option Nat → Int32 → xS → xO Unit) (a0 : Nat) (v1 : Option Nat) (v2 : Int32) (s0 : Option Nat) (s1 : Int32) (σ : xS) : xO Unit :=
  x_some s0 fun a_1 =>
  x_chk (σ.K a_1 = 8) <|
  x_bind (dm_X7_put P a_1 s1 σ) (fun _ σ_3 =>
    x_let (v2 + (-1)) fun v_6 =>
    k38 v1 v_6 σ_3
    ) (fun E_7 σ_3 =>
    some (.inr E_7, σ_3)
    )
def dm_X7_putConstant_L38 (P : xP) (a0 : Nat) : Nat → Option Nat → Int32 → xS → xO Unit
  | 0, _, _, _ => none
  | n + 1, v1, v2, σ =>
    if v2 < 0 then
      some (.inl (), σ)
    else
      x_some v1 fun a_2 =>
      x_chk (σ.K a_2 = 7) <|
      x_bind (dm_X6_bitAt P a_2 v2 σ) (fun v_3 σ_4 =>
        if v_3 = (-3) then
          dm_X7_putConstant_p60 P (dm_X7_putConstant_L38 P a0 n) a0 v1 v2 (some a0) 49 σ_4
        else
          dm_X7_putConstant_p60 P (dm_X7_putConstant_L38 P a0 n) a0 v1 v2 (some a0) 48 σ_4
        ) (fun E_8 σ_4 =>
        some (.inr E_8, σ_4)
        )
def dm_X7_putConstant_p19 (P : xP) (a0 : Nat) (v1 : Option Nat) (σ : xS) : xO Unit :=
  x_chk (σ.K a0 = 8) <|
  x_bind (dm_X7_put P a0 39 σ) (fun _ σ_2 =>
    x_chk (σ_2.K a0 = 8) <|
    x_bind (dm_X7_put P a0 98 σ_2) (fun _ σ_6 =>
      x_some v1 fun a_9 =>
      x_chk (σ_6.K a_9 = 7) <|
      x_bind (dm_X6_width P a_9 σ_6) (fun v_10 σ_11 =>
        x_let ((v_10 - 1)) fun v_14 =>
        dm_X7_putConstant_L38 P a0 P.N v1 v_14 σ_11
        ) (fun E_15 σ_11 =>
        some (.inr E_15, σ_11)
        )
      ) (fun E_16 σ_6 =>
      some (.inr E_16, σ_6)
      )
    ) (fun E_17 σ_2 =>
    some (.inr E_17, σ_2)
    )
def dm_X7_putConstant (P : xP) (a0 : Nat) (v1 : Option Nat) (σ : xS) : xO Unit :=
  x_chk (σ.K a0 = 8) <|
  if (σ.I 700 a0) = 0 then
    dm_X7_putConstant_p19 P a0 v1 σ
  else
    x_some v1 fun a_3 =>
    x_chk (σ.K a_3 = 7) <|
    x_bind (dm_X6_width P a_3 σ) (fun v_4 σ_5 =>
      x_chk (σ_5.K a0 = 8) <|
      x_bind (dm_X7_put P a0 (UInt32.toInt32 (Int32.toUInt32 (48 + v_4) % 65536)) σ_5) (fun _ σ_9 =>
        dm_X7_putConstant_p19 P a0 v1 σ_9
        ) (fun E_12 σ_9 =>
        some (.inr E_12, σ_9)
        )
      ) (fun E_13 σ_5 =>
      some (.inr E_13, σ_5)
      )
def dm_X7_printPart_p105 (P : xP) (a0 : Nat) (σ : xS) : xO Unit :=
  some (.inl (), σ)
def dm_X7_printPart_p92 (P : xP) (a0 : Nat) (σ : xS) : xO Unit :=
  x_chk (σ.K a0 = 8) <|
  if (σ.I 700 a0) = 0 then
    dm_X7_printPart_p105 P a0 σ
  else
    x_bind (dm_X7_put P a0 93 σ) (fun _ σ_4 =>
      dm_X7_printPart_p105 P a0 σ_4
      ) (fun E_6 σ_4 =>
      some (.inr E_6, σ_4)
      )
def dm_X7_printPart_p81 (P : xP) (a0 : Nat) (v1 : Option Nat) (s0 : Option Nat) (s1 : Int32) (σ : xS) : xO Unit :=
  x_some s0 fun a_1 =>
  x_chk (σ.K a_1 = 8) <|
  x_bind (dm_X7_put P a_1 s1 σ) (fun _ σ_3 =>
    x_some v1 fun a_6 =>
    x_chk (σ_3.K a_6 = 7) <|
    x_chk (σ_3.K a0 = 8) <|
    x_bind (dm_X7_putDigit P a0 (σ_3.I 604 a_6) σ_3) (fun _ σ_9 =>
      dm_X7_printPart_p92 P a0 σ_9
      ) (fun E_12 σ_9 =>
      some (.inr E_12, σ_9)
      )
    ) (fun E_13 σ_3 =>
    some (.inr E_13, σ_3)
    )
def dm_X7_printPart_p47 (P : xP) (a0 : Nat) (v1 : Option Nat) (s0 : Option Nat) (s1 : Int32) (σ : xS) : xO Unit :=
  x_some s0 fun a_1 =>
  x_chk (σ.K a_1 = 8) <|
  x_bind (dm_X7_put P a_1 s1 σ) (fun _ σ_3 =>
    x_some v1 fun a_6 =>
    x_chk (σ_3.K a_6 = 7) <|
    x_chk (σ_3.K a0 = 8) <|
    x_bind (dm_X7_putDigit P a0 (σ_3.I 603 a_6) σ_3) (fun _ σ_9 =>
      x_chk (σ_9.K a_6 = 7) <|
      if (σ_9.I 600 a_6) = 2 then
        x_chk (σ_9.K a0 = 8) <|
        if (σ_9.I 700 a0) = 0 then
          dm_X7_printPart_p81 P a0 v1 (some a0) 46 σ_9
        else
          dm_X7_printPart_p81 P a0 v1 (some a0) 58 σ_9
      else
        dm_X7_printPart_p92 P a0 σ_9
      ) (fun E_16 σ_9 =>
      some (.inr E_16, σ_9)
      )
    ) (fun E_17 σ_3 =>
    some (.inr E_17, σ_3)
    )
def dm_X7_printPart (P : xP) (a0 : Nat) (v1 : Option Nat) (σ : xS) : xO Unit :=
  x_some v1 fun a_1 =>
  x_chk (σ.K a_1 = 7) <|
  if (σ.R 602 a_1) = none then
    x_chk (σ.K a0 = 8) <|
    x_bind (dm_X7_putConstant P a0 v1 σ) (fun _ σ_16 =>
      some (.inl (), σ_16)
      ) (fun E_19 σ_16 =>
      some (.inr E_19, σ_16)
      )
  else
    x_some (σ.R 602 a_1) fun a_4 =>
    x_chk (σ.K a_4 = 5) <|
    x_chk (σ.K a0 = 8) <|
    x_bind (dm_X7_putName P a0 (σ.J 400 a_4) σ) (fun _ σ_7 =>
      x_chk (σ_7.K a_1 = 7) <|
      if (σ_7.I 600 a_1) = 0 then
        some (.inl (), σ_7)
      else
        x_chk (σ_7.K a0 = 8) <|
        if (σ_7.I 700 a0) = 0 then
          dm_X7_printPart_p47 P a0 v1 (some a0) 46 σ_7
        else
          dm_X7_printPart_p47 P a0 v1 (some a0) 91 σ_7
      ) (fun E_14 σ_7 =>
      some (.inr E_14, σ_7)
      )
def dm_X1_pinName_p31 (P : xP) (a0 : Nat) (s0 : Int64) (σ : xS) : xO Int64 :=
  some (.inl s0, σ)
def dm_X1_pinName (P : xP) (a0 : Nat) (v1 : Int32) (σ : xS) : xO Int64 :=
  x_chk (σ.K a0 = 2) <|
  if (σ.R 106 a0) = none then
    x_some (σ.R 104 a0) fun a_9 =>
    x_chk (σ.K a_9 = 25 ∧ x_in v1 (σ.L a_9)) <|
    x_some (σ.AR a_9 (Int32.toNatClampNeg v1)) fun a_11 =>
    x_chk (σ.K a_11 = 3) <|
    dm_X1_pinName_p31 P a0 (σ.J 200 a_11) σ
  else
    x_some (σ.R 106 a0) fun a_3 =>
    x_chk (σ.K a_3 = 6) <|
    x_some (σ.R 503 a_3) fun a_5 =>
    x_chk (σ.K a_5 = 26 ∧ x_in v1 (σ.L a_5)) <|
    x_some (σ.AR a_5 (Int32.toNatClampNeg v1)) fun a_7 =>
    x_chk (σ.K a_7 = 5) <|
    dm_X1_pinName_p31 P a0 (σ.J 400 a_7) σ
def dm_X7_printNamedLink_p26 (P : xP) (a0 : Nat) (σ : xS) : xO Unit :=
  x_chk (σ.K a0 = 8) <|
  x_bind (dm_X7_put P a0 41 σ) (fun _ σ_2 =>
    some (.inl (), σ_2)
    ) (fun E_5 σ_2 =>
    some (.inr E_5, σ_2)
    )
def dm_X7_printNamedLink (P : xP) (a0 : Nat) (v1 : Int64) (v3 : Option Nat) (σ : xS) : xO Unit :=
  x_chk (σ.K a0 = 8) <|
  x_bind (dm_X7_put P a0 46 σ) (fun _ σ_2 =>
    x_chk (σ_2.K a0 = 8) <|
    x_bind (dm_X7_putName P a0 v1 σ_2) (fun _ σ_6 =>
      x_chk (σ_6.K a0 = 8) <|
      x_bind (dm_X7_put P a0 40 σ_6) (fun _ σ_10 =>
        if v3 = none then
          dm_X7_printNamedLink_p26 P a0 σ_10
        else
          x_chk (σ_10.K a0 = 8) <|
          x_bind (dm_X7_printPart P a0 v3 σ_10) (fun _ σ_15 =>
            dm_X7_printNamedLink_p26 P a0 σ_15
            ) (fun E_18 σ_15 =>
            some (.inr E_18, σ_15)
            )
        ) (fun E_19 σ_10 =>
        some (.inr E_19, σ_10)
        )
      ) (fun E_20 σ_6 =>
      some (.inr E_20, σ_6)
      )
    ) (fun E_21 σ_2 =>
    some (.inr E_21, σ_2)
    )
def dm_X7_printOrderedLink_p18 (P : xP) (a0 : Nat) (σ : xS) : xO Unit :=
  some (.inl (), σ)
def dm_X7_printOrderedLink (P : xP) (a0 : Nat) (v1 : Option Nat) (σ : xS) : xO Unit :=
  if v1 = none then
    x_chk (σ.K a0 = 8) <|
    x_bind (dm_X7_put P a0 45 σ) (fun _ σ_8 =>
      dm_X7_printOrderedLink_p18 P a0 σ_8
      ) (fun E_11 σ_8 =>
      some (.inr E_11, σ_8)
      )
  else
    x_chk (σ.K a0 = 8) <|
    x_bind (dm_X7_printPart P a0 v1 σ) (fun _ σ_3 =>
      dm_X7_printOrderedLink_p18 P a0 σ_3
      ) (fun E_6 σ_3 =>
      some (.inr E_6, σ_3)
      )
def dm_X7_printLongInstance_p103 (P : xP) (k50 : Option Nat → Int32 → Int32 → xS → xO Unit) (a0 : Nat) (v1 : Option Nat) (v2 : Int32) (v3 : Int32) (σ : xS) : xO Unit :=
  x_let (v3 + 1) fun v_1 =>
  k50 v1 v2 v_1 σ
def dm_X7_printLongInstance_p70 (P : xP) (k50 : Option Nat → Int32 → Int32 → xS → xO Unit) (a0 : Nat) (v1 : Option Nat) (v2 : Int32) (v3 : Int32) (s0 : Option Nat) (s1 : Option Nat) (σ : xS) : xO Unit :=
  x_some s0 fun a_1 =>
  x_chk (σ.K a_1 = 8) <|
  x_bind (dm_X7_putText P a_1 s1 σ) (fun _ σ_3 =>
    if v2 = 0 then
      x_some v1 fun a_7 =>
      x_chk (σ_3.K a_7 = 2) <|
      x_bind (dm_X1_partAt P a_7 v3 σ_3) (fun v_8 σ_9 =>
        x_chk (σ_9.K a0 = 8) <|
        x_bind (dm_X7_printOrderedLink P a0 v_8 σ_9) (fun _ σ_13 =>
          dm_X7_printLongInstance_p103 P k50 a0 v1 v2 v3 σ_13
          ) (fun E_16 σ_13 =>
          some (.inr E_16, σ_13)
          )
        ) (fun E_17 σ_9 =>
        some (.inr E_17, σ_9)
        )
    else
      x_some v1 fun a_18 =>
      x_chk (σ_3.K a_18 = 2) <|
      x_bind (dm_X1_pinName P a_18 v3 σ_3) (fun v_19 σ_20 =>
        x_chk (σ_20.K a_18 = 2) <|
        x_bind (dm_X1_partAt P a_18 v3 σ_20) (fun v_23 σ_24 =>
          x_chk (σ_24.K a0 = 8) <|
          x_bind (dm_X7_printNamedLink P a0 v_19 v_23 σ_24) (fun _ σ_28 =>
            dm_X7_printLongInstance_p103 P k50 a0 v1 v2 v3 σ_28
            ) (fun E_31 σ_28 =>
            some (.inr E_31, σ_28)
            )
          ) (fun E_32 σ_24 =>
          some (.inr E_32, σ_24)
          )
        ) (fun E_33 σ_20 =>
        some (.inr E_33, σ_20)
        )
    ) (fun E_34 σ_3 =>
    some (.inr E_34, σ_3)
    )
def dm_X7_printLongInstance_L50 (P : xP) (a0 : Nat) : Nat → Option Nat → Int32 → Int32 → xS → xO Unit
  | 0, _, _, _, _ => none
  | n + 1, v1, v2, v3, σ =>
    x_some v1 fun a_1 =>
    x_chk (σ.K a_1 = 2) <|
    x_bind (dm_X1_pinCount P a_1 σ) (fun v_2 σ_3 =>
      if v_2 ≤ v3 then
        x_chk (σ_3.K a0 = 8) <|
        x_bind (dm_X7_putText P a0 (some (P.ad 1)) σ_3) (fun _ σ_8 =>
          some (.inl (), σ_8)
          ) (fun E_11 σ_8 =>
          some (.inr E_11, σ_8)
          )
      else
        if v3 = 0 then
          dm_X7_printLongInstance_p70 P (dm_X7_printLongInstance_L50 P a0 n) a0 v1 v2 v3 (some a0) (some (P.ad 0)) σ_3
        else
          dm_X7_printLongInstance_p70 P (dm_X7_printLongInstance_L50 P a0 n) a0 v1 v2 v3 (some a0) (some (P.ad 2)) σ_3
      ) (fun E_13 σ_3 =>
      some (.inr E_13, σ_3)
      )
def dm_X7_printLongInstance_p19 (P : xP) (a0 : Nat) (v1 : Option Nat) (s0 : Int32) (σ : xS) : xO Unit :=
  x_some v1 fun a_1 =>
  x_chk (σ.K a_1 = 2) <|
  x_chk (σ.K a0 = 8) <|
  x_bind (dm_X7_putName P a0 (σ.J 100 a_1) σ) (fun _ σ_4 =>
    x_chk (σ_4.K a0 = 8) <|
    x_bind (dm_X7_put P a0 32 σ_4) (fun _ σ_8 =>
      x_chk (σ_8.K a_1 = 2) <|
      x_chk (σ_8.K a0 = 8) <|
      x_bind (dm_X7_putName P a0 (σ_8.J 101 a_1) σ_8) (fun _ σ_13 =>
        x_chk (σ_13.K a0 = 8) <|
        x_bind (dm_X7_put P a0 40 σ_13) (fun _ σ_17 =>
          dm_X7_printLongInstance_L50 P a0 P.N v1 s0 0 σ_17
          ) (fun E_20 σ_17 =>
          some (.inr E_20, σ_17)
          )
        ) (fun E_21 σ_13 =>
        some (.inr E_21, σ_13)
        )
      ) (fun E_22 σ_8 =>
      some (.inr E_22, σ_8)
      )
    ) (fun E_23 σ_4 =>
    some (.inr E_23, σ_4)
    )
def dm_X7_printLongInstance_p14 (P : xP) (a0 : Nat) (v1 : Option Nat) (σ : xS) : xO Unit :=
  dm_X7_printLongInstance_p19 P a0 v1 1 σ
def dm_X7_printLongInstance (P : xP) (a0 : Nat) (v1 : Option Nat) (σ : xS) : xO Unit :=
  x_some v1 fun a_1 =>
  x_chk (σ.K a_1 = 2) <|
  if (σ.R 106 a_1) = none then
    if (σ.I 103 a_1) = 0 then
      dm_X7_printLongInstance_p19 P a0 v1 0 σ
    else
      dm_X7_printLongInstance_p14 P a0 v1 σ
  else
    dm_X7_printLongInstance_p14 P a0 v1 σ
def dm_X7_printLong_p42 (P : xP) (k22 : Option Nat → Int32 → xS → xO Unit) (a0 : Nat) (v1 : Option Nat) (v2 : Int32) (s0 : Option Nat) (s1 : Option Nat) (σ : xS) : xO Unit :=
  x_some s0 fun a_1 =>
  x_chk (σ.K a_1 = 8) <|
  x_bind (dm_X7_putText P a_1 s1 σ) (fun _ σ_3 =>
    x_some v1 fun a_6 =>
    x_chk (σ_3.K a_6 = 6) <|
    x_some (σ_3.R 503 a_6) fun a_8 =>
    x_chk (σ_3.K a_8 = 26 ∧ x_in v2 (σ_3.L a_8)) <|
    x_some (σ_3.AR a_8 (Int32.toNatClampNeg v2)) fun a_10 =>
    x_chk (σ_3.K a_10 = 5) <|
    x_chk (σ_3.K a0 = 8) <|
    x_bind (dm_X7_putName P a0 (σ_3.J 400 a_10) σ_3) (fun _ σ_13 =>
      x_let (v2 + 1) fun v_16 =>
      k22 v1 v_16 σ_13
      ) (fun E_17 σ_13 =>
      some (.inr E_17, σ_13)
      )
    ) (fun E_18 σ_3 =>
    some (.inr E_18, σ_3)
    )
def dm_X7_printLong_L152 (P : xP) (a0 : Nat) : Nat → Option Nat → Int32 → xS → xO Unit
  | 0, _, _, _ => none
  | n + 1, v1, v2, σ =>
    x_some v1 fun a_1 =>
    x_chk (σ.K a_1 = 6) <|
    if (σ.I 511 a_1) ≤ v2 then
      x_chk (σ.K a0 = 8) <|
      x_bind (dm_X7_putText P a0 (some (P.ad 12)) σ) (fun _ σ_5 =>
        some (.inl (), σ_5)
        ) (fun E_8 σ_5 =>
        some (.inr E_8, σ_5)
        )
    else
      x_some (σ.R 510 a_1) fun a_9 =>
      x_chk (σ.K a_9 = 24 ∧ x_in v2 (σ.L a_9)) <|
      x_chk (σ.K a0 = 8) <|
      x_bind (dm_X7_printLongInstance P a0 (σ.AR a_9 (Int32.toNatClampNeg v2)) σ) (fun _ σ_12 =>
        x_let (v2 + 1) fun v_15 =>
        dm_X7_printLong_L152 P a0 n v1 v_15 σ_12
        ) (fun E_16 σ_12 =>
        some (.inr E_16, σ_12)
        )
def dm_X7_printLong_L98 (P : xP) (a0 : Nat) : Nat → Option Nat → Int32 → xS → xO Unit
  | 0, _, _, _ => none
  | n + 1, v1, v2, σ =>
    x_some v1 fun a_1 =>
    x_chk (σ.K a_1 = 6) <|
    if (σ.I 509 a_1) ≤ v2 then
      dm_X7_printLong_L152 P a0 P.N v1 0 σ
    else
      x_chk (σ.K a0 = 8) <|
      x_bind (dm_X7_putText P a0 (some (P.ad 8)) σ) (fun _ σ_5 =>
        x_chk (σ_5.K a_1 = 6) <|
        x_some (σ_5.R 507 a_1) fun a_9 =>
        x_chk (σ_5.K a_9 = 28 ∧ x_in v2 (σ_5.L a_9)) <|
        x_chk (σ_5.K a0 = 8) <|
        x_bind (dm_X7_printPart P a0 (σ_5.AR a_9 (Int32.toNatClampNeg v2)) σ_5) (fun _ σ_12 =>
          x_chk (σ_12.K a0 = 8) <|
          x_bind (dm_X7_put P a0 61 σ_12) (fun _ σ_16 =>
            x_chk (σ_16.K a_1 = 6) <|
            x_some (σ_16.R 508 a_1) fun a_20 =>
            x_chk (σ_16.K a_20 = 28 ∧ x_in v2 (σ_16.L a_20)) <|
            x_chk (σ_16.K a0 = 8) <|
            x_bind (dm_X7_printPart P a0 (σ_16.AR a_20 (Int32.toNatClampNeg v2)) σ_16) (fun _ σ_23 =>
              x_chk (σ_23.K a0 = 8) <|
              x_bind (dm_X7_putText P a0 (some (P.ad 4)) σ_23) (fun _ σ_27 =>
                x_let (v2 + 1) fun v_30 =>
                dm_X7_printLong_L98 P a0 n v1 v_30 σ_27
                ) (fun E_31 σ_27 =>
                some (.inr E_31, σ_27)
                )
              ) (fun E_32 σ_23 =>
              some (.inr E_32, σ_23)
              )
            ) (fun E_33 σ_16 =>
            some (.inr E_33, σ_16)
            )
          ) (fun E_34 σ_12 =>
          some (.inr E_34, σ_12)
          )
        ) (fun E_35 σ_5 =>
        some (.inr E_35, σ_5)
        )
def dm_X7_printLong_L72 (P : xP) (a0 : Nat) : Nat → Option Nat → Int32 → xS → xO Unit
  | 0, _, _, _ => none
  | n + 1, v1, v2, σ =>
    x_some v1 fun a_1 =>
    x_chk (σ.K a_1 = 6) <|
    if (σ.I 504 a_1) ≤ v2 then
      dm_X7_printLong_L98 P a0 P.N v1 0 σ
    else
      x_some (σ.R 503 a_1) fun a_4 =>
      x_chk (σ.K a_4 = 26 ∧ x_in v2 (σ.L a_4)) <|
      x_chk (σ.K a0 = 8) <|
      x_bind (dm_X7_printLongNet P a0 (σ.AR a_4 (Int32.toNatClampNeg v2)) σ) (fun _ σ_7 =>
        x_let (v2 + 1) fun v_10 =>
        dm_X7_printLong_L72 P a0 n v1 v_10 σ_7
        ) (fun E_11 σ_7 =>
        some (.inr E_11, σ_7)
        )
def dm_X7_printLong_L22 (P : xP) (a0 : Nat) : Nat → Option Nat → Int32 → xS → xO Unit
  | 0, _, _, _ => none
  | n + 1, v1, v2, σ =>
    x_some v1 fun a_1 =>
    x_chk (σ.K a_1 = 6) <|
    if (σ.I 505 a_1) ≤ v2 then
      x_chk (σ.K a0 = 8) <|
      x_bind (dm_X7_putText P a0 (some (P.ad 1)) σ) (fun _ σ_5 =>
        dm_X7_printLong_L72 P a0 P.N v1 0 σ_5
        ) (fun E_8 σ_5 =>
        some (.inr E_8, σ_5)
        )
    else
      if v2 = 0 then
        dm_X7_printLong_p42 P (dm_X7_printLong_L22 P a0 n) a0 v1 v2 (some a0) (some (P.ad 0)) σ
      else
        dm_X7_printLong_p42 P (dm_X7_printLong_L22 P a0 n) a0 v1 v2 (some a0) (some (P.ad 2)) σ
def dm_X7_printLong (P : xP) (a0 : Nat) (v1 : Option Nat) (σ : xS) : xO Unit :=
  x_chk (σ.K a0 = 8) <|
  x_bind (dm_X7_putText P a0 (some (P.ad 20)) σ) (fun _ σ_2 =>
    x_some v1 fun a_5 =>
    x_chk (σ_2.K a_5 = 6) <|
    x_chk (σ_2.K a0 = 8) <|
    x_bind (dm_X7_putName P a0 (σ_2.J 501 a_5) σ_2) (fun _ σ_8 =>
      x_chk (σ_8.K a0 = 8) <|
      x_bind (dm_X7_put P a0 40 σ_8) (fun _ σ_12 =>
        dm_X7_printLong_L22 P a0 P.N v1 0 σ_12
        ) (fun E_15 σ_12 =>
        some (.inr E_15, σ_12)
        )
      ) (fun E_16 σ_8 =>
      some (.inr E_16, σ_8)
      )
    ) (fun E_17 σ_2 =>
    some (.inr E_17, σ_2)
    )
def dm_X7_printShortNet_p28 (P : xP) (a0 : Nat) (v1 : Option Nat) (s0 : Option Nat) (s1 : Option Nat) (σ : xS) : xO Unit :=
  x_some s0 fun a_1 =>
  x_chk (σ.K a_1 = 8) <|
  x_bind (dm_X7_putText P a_1 s1 σ) (fun _ σ_3 =>
    x_some v1 fun a_6 =>
    x_chk (σ_3.K a_6 = 5) <|
    x_chk (σ_3.K a0 = 8) <|
    x_bind (dm_X7_putName P a0 (σ_3.J 400 a_6) σ_3) (fun _ σ_9 =>
      x_chk (σ_9.K a0 = 8) <|
      x_bind (dm_X7_put P a0 32 σ_9) (fun _ σ_13 =>
        x_chk (σ_13.K a_6 = 5) <|
        x_chk (σ_13.K a0 = 8) <|
        x_bind (dm_X7_putDigit P a0 (σ_13.I 402 a_6) σ_13) (fun _ σ_18 =>
          x_chk (σ_18.K a0 = 8) <|
          x_bind (dm_X7_putText P a0 (some (P.ad 4)) σ_18) (fun _ σ_22 =>
            some (.inl (), σ_22)
            ) (fun E_25 σ_22 =>
            some (.inr E_25, σ_22)
            )
          ) (fun E_26 σ_18 =>
          some (.inr E_26, σ_18)
          )
        ) (fun E_27 σ_13 =>
        some (.inr E_27, σ_13)
        )
      ) (fun E_28 σ_9 =>
      some (.inr E_28, σ_9)
      )
    ) (fun E_29 σ_3 =>
    some (.inr E_29, σ_3)
    )
def dm_X7_printShortNet (P : xP) (a0 : Nat) (v1 : Option Nat) (σ : xS) : xO Unit :=
  x_some v1 fun a_1 =>
  x_chk (σ.K a_1 = 5) <|
  if (σ.I 401 a_1) = 0 then
    dm_X7_printShortNet_p28 P a0 v1 (some a0) (some (P.ad 14)) σ
  else
    if (σ.I 401 a_1) = 1 then
      dm_X7_printShortNet_p28 P a0 v1 (some a0) (some (P.ad 22)) σ
    else
      dm_X7_printShortNet_p28 P a0 v1 (some a0) (some (P.ad 28)) σ
def dm_X7_printShortInstance_L30 (P : xP) (a0 : Nat) : Nat → Option Nat → Int32 → xS → xO Unit
  | 0, _, _, _ => none
  | n + 1, v1, v2, σ =>
    x_some v1 fun a_1 =>
    x_chk (σ.K a_1 = 2) <|
    x_bind (dm_X1_pinCount P a_1 σ) (fun v_2 σ_3 =>
      if v_2 ≤ v2 then
        x_chk (σ_3.K a0 = 8) <|
        x_bind (dm_X7_putText P a0 (some (P.ad 4)) σ_3) (fun _ σ_8 =>
          some (.inl (), σ_8)
          ) (fun E_11 σ_8 =>
          some (.inr E_11, σ_8)
          )
      else
        x_chk (σ_3.K a0 = 8) <|
        x_bind (dm_X7_put P a0 32 σ_3) (fun _ σ_13 =>
          x_chk (σ_13.K a_1 = 2) <|
          x_bind (dm_X1_partAt P a_1 v2 σ_13) (fun v_16 σ_17 =>
            x_chk (σ_17.K a0 = 8) <|
            x_bind (dm_X7_printOrderedLink P a0 v_16 σ_17) (fun _ σ_21 =>
              x_let (v2 + 1) fun v_24 =>
              dm_X7_printShortInstance_L30 P a0 n v1 v_24 σ_21
              ) (fun E_25 σ_21 =>
              some (.inr E_25, σ_21)
              )
            ) (fun E_26 σ_17 =>
            some (.inr E_26, σ_17)
            )
          ) (fun E_27 σ_13 =>
          some (.inr E_27, σ_13)
          )
      ) (fun E_28 σ_3 =>
      some (.inr E_28, σ_3)
      )
def dm_X7_printShortInstance (P : xP) (a0 : Nat) (v1 : Option Nat) (σ : xS) : xO Unit :=
  x_chk (σ.K a0 = 8) <|
  x_bind (dm_X7_putText P a0 (some (P.ad 26)) σ) (fun _ σ_2 =>
    x_some v1 fun a_5 =>
    x_chk (σ_2.K a_5 = 2) <|
    x_chk (σ_2.K a0 = 8) <|
    x_bind (dm_X7_putName P a0 (σ_2.J 100 a_5) σ_2) (fun _ σ_8 =>
      x_chk (σ_8.K a0 = 8) <|
      x_bind (dm_X7_put P a0 32 σ_8) (fun _ σ_12 =>
        x_chk (σ_12.K a_5 = 2) <|
        x_chk (σ_12.K a0 = 8) <|
        x_bind (dm_X7_putName P a0 (σ_12.J 101 a_5) σ_12) (fun _ σ_17 =>
          dm_X7_printShortInstance_L30 P a0 P.N v1 0 σ_17
          ) (fun E_20 σ_17 =>
          some (.inr E_20, σ_17)
          )
        ) (fun E_21 σ_12 =>
        some (.inr E_21, σ_12)
        )
      ) (fun E_22 σ_8 =>
      some (.inr E_22, σ_8)
      )
    ) (fun E_23 σ_2 =>
    some (.inr E_23, σ_2)
    )
def dm_X7_printShort_L102 (P : xP) (a0 : Nat) : Nat → Option Nat → Int32 → xS → xO Unit
  | 0, _, _, _ => none
  | n + 1, v1, v2, σ =>
    x_some v1 fun a_1 =>
    x_chk (σ.K a_1 = 6) <|
    if (σ.I 511 a_1) ≤ v2 then
      x_chk (σ.K a0 = 8) <|
      x_bind (dm_X7_putText P a0 (some (P.ad 10)) σ) (fun _ σ_5 =>
        some (.inl (), σ_5)
        ) (fun E_8 σ_5 =>
        some (.inr E_8, σ_5)
        )
    else
      x_some (σ.R 510 a_1) fun a_9 =>
      x_chk (σ.K a_9 = 24 ∧ x_in v2 (σ.L a_9)) <|
      x_chk (σ.K a0 = 8) <|
      x_bind (dm_X7_printShortInstance P a0 (σ.AR a_9 (Int32.toNatClampNeg v2)) σ) (fun _ σ_12 =>
        x_let (v2 + 1) fun v_15 =>
        dm_X7_printShort_L102 P a0 n v1 v_15 σ_12
        ) (fun E_16 σ_12 =>
        some (.inr E_16, σ_12)
        )
def dm_X7_printShort_L48 (P : xP) (a0 : Nat) : Nat → Option Nat → Int32 → xS → xO Unit
  | 0, _, _, _ => none
  | n + 1, v1, v2, σ =>
    x_some v1 fun a_1 =>
    x_chk (σ.K a_1 = 6) <|
    if (σ.I 509 a_1) ≤ v2 then
      dm_X7_printShort_L102 P a0 P.N v1 0 σ
    else
      x_chk (σ.K a0 = 8) <|
      x_bind (dm_X7_putText P a0 (some (P.ad 6)) σ) (fun _ σ_5 =>
        x_chk (σ_5.K a_1 = 6) <|
        x_some (σ_5.R 507 a_1) fun a_9 =>
        x_chk (σ_5.K a_9 = 28 ∧ x_in v2 (σ_5.L a_9)) <|
        x_chk (σ_5.K a0 = 8) <|
        x_bind (dm_X7_printPart P a0 (σ_5.AR a_9 (Int32.toNatClampNeg v2)) σ_5) (fun _ σ_12 =>
          x_chk (σ_12.K a0 = 8) <|
          x_bind (dm_X7_put P a0 32 σ_12) (fun _ σ_16 =>
            x_chk (σ_16.K a_1 = 6) <|
            x_some (σ_16.R 508 a_1) fun a_20 =>
            x_chk (σ_16.K a_20 = 28 ∧ x_in v2 (σ_16.L a_20)) <|
            x_chk (σ_16.K a0 = 8) <|
            x_bind (dm_X7_printPart P a0 (σ_16.AR a_20 (Int32.toNatClampNeg v2)) σ_16) (fun _ σ_23 =>
              x_chk (σ_23.K a0 = 8) <|
              x_bind (dm_X7_putText P a0 (some (P.ad 4)) σ_23) (fun _ σ_27 =>
                x_let (v2 + 1) fun v_30 =>
                dm_X7_printShort_L48 P a0 n v1 v_30 σ_27
                ) (fun E_31 σ_27 =>
                some (.inr E_31, σ_27)
                )
              ) (fun E_32 σ_23 =>
              some (.inr E_32, σ_23)
              )
            ) (fun E_33 σ_16 =>
            some (.inr E_33, σ_16)
            )
          ) (fun E_34 σ_12 =>
          some (.inr E_34, σ_12)
          )
        ) (fun E_35 σ_5 =>
        some (.inr E_35, σ_5)
        )
def dm_X7_printShort_L22 (P : xP) (a0 : Nat) : Nat → Option Nat → Int32 → xS → xO Unit
  | 0, _, _, _ => none
  | n + 1, v1, v2, σ =>
    x_some v1 fun a_1 =>
    x_chk (σ.K a_1 = 6) <|
    if (σ.I 504 a_1) ≤ v2 then
      dm_X7_printShort_L48 P a0 P.N v1 0 σ
    else
      x_some (σ.R 503 a_1) fun a_4 =>
      x_chk (σ.K a_4 = 26 ∧ x_in v2 (σ.L a_4)) <|
      x_chk (σ.K a0 = 8) <|
      x_bind (dm_X7_printShortNet P a0 (σ.AR a_4 (Int32.toNatClampNeg v2)) σ) (fun _ σ_7 =>
        x_let (v2 + 1) fun v_10 =>
        dm_X7_printShort_L22 P a0 n v1 v_10 σ_7
        ) (fun E_11 σ_7 =>
        some (.inr E_11, σ_7)
        )
def dm_X7_printShort (P : xP) (a0 : Nat) (v1 : Option Nat) (σ : xS) : xO Unit :=
  x_chk (σ.K a0 = 8) <|
  x_bind (dm_X7_putText P a0 (some (P.ad 18)) σ) (fun _ σ_2 =>
    x_some v1 fun a_5 =>
    x_chk (σ_2.K a_5 = 6) <|
    x_chk (σ_2.K a0 = 8) <|
    x_bind (dm_X7_putName P a0 (σ_2.J 501 a_5) σ_2) (fun _ σ_8 =>
      x_chk (σ_8.K a0 = 8) <|
      x_bind (dm_X7_putText P a0 (some (P.ad 4)) σ_8) (fun _ σ_12 =>
        dm_X7_printShort_L22 P a0 P.N v1 0 σ_12
        ) (fun E_15 σ_12 =>
        some (.inr E_15, σ_12)
        )
      ) (fun E_16 σ_8 =>
      some (.inr E_16, σ_8)
      )
    ) (fun E_17 σ_2 =>
    some (.inr E_17, σ_2)
    )
def dm_X7_pick_p75 (P : xP) (k26 : Option Nat → Int32 → xS → xO Int32) (a0 : Nat) (v1 : Option Nat) (v4 : Int32) (σ : xS) : xO Int32 :=
  x_let (v4 + 1) fun v_1 =>
  k26 v1 v_1 σ
def dm_X7_pick_p81 (P : xP) (a0 : Nat) (σ : xS) : xO Int32 :=
  x_chk (σ.K a0 = 8) <|
  some (.inl (σ.I 702 a0), σ)
def dm_X7_pick_L26 (P : xP) (a0 : Nat) : Nat → Option Nat → Int32 → xS → xO Int32
  | 0, _, _, _ => none
  | n + 1, v1, v4, σ =>
    x_some v1 fun a_1 =>
    x_chk (σ.K a_1 = 1) <|
    if (σ.I 1 a_1) ≤ v4 then
      dm_X7_pick_p81 P a0 σ
    else
      x_chk (σ.K a0 = 8) <|
      if (σ.I 702 a0) = (-1) then
        if (σ.I 700 a0) = 0 then
          x_some (σ.R 0 a_1) fun a_7 =>
          x_chk (σ.K a_7 = 27 ∧ x_in v4 (σ.L a_7)) <|
          x_bind (dm_X7_printShort P a0 (σ.AR a_7 (Int32.toNatClampNeg v4)) σ) (fun _ σ_10 =>
            dm_X7_pick_p75 P (dm_X7_pick_L26 P a0 n) a0 v1 v4 σ_10
            ) (fun E_12 σ_10 =>
            some (.inr E_12, σ_10)
            )
        else
          x_some (σ.R 0 a_1) fun a_13 =>
          x_chk (σ.K a_13 = 27 ∧ x_in v4 (σ.L a_13)) <|
          x_bind (dm_X7_printLong P a0 (σ.AR a_13 (Int32.toNatClampNeg v4)) σ) (fun _ σ_16 =>
            dm_X7_pick_p75 P (dm_X7_pick_L26 P a0 n) a0 v1 v4 σ_16
            ) (fun E_18 σ_16 =>
            some (.inr E_18, σ_16)
            )
      else
        dm_X7_pick_p81 P a0 σ
def dm_X7_pick_p10 (P : xP) (a0 : Nat) (v1 : Option Nat) (v3 : Int32) (s0 : Option Nat) (s1 : Int32) (σ : xS) : xO Int32 :=
  x_some s0 fun a_1 =>
  x_chk ((σ.K a_1 = 8) ∧ P.base ≤ a_1 ∧ x_bool s1) <|
  x_let (σ.setI 700 a_1 s1) fun σ_3 =>
  x_chk ((σ_3.K a0 = 8) ∧ P.base ≤ a0) <|
  x_let (σ_3.setI 701 a0 v3) fun σ_5 =>
  x_chk ((σ_5.K a0 = 8) ∧ P.base ≤ a0) <|
  x_let (σ_5.setI 702 a0 (-1)) fun σ_7 =>
  dm_X7_pick_L26 P a0 P.N v1 0 σ_7
def dm_X7_pick (P : xP) (a0 : Nat) (v1 : Option Nat) (v2 : Int32) (v3 : Int32) (σ : xS) : xO Int32 :=
  if v2 = 0 then
    dm_X7_pick_p10 P a0 v1 v3 (some a0) 1 σ
  else
    dm_X7_pick_p10 P a0 v1 v3 (some a0) 0 σ
def dm_X11_write_p26 (P : xP) (a0 : Nat) (v1 : Int32) (v2 : Int32) (s0 : Int32) (σ : xS) : xO Int32 :=
  x_bind (dm_X11_refuseUnless P s0 σ) (fun _ σ_2 =>
    x_chk (σ_2.K a0 = 11) <|
    x_some (σ_2.R 1003 a0) fun a_5 =>
    x_chk (σ_2.K a_5 = 8) <|
    x_bind (dm_X7_pick P a_5 (σ_2.R 1004 a0) v1 v2 σ_2) (fun v_6 σ_7 =>
      some (.inl v_6, σ_7)
      ) (fun E_10 σ_7 =>
      some (.inr E_10, σ_7)
      )
    ) (fun E_11 σ_2 =>
    some (.inr E_11, σ_2)
    )
def dm_X11_write_p14 (P : xP) (a0 : Nat) (v1 : Int32) (v2 : Int32) (s0 : Int32) (σ : xS) : xO Int32 :=
  x_bind (dm_X11_refuseUnless P s0 σ) (fun _ σ_2 =>
    if v2 < 0 then
      dm_X11_write_p26 P a0 v1 v2 0 σ_2
    else
      dm_X11_write_p26 P a0 v1 v2 1 σ_2
    ) (fun E_5 σ_2 =>
    some (.inr E_5, σ_2)
    )
def dm_X11_write_p9 (P : xP) (a0 : Nat) (v1 : Int32) (v2 : Int32) (σ : xS) : xO Int32 :=
  dm_X11_write_p14 P a0 v1 v2 1 σ
def dm_X11_write (P : xP) (a0 : Nat) (v1 : Int32) (v2 : Int32) (σ : xS) : xO Int32 :=
  if v1 = 0 then
    dm_X11_write_p9 P a0 v1 v2 σ
  else
    if v1 = 1 then
      dm_X11_write_p9 P a0 v1 v2 σ
    else
      dm_X11_write_p14 P a0 v1 v2 0 σ
def dm_L_write (P : xP) (v0 : Option Nat) (v1 : Int32) (v2 : Int32) (v3 : Option Nat) (σ : xS) : xO Int32 :=
  x_some v0 fun a_1 =>
  x_chk (σ.K a_1 = 11) <|
  x_bind (dm_X11_write P a_1 v1 v2 σ) (fun v_2 σ_3 =>
    x_some v3 fun a_6 =>
    x_chk (σ_3.K a_6 = 42 ∧ x_in 0 (σ_3.L a_6) ∧ P.base ≤ a_6) <|
    x_let (σ_3.setAJ a_6 (Int32.toNatClampNeg 0) (Int32.toInt64 v_2)) fun σ_8 =>
    some (.inl 0, σ_8)
    ) (fun E_9 σ_3 =>
    x_chk (E_9 = "java/lang/IndexOutOfBoundsException") <|
    some (.inl 1, σ_3)
    )
def dm_X12_print_p20 (P : xP) (a0 : Nat) (s0 : Option Nat) (s1 : Int32) (σ : xS) : xO Unit :=
  x_some s0 fun a_1 =>
  x_chk ((σ.K a_1 = 12) ∧ P.base ≤ a_1) <|
  x_let (σ.setI 1144 a_1 s1) fun σ_3 =>
  x_chk (σ_3.K a0 = 12) <|
  x_chk ((σ_3.K a0 = 12) ∧ P.base ≤ a0) <|
  x_let (σ_3.setI 1142 a0 ((σ_3.I 1142 a0) + 1)) fun σ_6 =>
  some (.inl (), σ_6)
def dm_X12_print (P : xP) (a0 : Nat) (v1 : Int32) (σ : xS) : xO Unit :=
  x_chk (σ.K a0 = 12) <|
  if (σ.I 1142 a0) = (σ.I 1143 a0) then
    dm_X12_print_p20 P a0 (some a0) v1 σ
  else
    dm_X12_print_p20 P a0 (some a0) (σ.I 1144 a0) σ
def dm_X12_printFour_p26 (P : xP) (a0 : Nat) (σ : xS) : xO Unit :=
  some (.inl (), σ)
def dm_X12_printFour (P : xP) (a0 : Nat) (v1 : Int32) (v2 : Int32) (v3 : Int32) (v4 : Int32) (σ : xS) : xO Unit :=
  x_chk (σ.K a0 = 12) <|
  x_bind (dm_X12_print P a0 v1 σ) (fun _ σ_2 =>
    x_chk (σ_2.K a0 = 12) <|
    x_bind (dm_X12_print P a0 v2 σ_2) (fun _ σ_6 =>
      x_chk (σ_6.K a0 = 12) <|
      x_bind (dm_X12_print P a0 v3 σ_6) (fun _ σ_10 =>
        if v4 ≤ 0 then
          dm_X12_printFour_p26 P a0 σ_10
        else
          x_chk (σ_10.K a0 = 12) <|
          x_bind (dm_X12_print P a0 v4 σ_10) (fun _ σ_15 =>
            dm_X12_printFour_p26 P a0 σ_15
            ) (fun E_18 σ_15 =>
            some (.inr E_18, σ_15)
            )
        ) (fun E_19 σ_10 =>
        some (.inr E_19, σ_10)
        )
      ) (fun E_20 σ_6 =>
      some (.inr E_20, σ_6)
      )
    ) (fun E_21 σ_2 =>
    some (.inr E_21, σ_2)
    )
def dm_X12_printName_L2 (P : xP) (a0 : Nat) : Nat → Int32 → Int32 → xS → xO Unit
  | 0, _, _, _ => none
  | n + 1, v1, v2, σ =>
    x_chk (σ.K a0 = 12) <|
    x_bind (dm_X12_length P a0 (σ.I 1103 a0) v1 σ) (fun v_2 σ_3 =>
      if v_2 ≤ v2 then
        some (.inl (), σ_3)
      else
        x_chk (σ_3.K a0 = 12) <|
        x_some (σ_3.R 1104 a0) fun a_7 =>
        x_chk (σ_3.K a_7 = 31 ∧ x_in (((1000 * (σ_3.I 1103 a0)) + v1) + v2) (σ_3.L a_7)) <|
        x_bind (dm_X12_print P a0 (σ_3.AI a_7 (Int32.toNatClampNeg (((1000 * (σ_3.I 1103 a0)) + v1) + v2))) σ_3) (fun _ σ_10 =>
          x_let (v2 + 1) fun v_12 =>
          dm_X12_printName_L2 P a0 n v1 v_12 σ_10
          ) (fun E_13 σ_10 =>
          some (.inr E_13, σ_10)
          )
      ) (fun E_14 σ_3 =>
      some (.inr E_14, σ_3)
      )
def dm_X12_printName (P : xP) (a0 : Nat) (v1 : Int32) (σ : xS) : xO Unit :=
  dm_X12_printName_L2 P a0 P.N v1 0 σ
def dm_X12_printEnd (P : xP) (a0 : Nat) (σ : xS) : xO Unit :=
  x_chk (σ.K a0 = 12) <|
  x_bind (dm_X12_print P a0 59 σ) (fun _ σ_2 =>
    x_chk (σ_2.K a0 = 12) <|
    x_bind (dm_X12_print P a0 10 σ_2) (fun _ σ_6 =>
      some (.inl (), σ_6)
      ) (fun E_9 σ_6 =>
      some (.inr E_9, σ_6)
      )
    ) (fun E_10 σ_2 =>
    some (.inr E_10, σ_2)
    )
def dm_X12_printNumber_p17 (P : xP) (a0 : Nat) (v1 : Int32) (σ : xS) : xO Unit :=
  x_chk (¬ (10 : Int32) = 0) <|
  x_chk (σ.K a0 = 12) <|
  x_bind (dm_X12_print P a0 (48 + (v1 - v1 / 10 * 10)) σ) (fun _ σ_3 =>
    some (.inl (), σ_3)
    ) (fun E_6 σ_3 =>
    some (.inr E_6, σ_3)
    )
def dm_X12_printNumber (P : xP) (a0 : Nat) (v1 : Int32) (σ : xS) : xO Unit :=
  if v1 ≤ 9 then
    dm_X12_printNumber_p17 P a0 v1 σ
  else
    x_chk (¬ (10 : Int32) = 0) <|
    x_chk (σ.K a0 = 12) <|
    x_bind (dm_X12_print P a0 (48 + (v1 / 10)) σ) (fun _ σ_4 =>
      dm_X12_printNumber_p17 P a0 v1 σ_4
      ) (fun E_7 σ_4 =>
      some (.inr E_7, σ_4)
      )
def dm_X12_printRef_p24 (P : xP) (a0 : Nat) (v2 : Int32) (σ : xS) : xO Unit :=
  x_chk (σ.K a0 = 12) <|
  x_bind (dm_X12_print P a0 39 σ) (fun _ σ_2 =>
    x_chk (σ_2.K a0 = 12) <|
    x_some (σ_2.R 1119 a0) fun a_6 =>
    x_chk (σ_2.K a_6 = 31 ∧ x_in v2 (σ_2.L a_6)) <|
    x_bind (dm_X12_printName P a0 (σ_2.AI a_6 (Int32.toNatClampNeg v2)) σ_2) (fun _ σ_9 =>
      some (.inl (), σ_9)
      ) (fun E_11 σ_9 =>
      some (.inr E_11, σ_9)
      )
    ) (fun E_12 σ_2 =>
    some (.inr E_12, σ_2)
    )
def dm_X12_printRef_p141 (P : xP) (a0 : Nat) (σ : xS) : xO Unit :=
  some (.inl (), σ)
def dm_X12_printRef_p131 (P : xP) (a0 : Nat) (v3 : Int32) (σ : xS) : xO Unit :=
  if v3 = 0 then
    dm_X12_printRef_p141 P a0 σ
  else
    x_chk (σ.K a0 = 12) <|
    x_bind (dm_X12_print P a0 93 σ) (fun _ σ_3 =>
      dm_X12_printRef_p141 P a0 σ_3
      ) (fun E_6 σ_3 =>
      some (.inr E_6, σ_3)
      )
def dm_X12_printRef_p118 (P : xP) (a0 : Nat) (v2 : Int32) (v3 : Int32) (s0 : Option Nat) (s1 : Int32) (σ : xS) : xO Unit :=
  x_some s0 fun a_1 =>
  x_chk (σ.K a_1 = 12) <|
  x_bind (dm_X12_print P a_1 s1 σ) (fun _ σ_3 =>
    x_chk (σ_3.K a0 = 12) <|
    x_some (σ_3.R 1120 a0) fun a_7 =>
    x_chk (σ_3.K a_7 = 31 ∧ x_in v2 (σ_3.L a_7)) <|
    x_bind (dm_X12_printNumber P a0 (σ_3.AI a_7 (Int32.toNatClampNeg v2)) σ_3) (fun _ σ_10 =>
      dm_X12_printRef_p131 P a0 v3 σ_10
      ) (fun E_12 σ_10 =>
      some (.inr E_12, σ_10)
      )
    ) (fun E_13 σ_3 =>
    some (.inr E_13, σ_3)
    )
def dm_X12_printRef_p83 (P : xP) (a0 : Nat) (v2 : Int32) (v3 : Int32) (s0 : Option Nat) (s1 : Int32) (σ : xS) : xO Unit :=
  x_some s0 fun a_1 =>
  x_chk (σ.K a_1 = 12) <|
  x_bind (dm_X12_print P a_1 s1 σ) (fun _ σ_3 =>
    x_chk (σ_3.K a0 = 12) <|
    x_some (σ_3.R 1119 a0) fun a_7 =>
    x_chk (σ_3.K a_7 = 31 ∧ x_in v2 (σ_3.L a_7)) <|
    x_bind (dm_X12_printNumber P a0 (σ_3.AI a_7 (Int32.toNatClampNeg v2)) σ_3) (fun _ σ_10 =>
      x_chk (σ_10.K a0 = 12) <|
      x_some (σ_10.R 1117 a0) fun a_13 =>
      x_chk (σ_10.K a_13 = 31 ∧ x_in v2 (σ_10.L a_13)) <|
      if (σ_10.AI a_13 (Int32.toNatClampNeg v2)) = 2 then
        if v3 = 0 then
          dm_X12_printRef_p118 P a0 v2 v3 (some a0) 46 σ_10
        else
          dm_X12_printRef_p118 P a0 v2 v3 (some a0) 58 σ_10
      else
        dm_X12_printRef_p131 P a0 v3 σ_10
      ) (fun E_17 σ_10 =>
      some (.inr E_17, σ_10)
      )
    ) (fun E_18 σ_3 =>
    some (.inr E_18, σ_3)
    )
def dm_X12_printRef (P : xP) (a0 : Nat) (v1 : Int32) (v2 : Int32) (v3 : Int32) (σ : xS) : xO Unit :=
  x_chk (σ.K a0 = 12) <|
  x_some (σ.R 1117 a0) fun a_2 =>
  x_chk (σ.K a_2 = 31 ∧ x_in v2 (σ.L a_2)) <|
  if (σ.AI a_2 (Int32.toNatClampNeg v2)) = 3 then
    if v3 = 0 then
      dm_X12_printRef_p24 P a0 v2 σ
    else
      x_some (σ.R 1120 a0) fun a_19 =>
      x_chk (σ.K a_19 = 31 ∧ x_in v2 (σ.L a_19)) <|
      x_bind (dm_X12_printNumber P a0 (σ.AI a_19 (Int32.toNatClampNeg v2)) σ) (fun _ σ_22 =>
        dm_X12_printRef_p24 P a0 v2 σ_22
        ) (fun E_24 σ_22 =>
        some (.inr E_24, σ_22)
        )
  else
    x_some (σ.R 1118 a0) fun a_5 =>
    x_chk (σ.K a_5 = 31 ∧ x_in v2 (σ.L a_5)) <|
    x_some (σ.R 1110 a0) fun a_7 =>
    x_chk (σ.K a_7 = 31 ∧ x_in ((16 * v1) + (σ.AI a_5 (Int32.toNatClampNeg v2))) (σ.L a_7)) <|
    x_bind (dm_X12_printName P a0 (σ.AI a_7 (Int32.toNatClampNeg ((16 * v1) + (σ.AI a_5 (Int32.toNatClampNeg v2))))) σ) (fun _ σ_10 =>
      x_chk (σ_10.K a0 = 12) <|
      x_some (σ_10.R 1117 a0) fun a_13 =>
      x_chk (σ_10.K a_13 = 31 ∧ x_in v2 (σ_10.L a_13)) <|
      if (σ_10.AI a_13 (Int32.toNatClampNeg v2)) = 0 then
        some (.inl (), σ_10)
      else
        if v3 = 0 then
          dm_X12_printRef_p83 P a0 v2 v3 (some a0) 46 σ_10
        else
          dm_X12_printRef_p83 P a0 v2 v3 (some a0) 91 σ_10
      ) (fun E_17 σ_10 =>
      some (.inr E_17, σ_10)
      )
def dm_X12_printNamed_p29 (P : xP) (a0 : Nat) (σ : xS) : xO Unit :=
  x_chk (σ.K a0 = 12) <|
  x_bind (dm_X12_print P a0 41 σ) (fun _ σ_2 =>
    some (.inl (), σ_2)
    ) (fun E_5 σ_2 =>
    some (.inr E_5, σ_2)
    )
def dm_X12_printNamed (P : xP) (a0 : Nat) (v1 : Int32) (v2 : Int32) (v3 : Int32) (σ : xS) : xO Unit :=
  x_chk (σ.K a0 = 12) <|
  x_bind (dm_X12_print P a0 46 σ) (fun _ σ_2 =>
    x_chk (σ_2.K a0 = 12) <|
    x_bind (dm_X12_printName P a0 v2 σ_2) (fun _ σ_6 =>
      x_chk (σ_6.K a0 = 12) <|
      x_bind (dm_X12_print P a0 40 σ_6) (fun _ σ_10 =>
        if v3 = (-1) then
          dm_X12_printNamed_p29 P a0 σ_10
        else
          x_chk (σ_10.K a0 = 12) <|
          x_bind (dm_X12_printRef P a0 v1 v3 1 σ_10) (fun _ σ_15 =>
            dm_X12_printNamed_p29 P a0 σ_15
            ) (fun E_18 σ_15 =>
            some (.inr E_18, σ_15)
            )
        ) (fun E_19 σ_10 =>
        some (.inr E_19, σ_10)
        )
      ) (fun E_20 σ_6 =>
      some (.inr E_20, σ_6)
      )
    ) (fun E_21 σ_2 =>
    some (.inr E_21, σ_2)
    )
def dm_X12_printLink_p21 (P : xP) (a0 : Nat) (σ : xS) : xO Unit :=
  some (.inl (), σ)
def dm_X12_printLink (P : xP) (a0 : Nat) (v1 : Int32) (v2 : Int32) (v3 : Int32) (σ : xS) : xO Unit :=
  if v2 = (-1) then
    x_chk (σ.K a0 = 12) <|
    x_bind (dm_X12_print P a0 45 σ) (fun _ σ_8 =>
      dm_X12_printLink_p21 P a0 σ_8
      ) (fun E_11 σ_8 =>
      some (.inr E_11, σ_8)
      )
  else
    x_chk (σ.K a0 = 12) <|
    x_bind (dm_X12_printRef P a0 v1 v2 v3 σ) (fun _ σ_3 =>
      dm_X12_printLink_p21 P a0 σ_3
      ) (fun E_6 σ_3 =>
      some (.inr E_6, σ_3)
      )
def dm_X12_longInstanceOut_p153 (P : xP) (k34 : Int32 → Int32 → Int32 → xS → xO Unit) (a0 : Nat) (v1 : Int32) (v2 : Int32) (v3 : Int32) (σ : xS) : xO Unit :=
  x_let (v3 + 1) fun v_1 =>
  k34 v1 v2 v_1 σ
def dm_X12_longInstanceOut_p53 (P : xP) (k34 : Int32 → Int32 → Int32 → xS → xO Unit) (a0 : Nat) (v1 : Int32) (v2 : Int32) (v3 : Int32) (σ : xS) : xO Unit :=
  x_chk (σ.K a0 = 12) <|
  x_some (σ.R 1128 a0) fun a_2 =>
  x_chk (σ.K a_2 = 31 ∧ x_in v2 (σ.L a_2)) <|
  if (σ.AI a_2 (Int32.toNatClampNeg v2)) = (-1) then
    x_some (σ.R 1127 a0) fun a_5 =>
    x_chk (σ.K a_5 = 33 ∧ x_in v2 (σ.L a_5)) <|
    if (σ.AI a_5 (Int32.toNatClampNeg v2)) = 0 then
      x_some (σ.R 1130 a0) fun a_8 =>
      x_chk (σ.K a_8 = 31 ∧ x_in ((16 * v2) + v3) (σ.L a_8)) <|
      x_bind (dm_X12_printLink P a0 v1 (σ.AI a_8 (Int32.toNatClampNeg ((16 * v2) + v3))) 1 σ) (fun _ σ_11 =>
        dm_X12_longInstanceOut_p153 P k34 a0 v1 v2 v3 σ_11
        ) (fun E_13 σ_11 =>
        some (.inr E_13, σ_11)
        )
    else
      x_some (σ.R 1131 a0) fun a_14 =>
      x_chk (σ.K a_14 = 31 ∧ x_in ((16 * v2) + v3) (σ.L a_14)) <|
      x_some (σ.R 1130 a0) fun a_16 =>
      x_chk (σ.K a_16 = 31 ∧ x_in ((16 * v2) + v3) (σ.L a_16)) <|
      x_bind (dm_X12_printNamed P a0 v1 (σ.AI a_14 (Int32.toNatClampNeg ((16 * v2) + v3))) (σ.AI a_16 (Int32.toNatClampNeg ((16 * v2) + v3))) σ) (fun _ σ_19 =>
        dm_X12_longInstanceOut_p153 P k34 a0 v1 v2 v3 σ_19
        ) (fun E_21 σ_19 =>
        some (.inr E_21, σ_19)
        )
  else
    x_bind (dm_X12_of P a0 (σ.AI a_2 (Int32.toNatClampNeg v2)) σ) (fun v_22 σ_23 =>
      x_some (σ.R 1110 a0) fun a_25 =>
      x_chk (σ_23.K a_25 = 31 ∧ x_in ((16 * v_22) + v3) (σ_23.L a_25)) <|
      x_chk (σ_23.K a0 = 12) <|
      x_bind (dm_X12_linkOf P a0 v2 v3 σ_23) (fun v_27 σ_28 =>
        x_chk (σ_28.K a0 = 12) <|
        x_bind (dm_X12_printNamed P a0 v1 (σ_23.AI a_25 (Int32.toNatClampNeg ((16 * v_22) + v3))) v_27 σ_28) (fun _ σ_32 =>
          dm_X12_longInstanceOut_p153 P k34 a0 v1 v2 v3 σ_32
          ) (fun E_35 σ_32 =>
          some (.inr E_35, σ_32)
          )
        ) (fun E_36 σ_28 =>
        some (.inr E_36, σ_28)
        )
      ) (fun E_37 σ_23 =>
      some (.inr E_37, σ_23)
      )
def dm_X12_longInstanceOut_L34 (P : xP) (a0 : Nat) : Nat → Int32 → Int32 → Int32 → xS → xO Unit
  | 0, _, _, _, _ => none
  | n + 1, v1, v2, v3, σ =>
    x_chk (σ.K a0 = 12) <|
    x_bind (dm_X12_pins P a0 v2 σ) (fun v_1 σ_2 =>
      if v_1 ≤ v3 then
        x_chk (σ_2.K a0 = 12) <|
        x_bind (dm_X12_print P a0 41 σ_2) (fun _ σ_7 =>
          x_chk (σ_7.K a0 = 12) <|
          x_bind (dm_X12_printEnd P a0 σ_7) (fun _ σ_11 =>
            some (.inl (), σ_11)
            ) (fun E_14 σ_11 =>
            some (.inr E_14, σ_11)
            )
          ) (fun E_15 σ_7 =>
          some (.inr E_15, σ_7)
          )
      else
        if v3 ≤ 0 then
          dm_X12_longInstanceOut_p53 P (dm_X12_longInstanceOut_L34 P a0 n) a0 v1 v2 v3 σ_2
        else
          x_chk (σ_2.K a0 = 12) <|
          x_bind (dm_X12_print P a0 44 σ_2) (fun _ σ_18 =>
            dm_X12_longInstanceOut_p53 P (dm_X12_longInstanceOut_L34 P a0 n) a0 v1 v2 v3 σ_18
            ) (fun E_21 σ_18 =>
            some (.inr E_21, σ_18)
            )
      ) (fun E_22 σ_2 =>
      some (.inr E_22, σ_2)
      )
def dm_X12_longInstanceOut (P : xP) (a0 : Nat) (v1 : Int32) (v2 : Int32) (σ : xS) : xO Unit :=
  x_chk (σ.K a0 = 12) <|
  x_some (σ.R 1125 a0) fun a_2 =>
  x_chk (σ.K a_2 = 31 ∧ x_in v2 (σ.L a_2)) <|
  x_bind (dm_X12_printName P a0 (σ.AI a_2 (Int32.toNatClampNeg v2)) σ) (fun _ σ_5 =>
    x_chk (σ_5.K a0 = 12) <|
    x_bind (dm_X12_print P a0 32 σ_5) (fun _ σ_8 =>
      x_chk (σ_8.K a0 = 12) <|
      x_some (σ_8.R 1126 a0) fun a_12 =>
      x_chk (σ_8.K a_12 = 31 ∧ x_in v2 (σ_8.L a_12)) <|
      x_bind (dm_X12_printName P a0 (σ_8.AI a_12 (Int32.toNatClampNeg v2)) σ_8) (fun _ σ_15 =>
        x_chk (σ_15.K a0 = 12) <|
        x_bind (dm_X12_print P a0 40 σ_15) (fun _ σ_18 =>
          dm_X12_longInstanceOut_L34 P a0 P.N v1 v2 0 σ_18
          ) (fun E_21 σ_18 =>
          some (.inr E_21, σ_18)
          )
        ) (fun E_22 σ_15 =>
        some (.inr E_22, σ_15)
        )
      ) (fun E_23 σ_8 =>
      some (.inr E_23, σ_8)
      )
    ) (fun E_24 σ_5 =>
    some (.inr E_24, σ_5)
    )
def dm_X12_longOut_p61 (P : xP) (k41 : Int32 → Int32 → xS → xO Unit) (a0 : Nat) (v1 : Int32) (v2 : Int32) (σ : xS) : xO Unit :=
  x_chk (σ.K a0 = 12) <|
  x_some (σ.R 1110 a0) fun a_2 =>
  x_chk (σ.K a_2 = 31 ∧ x_in ((16 * v1) + v2) (σ.L a_2)) <|
  x_bind (dm_X12_printName P a0 (σ.AI a_2 (Int32.toNatClampNeg ((16 * v1) + v2))) σ) (fun _ σ_5 =>
    x_let (v2 + 1) fun v_7 =>
    k41 v1 v_7 σ_5
    ) (fun E_8 σ_5 =>
    some (.inr E_8, σ_5)
    )
def dm_X12_longOut_p241 (P : xP) (k94 : Int32 → Int32 → xS → xO Unit) (a0 : Nat) (v1 : Int32) (v2 : Int32) (v3 : Int32) (σ : xS) : xO Unit :=
  x_chk (σ.K a0 = 12) <|
  x_some (σ.R 1110 a0) fun a_2 =>
  x_chk (σ.K a_2 = 31 ∧ x_in v3 (σ.L a_2)) <|
  x_bind (dm_X12_printName P a0 (σ.AI a_2 (Int32.toNatClampNeg v3)) σ) (fun _ σ_5 =>
    x_chk (σ_5.K a0 = 12) <|
    x_bind (dm_X12_printEnd P a0 σ_5) (fun _ σ_8 =>
      x_let (v2 + 1) fun v_11 =>
      k94 v1 v_11 σ_8
      ) (fun E_12 σ_8 =>
      some (.inr E_12, σ_8)
      )
    ) (fun E_13 σ_5 =>
    some (.inr E_13, σ_5)
    )
def dm_X12_longOut_p201 (P : xP) (k94 : Int32 → Int32 → xS → xO Unit) (a0 : Nat) (v1 : Int32) (v2 : Int32) (v3 : Int32) (σ : xS) : xO Unit :=
  x_chk (σ.K a0 = 12) <|
  x_some (σ.R 1112 a0) fun a_2 =>
  x_chk (σ.K a_2 = 31 ∧ x_in v3 (σ.L a_2)) <|
  if (σ.AI a_2 (Int32.toNatClampNeg v3)) ≤ 1 then
    dm_X12_longOut_p241 P k94 a0 v1 v2 v3 σ
  else
    x_bind (dm_X12_print P a0 91 σ) (fun _ σ_6 =>
      x_chk (σ_6.K a0 = 12) <|
      x_some (σ_6.R 1112 a0) fun a_9 =>
      x_chk (σ_6.K a_9 = 31 ∧ x_in v3 (σ_6.L a_9)) <|
      x_bind (dm_X12_printNumber P a0 ((σ_6.AI a_9 (Int32.toNatClampNeg v3)) - 1) σ_6) (fun _ σ_12 =>
        x_chk (σ_12.K a0 = 12) <|
        x_bind (dm_X12_printFour P a0 58 48 93 32 σ_12) (fun _ σ_15 =>
          dm_X12_longOut_p241 P k94 a0 v1 v2 v3 σ_15
          ) (fun E_18 σ_15 =>
          some (.inr E_18, σ_15)
          )
        ) (fun E_19 σ_12 =>
        some (.inr E_19, σ_12)
        )
      ) (fun E_20 σ_6 =>
      some (.inr E_20, σ_6)
      )
def dm_X12_longOut_L348 (P : xP) (a0 : Nat) : Nat → Int32 → Int32 → xS → xO Unit
  | 0, _, _, _ => none
  | n + 1, v1, v2, σ =>
    x_chk (σ.K a0 = 12) <|
    x_some (σ.R 1124 a0) fun a_2 =>
    x_chk (σ.K a_2 = 31 ∧ x_in v1 (σ.L a_2)) <|
    if (σ.AI a_2 (Int32.toNatClampNeg v1)) ≤ v2 then
      x_bind (dm_X12_printFour P a0 101 110 100 10 σ) (fun _ σ_6 =>
        some (.inl (), σ_6)
        ) (fun E_8 σ_6 =>
        some (.inr E_8, σ_6)
        )
    else
      x_bind (dm_X12_longInstanceOut P a0 v1 ((12 * v1) + v2) σ) (fun _ σ_10 =>
        x_let (v2 + 1) fun v_12 =>
        dm_X12_longOut_L348 P a0 n v1 v_12 σ_10
        ) (fun E_13 σ_10 =>
        some (.inr E_13, σ_10)
        )
def dm_X12_longOut_L263 (P : xP) (a0 : Nat) : Nat → Int32 → Int32 → xS → xO Unit
  | 0, _, _, _ => none
  | n + 1, v1, v2, σ =>
    x_chk (σ.K a0 = 12) <|
    x_some (σ.R 1121 a0) fun a_2 =>
    x_chk (σ.K a_2 = 31 ∧ x_in v1 (σ.L a_2)) <|
    if (σ.AI a_2 (Int32.toNatClampNeg v1)) ≤ v2 then
      dm_X12_longOut_L348 P a0 P.N v1 0 σ
    else
      x_bind (dm_X12_printFour P a0 97 115 115 105 σ) (fun _ σ_6 =>
        x_chk (σ_6.K a0 = 12) <|
        x_bind (dm_X12_printFour P a0 103 110 32 0 σ_6) (fun _ σ_9 =>
          x_chk (σ_9.K a0 = 12) <|
          x_some (σ_9.R 1122 a0) fun a_13 =>
          x_chk (σ_9.K a_13 = 31 ∧ x_in ((8 * v1) + v2) (σ_9.L a_13)) <|
          x_bind (dm_X12_printRef P a0 v1 (σ_9.AI a_13 (Int32.toNatClampNeg ((8 * v1) + v2))) 1 σ_9) (fun _ σ_16 =>
            x_chk (σ_16.K a0 = 12) <|
            x_bind (dm_X12_print P a0 61 σ_16) (fun _ σ_19 =>
              x_chk (σ_19.K a0 = 12) <|
              x_some (σ_19.R 1123 a0) fun a_23 =>
              x_chk (σ_19.K a_23 = 31 ∧ x_in ((8 * v1) + v2) (σ_19.L a_23)) <|
              x_bind (dm_X12_printRef P a0 v1 (σ_19.AI a_23 (Int32.toNatClampNeg ((8 * v1) + v2))) 1 σ_19) (fun _ σ_26 =>
                x_chk (σ_26.K a0 = 12) <|
                x_bind (dm_X12_printEnd P a0 σ_26) (fun _ σ_29 =>
                  x_let (v2 + 1) fun v_32 =>
                  dm_X12_longOut_L263 P a0 n v1 v_32 σ_29
                  ) (fun E_33 σ_29 =>
                  some (.inr E_33, σ_29)
                  )
                ) (fun E_34 σ_26 =>
                some (.inr E_34, σ_26)
                )
              ) (fun E_35 σ_19 =>
              some (.inr E_35, σ_19)
              )
            ) (fun E_36 σ_16 =>
            some (.inr E_36, σ_16)
            )
          ) (fun E_37 σ_9 =>
          some (.inr E_37, σ_9)
          )
        ) (fun E_38 σ_6 =>
        some (.inr E_38, σ_6)
        )
def dm_X12_longOut_L94 (P : xP) (a0 : Nat) : Nat → Int32 → Int32 → xS → xO Unit
  | 0, _, _, _ => none
  | n + 1, v1, v2, σ =>
    x_chk (σ.K a0 = 12) <|
    x_some (σ.R 1109 a0) fun a_2 =>
    x_chk (σ.K a_2 = 31 ∧ x_in v1 (σ.L a_2)) <|
    if (σ.AI a_2 (Int32.toNatClampNeg v1)) ≤ v2 then
      dm_X12_longOut_L263 P a0 P.N v1 0 σ
    else
      x_let (((16 * v1) + v2)) fun v_5 =>
      x_some (σ.R 1111 a0) fun a_6 =>
      x_chk (σ.K a_6 = 31 ∧ x_in v_5 (σ.L a_6)) <|
      if (σ.AI a_6 (Int32.toNatClampNeg v_5)) = 0 then
        x_bind (dm_X12_printFour P a0 105 110 112 117 σ) (fun _ σ_29 =>
          x_chk (σ_29.K a0 = 12) <|
          x_bind (dm_X12_print P a0 116 σ_29) (fun _ σ_32 =>
            x_chk (σ_32.K a0 = 12) <|
            x_bind (dm_X12_print P a0 32 σ_32) (fun _ σ_36 =>
              dm_X12_longOut_p201 P (dm_X12_longOut_L94 P a0 n) a0 v1 v2 v_5 σ_36
              ) (fun E_39 σ_36 =>
              some (.inr E_39, σ_36)
              )
            ) (fun E_40 σ_32 =>
            some (.inr E_40, σ_32)
            )
          ) (fun E_41 σ_29 =>
          some (.inr E_41, σ_29)
          )
      else
        if (σ.AI a_6 (Int32.toNatClampNeg v_5)) = 1 then
          x_bind (dm_X12_printFour P a0 111 117 116 112 σ) (fun _ σ_20 =>
            x_chk (σ_20.K a0 = 12) <|
            x_bind (dm_X12_printFour P a0 117 116 32 0 σ_20) (fun _ σ_23 =>
              dm_X12_longOut_p201 P (dm_X12_longOut_L94 P a0 n) a0 v1 v2 v_5 σ_23
              ) (fun E_26 σ_23 =>
              some (.inr E_26, σ_23)
              )
            ) (fun E_27 σ_20 =>
            some (.inr E_27, σ_20)
            )
        else
          x_bind (dm_X12_printFour P a0 119 105 114 101 σ) (fun _ σ_11 =>
            x_chk (σ_11.K a0 = 12) <|
            x_bind (dm_X12_print P a0 32 σ_11) (fun _ σ_14 =>
              dm_X12_longOut_p201 P (dm_X12_longOut_L94 P a0 n) a0 v1 v2 v_5 σ_14
              ) (fun E_17 σ_14 =>
              some (.inr E_17, σ_14)
              )
            ) (fun E_18 σ_11 =>
            some (.inr E_18, σ_11)
            )
def dm_X12_longOut_L41 (P : xP) (a0 : Nat) : Nat → Int32 → Int32 → xS → xO Unit
  | 0, _, _, _ => none
  | n + 1, v1, v2, σ =>
    x_chk (σ.K a0 = 12) <|
    x_some (σ.R 1108 a0) fun a_2 =>
    x_chk (σ.K a_2 = 31 ∧ x_in v1 (σ.L a_2)) <|
    if (σ.AI a_2 (Int32.toNatClampNeg v1)) ≤ v2 then
      x_bind (dm_X12_print P a0 41 σ) (fun _ σ_6 =>
        x_chk (σ_6.K a0 = 12) <|
        x_bind (dm_X12_printEnd P a0 σ_6) (fun _ σ_9 =>
          dm_X12_longOut_L94 P a0 P.N v1 0 σ_9
          ) (fun E_12 σ_9 =>
          some (.inr E_12, σ_9)
          )
        ) (fun E_13 σ_6 =>
        some (.inr E_13, σ_6)
        )
    else
      if v2 ≤ 0 then
        dm_X12_longOut_p61 P (dm_X12_longOut_L41 P a0 n) a0 v1 v2 σ
      else
        x_bind (dm_X12_print P a0 44 σ) (fun _ σ_16 =>
          dm_X12_longOut_p61 P (dm_X12_longOut_L41 P a0 n) a0 v1 v2 σ_16
          ) (fun E_18 σ_16 =>
          some (.inr E_18, σ_16)
          )
def dm_X12_longOut (P : xP) (a0 : Nat) (v1 : Int32) (σ : xS) : xO Unit :=
  x_chk (σ.K a0 = 12) <|
  x_bind (dm_X12_printFour P a0 109 111 100 117 σ) (fun _ σ_2 =>
    x_chk (σ_2.K a0 = 12) <|
    x_bind (dm_X12_printFour P a0 108 101 32 0 σ_2) (fun _ σ_6 =>
      x_chk (σ_6.K a0 = 12) <|
      x_some (σ_6.R 1107 a0) fun a_10 =>
      x_chk (σ_6.K a_10 = 31 ∧ x_in v1 (σ_6.L a_10)) <|
      x_bind (dm_X12_printName P a0 (σ_6.AI a_10 (Int32.toNatClampNeg v1)) σ_6) (fun _ σ_13 =>
        x_chk (σ_13.K a0 = 12) <|
        x_bind (dm_X12_print P a0 40 σ_13) (fun _ σ_16 =>
          dm_X12_longOut_L41 P a0 P.N v1 0 σ_16
          ) (fun E_19 σ_16 =>
          some (.inr E_19, σ_16)
          )
        ) (fun E_20 σ_13 =>
        some (.inr E_20, σ_13)
        )
      ) (fun E_21 σ_6 =>
      some (.inr E_21, σ_6)
      )
    ) (fun E_22 σ_2 =>
    some (.inr E_22, σ_2)
    )
def dm_X12_shortOut_p77 (P : xP) (k28 : Int32 → Int32 → xS → xO Unit) (a0 : Nat) (v1 : Int32) (v2 : Int32) (v3 : Int32) (s0 : Option Nat) (s1 : Int32) (σ : xS) : xO Unit :=
  x_some s0 fun a_1 =>
  x_chk (σ.K a_1 = 12) <|
  x_bind (dm_X12_print P a_1 s1 σ) (fun _ σ_3 =>
    x_chk (σ_3.K a0 = 12) <|
    x_bind (dm_X12_print P a0 32 σ_3) (fun _ σ_7 =>
      x_chk (σ_7.K a0 = 12) <|
      x_some (σ_7.R 1110 a0) fun a_11 =>
      x_chk (σ_7.K a_11 = 31 ∧ x_in v3 (σ_7.L a_11)) <|
      x_bind (dm_X12_printName P a0 (σ_7.AI a_11 (Int32.toNatClampNeg v3)) σ_7) (fun _ σ_14 =>
        x_chk (σ_14.K a0 = 12) <|
        x_bind (dm_X12_print P a0 32 σ_14) (fun _ σ_17 =>
          x_chk (σ_17.K a0 = 12) <|
          x_some (σ_17.R 1112 a0) fun a_21 =>
          x_chk (σ_17.K a_21 = 31 ∧ x_in v3 (σ_17.L a_21)) <|
          x_bind (dm_X12_printNumber P a0 (σ_17.AI a_21 (Int32.toNatClampNeg v3)) σ_17) (fun _ σ_24 =>
            x_chk (σ_24.K a0 = 12) <|
            x_bind (dm_X12_printEnd P a0 σ_24) (fun _ σ_27 =>
              x_let (v2 + 1) fun v_30 =>
              k28 v1 v_30 σ_27
              ) (fun E_31 σ_27 =>
              some (.inr E_31, σ_27)
              )
            ) (fun E_32 σ_24 =>
            some (.inr E_32, σ_24)
            )
          ) (fun E_33 σ_17 =>
          some (.inr E_33, σ_17)
          )
        ) (fun E_34 σ_14 =>
        some (.inr E_34, σ_14)
        )
      ) (fun E_35 σ_7 =>
      some (.inr E_35, σ_7)
      )
    ) (fun E_36 σ_3 =>
    some (.inr E_36, σ_3)
    )
def dm_X12_shortOut_L256 (P : xP) (k198 : Int32 → Int32 → xS → xO Unit) (a0 : Nat) : Nat → Int32 → Int32 → Int32 → Int32 → xS → xO Unit
  | 0, _, _, _, _, _ => none
  | n + 1, v1, v2, v3, v4, σ =>
    x_chk (σ.K a0 = 12) <|
    x_bind (dm_X12_pins P a0 v3 σ) (fun v_1 σ_2 =>
      if v_1 ≤ v4 then
        x_chk (σ_2.K a0 = 12) <|
        x_bind (dm_X12_printEnd P a0 σ_2) (fun _ σ_7 =>
          x_let (v2 + 1) fun v_10 =>
          k198 v1 v_10 σ_7
          ) (fun E_11 σ_7 =>
          some (.inr E_11, σ_7)
          )
      else
        x_chk (σ_2.K a0 = 12) <|
        x_bind (dm_X12_print P a0 32 σ_2) (fun _ σ_13 =>
          x_chk (σ_13.K a0 = 12) <|
          x_bind (dm_X12_linkOf P a0 v3 v4 σ_13) (fun v_16 σ_17 =>
            x_chk (σ_17.K a0 = 12) <|
            x_bind (dm_X12_printLink P a0 v1 v_16 0 σ_17) (fun _ σ_21 =>
              x_let (v4 + 1) fun v_24 =>
              dm_X12_shortOut_L256 P k198 a0 n v1 v2 v3 v_24 σ_21
              ) (fun E_25 σ_21 =>
              some (.inr E_25, σ_21)
              )
            ) (fun E_26 σ_17 =>
            some (.inr E_26, σ_17)
            )
          ) (fun E_27 σ_13 =>
          some (.inr E_27, σ_13)
          )
      ) (fun E_28 σ_2 =>
      some (.inr E_28, σ_2)
      )
def dm_X12_shortOut_L198 (P : xP) (a0 : Nat) : Nat → Int32 → Int32 → xS → xO Unit
  | 0, _, _, _ => none
  | n + 1, v1, v2, σ =>
    x_chk (σ.K a0 = 12) <|
    x_some (σ.R 1124 a0) fun a_2 =>
    x_chk (σ.K a_2 = 31 ∧ x_in v1 (σ.L a_2)) <|
    if (σ.AI a_2 (Int32.toNatClampNeg v1)) ≤ v2 then
      x_bind (dm_X12_print P a0 101 σ) (fun _ σ_6 =>
        x_chk (σ_6.K a0 = 12) <|
        x_bind (dm_X12_printEnd P a0 σ_6) (fun _ σ_9 =>
          some (.inl (), σ_9)
          ) (fun E_12 σ_9 =>
          some (.inr E_12, σ_9)
          )
        ) (fun E_13 σ_6 =>
        some (.inr E_13, σ_6)
        )
    else
      x_let (((12 * v1) + v2)) fun v_14 =>
      x_bind (dm_X12_print P a0 117 σ) (fun _ σ_16 =>
        x_chk (σ_16.K a0 = 12) <|
        x_bind (dm_X12_print P a0 32 σ_16) (fun _ σ_19 =>
          x_chk (σ_19.K a0 = 12) <|
          x_some (σ_19.R 1125 a0) fun a_23 =>
          x_chk (σ_19.K a_23 = 31 ∧ x_in v_14 (σ_19.L a_23)) <|
          x_bind (dm_X12_printName P a0 (σ_19.AI a_23 (Int32.toNatClampNeg v_14)) σ_19) (fun _ σ_26 =>
            x_chk (σ_26.K a0 = 12) <|
            x_bind (dm_X12_print P a0 32 σ_26) (fun _ σ_29 =>
              x_chk (σ_29.K a0 = 12) <|
              x_some (σ_29.R 1126 a0) fun a_33 =>
              x_chk (σ_29.K a_33 = 31 ∧ x_in v_14 (σ_29.L a_33)) <|
              x_bind (dm_X12_printName P a0 (σ_29.AI a_33 (Int32.toNatClampNeg v_14)) σ_29) (fun _ σ_36 =>
                dm_X12_shortOut_L256 P (dm_X12_shortOut_L198 P a0 n) a0 P.N v1 v2 v_14 0 σ_36
                ) (fun E_38 σ_36 =>
                some (.inr E_38, σ_36)
                )
              ) (fun E_39 σ_29 =>
              some (.inr E_39, σ_29)
              )
            ) (fun E_40 σ_26 =>
            some (.inr E_40, σ_26)
            )
          ) (fun E_41 σ_19 =>
          some (.inr E_41, σ_19)
          )
        ) (fun E_42 σ_16 =>
        some (.inr E_42, σ_16)
        )
def dm_X12_shortOut_L124 (P : xP) (a0 : Nat) : Nat → Int32 → Int32 → xS → xO Unit
  | 0, _, _, _ => none
  | n + 1, v1, v2, σ =>
    x_chk (σ.K a0 = 12) <|
    x_some (σ.R 1121 a0) fun a_2 =>
    x_chk (σ.K a_2 = 31 ∧ x_in v1 (σ.L a_2)) <|
    if (σ.AI a_2 (Int32.toNatClampNeg v1)) ≤ v2 then
      dm_X12_shortOut_L198 P a0 P.N v1 0 σ
    else
      x_bind (dm_X12_print P a0 97 σ) (fun _ σ_6 =>
        x_chk (σ_6.K a0 = 12) <|
        x_bind (dm_X12_print P a0 32 σ_6) (fun _ σ_9 =>
          x_chk (σ_9.K a0 = 12) <|
          x_some (σ_9.R 1122 a0) fun a_13 =>
          x_chk (σ_9.K a_13 = 31 ∧ x_in ((8 * v1) + v2) (σ_9.L a_13)) <|
          x_bind (dm_X12_printRef P a0 v1 (σ_9.AI a_13 (Int32.toNatClampNeg ((8 * v1) + v2))) 0 σ_9) (fun _ σ_16 =>
            x_chk (σ_16.K a0 = 12) <|
            x_bind (dm_X12_print P a0 32 σ_16) (fun _ σ_19 =>
              x_chk (σ_19.K a0 = 12) <|
              x_some (σ_19.R 1123 a0) fun a_23 =>
              x_chk (σ_19.K a_23 = 31 ∧ x_in ((8 * v1) + v2) (σ_19.L a_23)) <|
              x_bind (dm_X12_printRef P a0 v1 (σ_19.AI a_23 (Int32.toNatClampNeg ((8 * v1) + v2))) 0 σ_19) (fun _ σ_26 =>
                x_chk (σ_26.K a0 = 12) <|
                x_bind (dm_X12_printEnd P a0 σ_26) (fun _ σ_29 =>
                  x_let (v2 + 1) fun v_32 =>
                  dm_X12_shortOut_L124 P a0 n v1 v_32 σ_29
                  ) (fun E_33 σ_29 =>
                  some (.inr E_33, σ_29)
                  )
                ) (fun E_34 σ_26 =>
                some (.inr E_34, σ_26)
                )
              ) (fun E_35 σ_19 =>
              some (.inr E_35, σ_19)
              )
            ) (fun E_36 σ_16 =>
            some (.inr E_36, σ_16)
            )
          ) (fun E_37 σ_9 =>
          some (.inr E_37, σ_9)
          )
        ) (fun E_38 σ_6 =>
        some (.inr E_38, σ_6)
        )
def dm_X12_shortOut_L28 (P : xP) (a0 : Nat) : Nat → Int32 → Int32 → xS → xO Unit
  | 0, _, _, _ => none
  | n + 1, v1, v2, σ =>
    x_chk (σ.K a0 = 12) <|
    x_some (σ.R 1109 a0) fun a_2 =>
    x_chk (σ.K a_2 = 31 ∧ x_in v1 (σ.L a_2)) <|
    if (σ.AI a_2 (Int32.toNatClampNeg v1)) ≤ v2 then
      dm_X12_shortOut_L124 P a0 P.N v1 0 σ
    else
      x_let (((16 * v1) + v2)) fun v_5 =>
      x_some (σ.R 1111 a0) fun a_6 =>
      x_chk (σ.K a_6 = 31 ∧ x_in v_5 (σ.L a_6)) <|
      if (σ.AI a_6 (Int32.toNatClampNeg v_5)) = 0 then
        dm_X12_shortOut_p77 P (dm_X12_shortOut_L28 P a0 n) a0 v1 v2 v_5 (some a0) 105 σ
      else
        if (σ.AI a_6 (Int32.toNatClampNeg v_5)) = 1 then
          dm_X12_shortOut_p77 P (dm_X12_shortOut_L28 P a0 n) a0 v1 v2 v_5 (some a0) 111 σ
        else
          dm_X12_shortOut_p77 P (dm_X12_shortOut_L28 P a0 n) a0 v1 v2 v_5 (some a0) 119 σ
def dm_X12_shortOut (P : xP) (a0 : Nat) (v1 : Int32) (σ : xS) : xO Unit :=
  x_chk (σ.K a0 = 12) <|
  x_bind (dm_X12_print P a0 109 σ) (fun _ σ_2 =>
    x_chk (σ_2.K a0 = 12) <|
    x_bind (dm_X12_print P a0 32 σ_2) (fun _ σ_6 =>
      x_chk (σ_6.K a0 = 12) <|
      x_some (σ_6.R 1107 a0) fun a_10 =>
      x_chk (σ_6.K a_10 = 31 ∧ x_in v1 (σ_6.L a_10)) <|
      x_bind (dm_X12_printName P a0 (σ_6.AI a_10 (Int32.toNatClampNeg v1)) σ_6) (fun _ σ_13 =>
        x_chk (σ_13.K a0 = 12) <|
        x_bind (dm_X12_printEnd P a0 σ_13) (fun _ σ_16 =>
          dm_X12_shortOut_L28 P a0 P.N v1 0 σ_16
          ) (fun E_19 σ_16 =>
          some (.inr E_19, σ_16)
          )
        ) (fun E_20 σ_13 =>
        some (.inr E_20, σ_13)
        )
      ) (fun E_21 σ_6 =>
      some (.inr E_21, σ_6)
      )
    ) (fun E_22 σ_2 =>
    some (.inr E_22, σ_2)
    )
def dm_X12_write_p108 (P : xP) (k59 : Int32 → Int32 → xS → xO Int32) (a0 : Nat) (v1 : Int32) (v4 : Int32) (σ : xS) : xO Int32 :=
  x_let (v4 + 1) fun v_1 =>
  k59 v1 v_1 σ
def dm_X12_write_p114 (P : xP) (a0 : Nat) (σ : xS) : xO Int32 :=
  x_chk (σ.K a0 = 12) <|
  some (.inl (σ.I 1144 a0), σ)
def dm_X12_write_L59 (P : xP) (a0 : Nat) : Nat → Int32 → Int32 → xS → xO Int32
  | 0, _, _, _ => none
  | n + 1, v1, v4, σ =>
    x_chk (σ.K a0 = 12) <|
    x_some (σ.R 1106 a0) fun a_2 =>
    x_chk (σ.K a_2 = 31 ∧ x_in (σ.I 1103 a0) (σ.L a_2)) <|
    if (σ.AI a_2 (Int32.toNatClampNeg (σ.I 1103 a0))) ≤ v4 then
      dm_X12_write_p114 P a0 σ
    else
      if (σ.I 1144 a0) = (-1) then
        if v1 = 0 then
          x_bind (dm_X12_of P a0 v4 σ) (fun v_16 σ_17 =>
            x_chk (σ_17.K a0 = 12) <|
            x_bind (dm_X12_longOut P a0 v_16 σ_17) (fun _ σ_20 =>
              dm_X12_write_p108 P (dm_X12_write_L59 P a0 n) a0 v1 v4 σ_20
              ) (fun E_23 σ_20 =>
              some (.inr E_23, σ_20)
              )
            ) (fun E_24 σ_17 =>
            some (.inr E_24, σ_17)
            )
        else
          x_bind (dm_X12_of P a0 v4 σ) (fun v_7 σ_8 =>
            x_chk (σ_8.K a0 = 12) <|
            x_bind (dm_X12_shortOut P a0 v_7 σ_8) (fun _ σ_11 =>
              dm_X12_write_p108 P (dm_X12_write_L59 P a0 n) a0 v1 v4 σ_11
              ) (fun E_14 σ_11 =>
              some (.inr E_14, σ_11)
              )
            ) (fun E_15 σ_8 =>
            some (.inr E_15, σ_8)
            )
      else
        dm_X12_write_p114 P a0 σ
def dm_X12_write_p29 (P : xP) (a0 : Nat) (v1 : Int32) (v2 : Int32) (s0 : Option Nat) (s1 : Int32) (σ : xS) : xO Int32 :=
  x_some s0 fun a_1 =>
  x_chk ((σ.K a_1 = 12) ∧ P.base ≤ a_1) <|
  x_let (σ.setI 1100 a_1 s1) fun σ_3 =>
  x_chk (σ_3.K a0 = 12) <|
  if (σ_3.I 1100 a0) ≤ 0 then
    x_chk ((σ_3.K a0 = 12) ∧ P.base ≤ a0) <|
    x_let (σ_3.setI 1142 a0 0) fun σ_7 =>
    x_chk ((σ_7.K a0 = 12) ∧ P.base ≤ a0) <|
    x_let (σ_7.setI 1143 a0 v2) fun σ_9 =>
    x_chk ((σ_9.K a0 = 12) ∧ P.base ≤ a0) <|
    x_let (σ_9.setI 1144 a0 (-1)) fun σ_11 =>
    dm_X12_write_L59 P a0 P.N v1 0 σ_11
  else
    some (.inl 0, σ_3)
def dm_X12_write_p18 (P : xP) (a0 : Nat) (v1 : Int32) (v2 : Int32) (s0 : Int32) (σ : xS) : xO Int32 :=
  if s0 = 0 then
    dm_X12_write_p29 P a0 v1 v2 (some a0) 1 σ
  else
    dm_X12_write_p29 P a0 v1 v2 (some a0) 0 σ
def dm_X12_write_p17 (P : xP) (a0 : Nat) (v1 : Int32) (v2 : Int32) (σ : xS) : xO Int32 :=
  dm_X12_write_p18 P a0 v1 v2 0 σ
def dm_X12_write_p9 (P : xP) (a0 : Nat) (v1 : Int32) (v2 : Int32) (σ : xS) : xO Int32 :=
  if v2 < 0 then
    dm_X12_write_p17 P a0 v1 v2 σ
  else
    dm_X12_write_p18 P a0 v1 v2 1 σ
def dm_X12_write (P : xP) (a0 : Nat) (v1 : Int32) (v2 : Int32) (σ : xS) : xO Int32 :=
  if v1 = 0 then
    dm_X12_write_p9 P a0 v1 v2 σ
  else
    if v1 = 1 then
      dm_X12_write_p9 P a0 v1 v2 σ
    else
      dm_X12_write_p17 P a0 v1 v2 σ
def dm_X12_count_p49 (P : xP) (a0 : Nat) (s0 : Int32) (σ : xS) : xO Int32 :=
  some (.inl s0, σ)
def dm_X12_count_p15 (P : xP) (a0 : Nat) (v1 : Int32) (s0 : Option Nat) (s1 : Int32) (σ : xS) : xO Int32 :=
  x_some s0 fun a_1 =>
  x_chk ((σ.K a_1 = 12) ∧ P.base ≤ a_1) <|
  x_let (σ.setI 1100 a_1 s1) fun σ_3 =>
  x_chk (σ_3.K a0 = 12) <|
  if (σ_3.I 1100 a0) ≤ 0 then
    if v1 = 0 then
      x_some (σ_3.R 1106 a0) fun a_7 =>
      x_chk (σ_3.K a_7 = 31 ∧ x_in (σ_3.I 1103 a0) (σ_3.L a_7)) <|
      dm_X12_count_p49 P a0 (σ_3.AI a_7 (Int32.toNatClampNeg (σ_3.I 1103 a0))) σ_3
    else
      dm_X12_count_p49 P a0 (σ_3.I 1102 a0) σ_3
  else
    dm_X12_count_p49 P a0 0 σ_3
def dm_X12_count_p10 (P : xP) (a0 : Nat) (v1 : Int32) (s0 : Option Nat) (σ : xS) : xO Int32 :=
  dm_X12_count_p15 P a0 v1 s0 0 σ
def dm_X12_count (P : xP) (a0 : Nat) (v1 : Int32) (σ : xS) : xO Int32 :=
  if v1 = 0 then
    dm_X12_count_p10 P a0 v1 (some a0) σ
  else
    if v1 = 1 then
      dm_X12_count_p10 P a0 v1 (some a0) σ
    else
      dm_X12_count_p15 P a0 v1 (some a0) 1 σ
def dm_L_law_p830 (P : xP) (k23 : Option Nat → Option Nat → Option Nat → Option Nat → Int32 → xS → xO Int32) (v0 : Option Nat) (v1 : Option Nat) (v2 : Option Nat) (v3 : Option Nat) (v4 : Int32) (σ : xS) : xO Int32 :=
  x_let (v4 + 5) fun v_1 =>
  k23 v0 v1 v2 v3 v_1 σ
def dm_L_law_p199 (P : xP) (k23 : Option Nat → Option Nat → Option Nat → Option Nat → Int32 → xS → xO Int32) (v0 : Option Nat) (v1 : Option Nat) (v2 : Option Nat) (v3 : Option Nat) (v4 : Int32) (σ : xS) : xO Int32 :=
  dm_L_law_p830 P k23 v0 v1 v2 v3 v4 σ
def dm_L_law_p267 (P : xP) (k23 : Option Nat → Option Nat → Option Nat → Option Nat → Int32 → xS → xO Int32) (v0 : Option Nat) (v1 : Option Nat) (v2 : Option Nat) (v3 : Option Nat) (v4 : Int32) (σ : xS) : xO Int32 :=
  dm_L_law_p830 P k23 v0 v1 v2 v3 v4 σ
def dm_L_law_p347 (P : xP) (k23 : Option Nat → Option Nat → Option Nat → Option Nat → Int32 → xS → xO Int32) (v0 : Option Nat) (v1 : Option Nat) (v2 : Option Nat) (v3 : Option Nat) (v4 : Int32) (σ : xS) : xO Int32 :=
  dm_L_law_p830 P k23 v0 v1 v2 v3 v4 σ
def dm_L_law_p427 (P : xP) (k23 : Option Nat → Option Nat → Option Nat → Option Nat → Int32 → xS → xO Int32) (v0 : Option Nat) (v1 : Option Nat) (v2 : Option Nat) (v3 : Option Nat) (v4 : Int32) (σ : xS) : xO Int32 :=
  dm_L_law_p830 P k23 v0 v1 v2 v3 v4 σ
def dm_L_law_p519 (P : xP) (k23 : Option Nat → Option Nat → Option Nat → Option Nat → Int32 → xS → xO Int32) (v0 : Option Nat) (v1 : Option Nat) (v2 : Option Nat) (v3 : Option Nat) (v4 : Int32) (σ : xS) : xO Int32 :=
  dm_L_law_p830 P k23 v0 v1 v2 v3 v4 σ
def dm_L_law_p611 (P : xP) (k23 : Option Nat → Option Nat → Option Nat → Option Nat → Int32 → xS → xO Int32) (v0 : Option Nat) (v1 : Option Nat) (v2 : Option Nat) (v3 : Option Nat) (v4 : Int32) (σ : xS) : xO Int32 :=
  dm_L_law_p830 P k23 v0 v1 v2 v3 v4 σ
def dm_L_law_p703 (P : xP) (k23 : Option Nat → Option Nat → Option Nat → Option Nat → Int32 → xS → xO Int32) (v0 : Option Nat) (v1 : Option Nat) (v2 : Option Nat) (v3 : Option Nat) (v4 : Int32) (σ : xS) : xO Int32 :=
  dm_L_law_p830 P k23 v0 v1 v2 v3 v4 σ
def dm_L_law_p771 (P : xP) (k23 : Option Nat → Option Nat → Option Nat → Option Nat → Int32 → xS → xO Int32) (v0 : Option Nat) (v1 : Option Nat) (v2 : Option Nat) (v3 : Option Nat) (v4 : Int32) (σ : xS) : xO Int32 :=
  dm_L_law_p830 P k23 v0 v1 v2 v3 v4 σ
def dm_L_law_p827 (P : xP) (k23 : Option Nat → Option Nat → Option Nat → Option Nat → Int32 → xS → xO Int32) (v0 : Option Nat) (v1 : Option Nat) (v2 : Option Nat) (v3 : Option Nat) (v4 : Int32) (σ : xS) : xO Int32 :=
  dm_L_law_p830 P k23 v0 v1 v2 v3 v4 σ
def dm_L_law_L23 (P : xP) : Nat → Option Nat → Option Nat → Option Nat → Option Nat → Int32 → xS → xO Int32
  | 0, _, _, _, _, _, _ => none
  | n + 1, v0, v1, v2, v3, v4, σ =>
    x_some v0 fun a_1 =>
    x_chk (σ.K a_1 = 14) <|
    if ((Int32.ofNat (σ.L a_1)) - 5) < v4 then
      some (.inl 1, σ)
    else
      x_chk (σ.K a_1 = 14 ∧ x_in v4 (σ.L a_1)) <|
      x_let (((σ.AI a_1 (Int32.toNatClampNeg v4)) &&& 15)) fun v_5 =>
      if v_5 = 0 then
        x_chk (σ.K a_1 = 14 ∧ x_in (v4 + 1) (σ.L a_1)) <|
        x_some v1 fun a_8 =>
        x_chk (σ.K a_8 = 11) <|
        x_bind (dm_X11_unit P a_8 (σ.AI a_1 (Int32.toNatClampNeg (v4 + 1))) σ) (fun v_9 σ_10 =>
          x_chk (σ_10.K a_1 = 14 ∧ x_in (v4 + 1) (σ_10.L a_1)) <|
          x_some v2 fun a_14 =>
          x_chk (σ_10.K a_14 = 12) <|
          x_bind (dm_X12_unit P a_14 (σ_10.AI a_1 (Int32.toNatClampNeg (v4 + 1))) σ_10) (fun v_15 σ_16 =>
            if v_9 = v_15 then
              dm_L_law_p830 P (dm_L_law_L23 P n) v0 v1 v2 v3 v4 σ_16
            else
              some (.inl 0, σ_16)
            ) (fun E_20 σ_16 =>
            some (.inr E_20, σ_16)
            )
          ) (fun E_21 σ_10 =>
          some (.inr E_21, σ_10)
          )
      else
      if v_5 = 1 then
        x_chk (σ.K a_1 = 14 ∧ x_in (v4 + 1) (σ.L a_1)) <|
        x_some v1 fun a_24 =>
        x_chk (σ.K a_24 = 11) <|
        x_bind (dm_X11_units P a_24 (σ.AI a_1 (Int32.toNatClampNeg (v4 + 1))) σ) (fun v_25 σ_26 =>
          x_chk (σ_26.K a_1 = 14 ∧ x_in (v4 + 1) (σ_26.L a_1)) <|
          x_some v2 fun a_30 =>
          x_chk (σ_26.K a_30 = 12) <|
          x_bind (dm_X12_units P a_30 (σ_26.AI a_1 (Int32.toNatClampNeg (v4 + 1))) σ_26) (fun v_31 σ_32 =>
            if v_25 = v_31 then
              dm_L_law_p830 P (dm_L_law_L23 P n) v0 v1 v2 v3 v4 σ_32
            else
              some (.inl 0, σ_32)
            ) (fun E_36 σ_32 =>
            some (.inr E_36, σ_32)
            )
          ) (fun E_37 σ_26 =>
          some (.inr E_37, σ_26)
          )
      else
      if v_5 = 2 then
        x_chk (σ.K a_1 = 14 ∧ x_in (v4 + 1) (σ.L a_1)) <|
        x_bind (dm_L_read P v1 (σ.AI a_1 (Int32.toNatClampNeg (v4 + 1))) v3 σ) (fun v_40 σ_41 =>
          x_chk (σ_41.K a_1 = 14 ∧ x_in (v4 + 1) (σ_41.L a_1)) <|
          x_some v2 fun a_44 =>
          x_chk (σ_41.K a_44 = 12) <|
          x_bind (dm_X12_read P a_44 (σ_41.AI a_1 (Int32.toNatClampNeg (v4 + 1))) σ_41) (fun v_45 σ_46 =>
            x_chk (σ_46.K a_44 = 12) <|
            x_bind (dm_X12_thrown P a_44 σ_46) (fun v_49 σ_50 =>
              if v_49 = v_40 then
                if v_40 = 0 then
                  x_some v3 fun a_55 =>
                  x_chk (σ_50.K a_55 = 42 ∧ x_in 0 (σ_50.L a_55)) <|
                  if (lg_cmp (σ_50.AJ a_55 (Int32.toNatClampNeg 0)) (Int32.toInt64 v_45)) = 0 then
                    dm_L_law_p199 P (dm_L_law_L23 P n) v0 v1 v2 v3 v4 σ_50
                  else
                    some (.inl 0, σ_50)
                else
                  dm_L_law_p199 P (dm_L_law_L23 P n) v0 v1 v2 v3 v4 σ_50
              else
                some (.inl 0, σ_50)
              ) (fun E_58 σ_50 =>
              some (.inr E_58, σ_50)
              )
            ) (fun E_59 σ_46 =>
            some (.inr E_59, σ_46)
            )
          ) (fun E_60 σ_41 =>
          some (.inr E_60, σ_41)
          )
      else
      if v_5 = 3 then
        x_chk (σ.K a_1 = 14 ∧ x_in (v4 + 1) (σ.L a_1)) <|
        x_chk (σ.K a_1 = 14 ∧ x_in (v4 + 2) (σ.L a_1)) <|
        x_bind (dm_L_module P v1 (σ.AI a_1 (Int32.toNatClampNeg (v4 + 1))) (σ.AI a_1 (Int32.toNatClampNeg (v4 + 2))) v3 σ) (fun v_64 σ_65 =>
          x_chk (σ_65.K a_1 = 14 ∧ x_in (v4 + 1) (σ_65.L a_1)) <|
          x_chk (σ_65.K a_1 = 14 ∧ x_in (v4 + 2) (σ_65.L a_1)) <|
          x_some v2 fun a_69 =>
          x_chk (σ_65.K a_69 = 12) <|
          x_bind (dm_X12_module P a_69 (σ_65.AI a_1 (Int32.toNatClampNeg (v4 + 1))) (σ_65.AI a_1 (Int32.toNatClampNeg (v4 + 2))) σ_65) (fun v_70 σ_71 =>
            x_chk (σ_71.K a_69 = 12) <|
            x_bind (dm_X12_thrown P a_69 σ_71) (fun v_74 σ_75 =>
              if v_74 = v_64 then
                if v_64 = 0 then
                  x_some v3 fun a_80 =>
                  x_chk (σ_75.K a_80 = 42 ∧ x_in 0 (σ_75.L a_80)) <|
                  if (lg_cmp (σ_75.AJ a_80 (Int32.toNatClampNeg 0)) (Int32.toInt64 v_70)) = 0 then
                    dm_L_law_p267 P (dm_L_law_L23 P n) v0 v1 v2 v3 v4 σ_75
                  else
                    some (.inl 0, σ_75)
                else
                  dm_L_law_p267 P (dm_L_law_L23 P n) v0 v1 v2 v3 v4 σ_75
              else
                some (.inl 0, σ_75)
              ) (fun E_83 σ_75 =>
              some (.inr E_83, σ_75)
              )
            ) (fun E_84 σ_71 =>
            some (.inr E_84, σ_71)
            )
          ) (fun E_85 σ_65 =>
          some (.inr E_85, σ_65)
          )
      else
      if v_5 = 4 then
        x_chk (σ.K a_1 = 14 ∧ x_in (v4 + 1) (σ.L a_1)) <|
        x_chk (σ.K a_1 = 14 ∧ x_in (v4 + 2) (σ.L a_1)) <|
        x_chk (σ.K a_1 = 14 ∧ x_in (v4 + 3) (σ.L a_1)) <|
        x_bind (dm_L_net P v1 (σ.AI a_1 (Int32.toNatClampNeg (v4 + 1))) (σ.AI a_1 (Int32.toNatClampNeg (v4 + 2))) (σ.AI a_1 (Int32.toNatClampNeg (v4 + 3))) v3 σ) (fun v_90 σ_91 =>
          x_chk (σ_91.K a_1 = 14 ∧ x_in (v4 + 1) (σ_91.L a_1)) <|
          x_chk (σ_91.K a_1 = 14 ∧ x_in (v4 + 2) (σ_91.L a_1)) <|
          x_chk (σ_91.K a_1 = 14 ∧ x_in (v4 + 3) (σ_91.L a_1)) <|
          x_some v2 fun a_96 =>
          x_chk (σ_91.K a_96 = 12) <|
          x_bind (dm_X12_net P a_96 (σ_91.AI a_1 (Int32.toNatClampNeg (v4 + 1))) (σ_91.AI a_1 (Int32.toNatClampNeg (v4 + 2))) (σ_91.AI a_1 (Int32.toNatClampNeg (v4 + 3))) σ_91) (fun v_97 σ_98 =>
            x_chk (σ_98.K a_96 = 12) <|
            x_bind (dm_X12_thrown P a_96 σ_98) (fun v_101 σ_102 =>
              if v_101 = v_90 then
                if v_90 = 0 then
                  x_some v3 fun a_107 =>
                  x_chk (σ_102.K a_107 = 42 ∧ x_in 0 (σ_102.L a_107)) <|
                  if (lg_cmp (σ_102.AJ a_107 (Int32.toNatClampNeg 0)) (Int32.toInt64 v_97)) = 0 then
                    dm_L_law_p347 P (dm_L_law_L23 P n) v0 v1 v2 v3 v4 σ_102
                  else
                    some (.inl 0, σ_102)
                else
                  dm_L_law_p347 P (dm_L_law_L23 P n) v0 v1 v2 v3 v4 σ_102
              else
                some (.inl 0, σ_102)
              ) (fun E_110 σ_102 =>
              some (.inr E_110, σ_102)
              )
            ) (fun E_111 σ_98 =>
            some (.inr E_111, σ_98)
            )
          ) (fun E_112 σ_91 =>
          some (.inr E_112, σ_91)
          )
      else
      if v_5 = 5 then
        x_chk (σ.K a_1 = 14 ∧ x_in (v4 + 1) (σ.L a_1)) <|
        x_chk (σ.K a_1 = 14 ∧ x_in (v4 + 2) (σ.L a_1)) <|
        x_chk (σ.K a_1 = 14 ∧ x_in (v4 + 3) (σ.L a_1)) <|
        x_bind (dm_L_instance P v1 (σ.AI a_1 (Int32.toNatClampNeg (v4 + 1))) (σ.AI a_1 (Int32.toNatClampNeg (v4 + 2))) (σ.AI a_1 (Int32.toNatClampNeg (v4 + 3))) v3 σ) (fun v_117 σ_118 =>
          x_chk (σ_118.K a_1 = 14 ∧ x_in (v4 + 1) (σ_118.L a_1)) <|
          x_chk (σ_118.K a_1 = 14 ∧ x_in (v4 + 2) (σ_118.L a_1)) <|
          x_chk (σ_118.K a_1 = 14 ∧ x_in (v4 + 3) (σ_118.L a_1)) <|
          x_some v2 fun a_123 =>
          x_chk (σ_118.K a_123 = 12) <|
          x_bind (dm_X12_instance P a_123 (σ_118.AI a_1 (Int32.toNatClampNeg (v4 + 1))) (σ_118.AI a_1 (Int32.toNatClampNeg (v4 + 2))) (σ_118.AI a_1 (Int32.toNatClampNeg (v4 + 3))) σ_118) (fun v_124 σ_125 =>
            x_chk (σ_125.K a_123 = 12) <|
            x_bind (dm_X12_thrown P a_123 σ_125) (fun v_128 σ_129 =>
              if v_128 = v_117 then
                if v_117 = 0 then
                  x_some v3 fun a_134 =>
                  x_chk (σ_129.K a_134 = 42 ∧ x_in 0 (σ_129.L a_134)) <|
                  if (lg_cmp (σ_129.AJ a_134 (Int32.toNatClampNeg 0)) (Int32.toInt64 v_124)) = 0 then
                    dm_L_law_p427 P (dm_L_law_L23 P n) v0 v1 v2 v3 v4 σ_129
                  else
                    some (.inl 0, σ_129)
                else
                  dm_L_law_p427 P (dm_L_law_L23 P n) v0 v1 v2 v3 v4 σ_129
              else
                some (.inl 0, σ_129)
              ) (fun E_137 σ_129 =>
              some (.inr E_137, σ_129)
              )
            ) (fun E_138 σ_125 =>
            some (.inr E_138, σ_125)
            )
          ) (fun E_139 σ_118 =>
          some (.inr E_139, σ_118)
          )
      else
      if v_5 = 6 then
        x_chk (σ.K a_1 = 14 ∧ x_in (v4 + 1) (σ.L a_1)) <|
        x_chk (σ.K a_1 = 14 ∧ x_in (v4 + 2) (σ.L a_1)) <|
        x_chk (σ.K a_1 = 14 ∧ x_in (v4 + 3) (σ.L a_1)) <|
        x_chk (σ.K a_1 = 14 ∧ x_in (v4 + 4) (σ.L a_1)) <|
        x_bind (dm_L_joined P v1 (σ.AI a_1 (Int32.toNatClampNeg (v4 + 1))) (σ.AI a_1 (Int32.toNatClampNeg (v4 + 2))) (σ.AI a_1 (Int32.toNatClampNeg (v4 + 3))) (σ.AI a_1 (Int32.toNatClampNeg (v4 + 4))) v3 σ) (fun v_145 σ_146 =>
          x_chk (σ_146.K a_1 = 14 ∧ x_in (v4 + 1) (σ_146.L a_1)) <|
          x_chk (σ_146.K a_1 = 14 ∧ x_in (v4 + 2) (σ_146.L a_1)) <|
          x_chk (σ_146.K a_1 = 14 ∧ x_in (v4 + 3) (σ_146.L a_1)) <|
          x_chk (σ_146.K a_1 = 14 ∧ x_in (v4 + 4) (σ_146.L a_1)) <|
          x_some v2 fun a_152 =>
          x_chk (σ_146.K a_152 = 12) <|
          x_bind (dm_X12_joined P a_152 (σ_146.AI a_1 (Int32.toNatClampNeg (v4 + 1))) (σ_146.AI a_1 (Int32.toNatClampNeg (v4 + 2))) (σ_146.AI a_1 (Int32.toNatClampNeg (v4 + 3))) (σ_146.AI a_1 (Int32.toNatClampNeg (v4 + 4))) σ_146) (fun v_153 σ_154 =>
            x_chk (σ_154.K a_152 = 12) <|
            x_bind (dm_X12_thrown P a_152 σ_154) (fun v_157 σ_158 =>
              if v_157 = v_145 then
                if v_145 = 0 then
                  x_some v3 fun a_163 =>
                  x_chk (σ_158.K a_163 = 42 ∧ x_in 0 (σ_158.L a_163)) <|
                  if (lg_cmp (σ_158.AJ a_163 (Int32.toNatClampNeg 0)) (Int32.toInt64 v_153)) = 0 then
                    dm_L_law_p519 P (dm_L_law_L23 P n) v0 v1 v2 v3 v4 σ_158
                  else
                    some (.inl 0, σ_158)
                else
                  dm_L_law_p519 P (dm_L_law_L23 P n) v0 v1 v2 v3 v4 σ_158
              else
                some (.inl 0, σ_158)
              ) (fun E_166 σ_158 =>
              some (.inr E_166, σ_158)
              )
            ) (fun E_167 σ_154 =>
            some (.inr E_167, σ_154)
            )
          ) (fun E_168 σ_146 =>
          some (.inr E_168, σ_146)
          )
      else
      if v_5 = 7 then
        x_chk (σ.K a_1 = 14 ∧ x_in (v4 + 1) (σ.L a_1)) <|
        x_chk (σ.K a_1 = 14 ∧ x_in (v4 + 2) (σ.L a_1)) <|
        x_chk (σ.K a_1 = 14 ∧ x_in (v4 + 3) (σ.L a_1)) <|
        x_chk (σ.K a_1 = 14 ∧ x_in (v4 + 4) (σ.L a_1)) <|
        x_bind (dm_L_assign P v1 (σ.AI a_1 (Int32.toNatClampNeg (v4 + 1))) (σ.AI a_1 (Int32.toNatClampNeg (v4 + 2))) (σ.AI a_1 (Int32.toNatClampNeg (v4 + 3))) (σ.AI a_1 (Int32.toNatClampNeg (v4 + 4))) v3 σ) (fun v_174 σ_175 =>
          x_chk (σ_175.K a_1 = 14 ∧ x_in (v4 + 1) (σ_175.L a_1)) <|
          x_chk (σ_175.K a_1 = 14 ∧ x_in (v4 + 2) (σ_175.L a_1)) <|
          x_chk (σ_175.K a_1 = 14 ∧ x_in (v4 + 3) (σ_175.L a_1)) <|
          x_chk (σ_175.K a_1 = 14 ∧ x_in (v4 + 4) (σ_175.L a_1)) <|
          x_some v2 fun a_181 =>
          x_chk (σ_175.K a_181 = 12) <|
          x_bind (dm_X12_assign P a_181 (σ_175.AI a_1 (Int32.toNatClampNeg (v4 + 1))) (σ_175.AI a_1 (Int32.toNatClampNeg (v4 + 2))) (σ_175.AI a_1 (Int32.toNatClampNeg (v4 + 3))) (σ_175.AI a_1 (Int32.toNatClampNeg (v4 + 4))) σ_175) (fun v_182 σ_183 =>
            x_chk (σ_183.K a_181 = 12) <|
            x_bind (dm_X12_thrown P a_181 σ_183) (fun v_186 σ_187 =>
              if v_186 = v_174 then
                if v_174 = 0 then
                  x_some v3 fun a_192 =>
                  x_chk (σ_187.K a_192 = 42 ∧ x_in 0 (σ_187.L a_192)) <|
                  if (lg_cmp (σ_187.AJ a_192 (Int32.toNatClampNeg 0)) (Int32.toInt64 v_182)) = 0 then
                    dm_L_law_p611 P (dm_L_law_L23 P n) v0 v1 v2 v3 v4 σ_187
                  else
                    some (.inl 0, σ_187)
                else
                  dm_L_law_p611 P (dm_L_law_L23 P n) v0 v1 v2 v3 v4 σ_187
              else
                some (.inl 0, σ_187)
              ) (fun E_195 σ_187 =>
              some (.inr E_195, σ_187)
              )
            ) (fun E_196 σ_183 =>
            some (.inr E_196, σ_183)
            )
          ) (fun E_197 σ_175 =>
          some (.inr E_197, σ_175)
          )
      else
      if v_5 = 8 then
        x_chk (σ.K a_1 = 14 ∧ x_in (v4 + 1) (σ.L a_1)) <|
        x_chk (σ.K a_1 = 14 ∧ x_in (v4 + 2) (σ.L a_1)) <|
        x_chk (σ.K a_1 = 14 ∧ x_in (v4 + 3) (σ.L a_1)) <|
        x_chk (σ.K a_1 = 14 ∧ x_in (v4 + 4) (σ.L a_1)) <|
        x_bind (dm_L_letter P v1 (σ.AI a_1 (Int32.toNatClampNeg (v4 + 1))) (σ.AI a_1 (Int32.toNatClampNeg (v4 + 2))) (σ.AI a_1 (Int32.toNatClampNeg (v4 + 3))) (σ.AI a_1 (Int32.toNatClampNeg (v4 + 4))) v3 σ) (fun v_203 σ_204 =>
          x_chk (σ_204.K a_1 = 14 ∧ x_in (v4 + 1) (σ_204.L a_1)) <|
          x_chk (σ_204.K a_1 = 14 ∧ x_in (v4 + 2) (σ_204.L a_1)) <|
          x_chk (σ_204.K a_1 = 14 ∧ x_in (v4 + 3) (σ_204.L a_1)) <|
          x_chk (σ_204.K a_1 = 14 ∧ x_in (v4 + 4) (σ_204.L a_1)) <|
          x_some v2 fun a_210 =>
          x_chk (σ_204.K a_210 = 12) <|
          x_bind (dm_X12_letter P a_210 (σ_204.AI a_1 (Int32.toNatClampNeg (v4 + 1))) (σ_204.AI a_1 (Int32.toNatClampNeg (v4 + 2))) (σ_204.AI a_1 (Int32.toNatClampNeg (v4 + 3))) (σ_204.AI a_1 (Int32.toNatClampNeg (v4 + 4))) σ_204) (fun v_211 σ_212 =>
            x_chk (σ_212.K a_210 = 12) <|
            x_bind (dm_X12_thrown P a_210 σ_212) (fun v_215 σ_216 =>
              if v_215 = v_203 then
                if v_203 = 0 then
                  x_some v3 fun a_221 =>
                  x_chk (σ_216.K a_221 = 42 ∧ x_in 0 (σ_216.L a_221)) <|
                  if (lg_cmp (σ_216.AJ a_221 (Int32.toNatClampNeg 0)) (Int32.toInt64 v_211)) = 0 then
                    dm_L_law_p703 P (dm_L_law_L23 P n) v0 v1 v2 v3 v4 σ_216
                  else
                    some (.inl 0, σ_216)
                else
                  dm_L_law_p703 P (dm_L_law_L23 P n) v0 v1 v2 v3 v4 σ_216
              else
                some (.inl 0, σ_216)
              ) (fun E_224 σ_216 =>
              some (.inr E_224, σ_216)
              )
            ) (fun E_225 σ_212 =>
            some (.inr E_225, σ_212)
            )
          ) (fun E_226 σ_204 =>
          some (.inr E_226, σ_204)
          )
      else
      if v_5 = 9 then
        x_chk (σ.K a_1 = 14 ∧ x_in (v4 + 1) (σ.L a_1)) <|
        x_chk (σ.K a_1 = 14 ∧ x_in (v4 + 2) (σ.L a_1)) <|
        x_bind (dm_L_write P v1 (σ.AI a_1 (Int32.toNatClampNeg (v4 + 1))) (σ.AI a_1 (Int32.toNatClampNeg (v4 + 2))) v3 σ) (fun v_230 σ_231 =>
          x_chk (σ_231.K a_1 = 14 ∧ x_in (v4 + 1) (σ_231.L a_1)) <|
          x_chk (σ_231.K a_1 = 14 ∧ x_in (v4 + 2) (σ_231.L a_1)) <|
          x_some v2 fun a_235 =>
          x_chk (σ_231.K a_235 = 12) <|
          x_bind (dm_X12_write P a_235 (σ_231.AI a_1 (Int32.toNatClampNeg (v4 + 1))) (σ_231.AI a_1 (Int32.toNatClampNeg (v4 + 2))) σ_231) (fun v_236 σ_237 =>
            x_chk (σ_237.K a_235 = 12) <|
            x_bind (dm_X12_thrown P a_235 σ_237) (fun v_240 σ_241 =>
              if v_240 = v_230 then
                if v_230 = 0 then
                  x_some v3 fun a_246 =>
                  x_chk (σ_241.K a_246 = 42 ∧ x_in 0 (σ_241.L a_246)) <|
                  if (lg_cmp (σ_241.AJ a_246 (Int32.toNatClampNeg 0)) (Int32.toInt64 v_236)) = 0 then
                    dm_L_law_p771 P (dm_L_law_L23 P n) v0 v1 v2 v3 v4 σ_241
                  else
                    some (.inl 0, σ_241)
                else
                  dm_L_law_p771 P (dm_L_law_L23 P n) v0 v1 v2 v3 v4 σ_241
              else
                some (.inl 0, σ_241)
              ) (fun E_249 σ_241 =>
              some (.inr E_249, σ_241)
              )
            ) (fun E_250 σ_237 =>
            some (.inr E_250, σ_237)
            )
          ) (fun E_251 σ_231 =>
          some (.inr E_251, σ_231)
          )
      else
      if v_5 = 10 then
        x_chk (σ.K a_1 = 14 ∧ x_in (v4 + 1) (σ.L a_1)) <|
        x_bind (dm_L_count P v1 (σ.AI a_1 (Int32.toNatClampNeg (v4 + 1))) v3 σ) (fun v_254 σ_255 =>
          x_chk (σ_255.K a_1 = 14 ∧ x_in (v4 + 1) (σ_255.L a_1)) <|
          x_some v2 fun a_258 =>
          x_chk (σ_255.K a_258 = 12) <|
          x_bind (dm_X12_count P a_258 (σ_255.AI a_1 (Int32.toNatClampNeg (v4 + 1))) σ_255) (fun v_259 σ_260 =>
            x_chk (σ_260.K a_258 = 12) <|
            x_bind (dm_X12_thrown P a_258 σ_260) (fun v_263 σ_264 =>
              if v_263 = v_254 then
                if v_254 = 0 then
                  x_some v3 fun a_269 =>
                  x_chk (σ_264.K a_269 = 42 ∧ x_in 0 (σ_264.L a_269)) <|
                  if (lg_cmp (σ_264.AJ a_269 (Int32.toNatClampNeg 0)) (Int32.toInt64 v_259)) = 0 then
                    dm_L_law_p827 P (dm_L_law_L23 P n) v0 v1 v2 v3 v4 σ_264
                  else
                    some (.inl 0, σ_264)
                else
                  dm_L_law_p827 P (dm_L_law_L23 P n) v0 v1 v2 v3 v4 σ_264
              else
                some (.inl 0, σ_264)
              ) (fun E_272 σ_264 =>
              some (.inr E_272, σ_264)
              )
            ) (fun E_273 σ_260 =>
            some (.inr E_273, σ_260)
            )
          ) (fun E_274 σ_255 =>
          some (.inr E_274, σ_255)
          )
      else
        dm_L_law_p830 P (dm_L_law_L23 P n) v0 v1 v2 v3 v4 σ
def dm_L_law (P : xP) (v0 : Option Nat) (σ : xS) : xO Int32 :=
  x_chk (σ.sz + 1 ≤ P.lim ∧ σ.su + 5 ≤ P.slim) <|
  x_let (σ.newO 11 5) fun σ_2 =>
  x_bind (dm_X11_init P σ.sz σ_2) (fun _ σ_4 =>
    x_chk (σ_4.sz + 1 ≤ P.lim ∧ σ_4.su + 45 ≤ P.slim) <|
    x_let (σ_4.newO 12 45) fun σ_7 =>
    x_bind (dm_X12_init P σ_4.sz σ_7) (fun _ σ_9 =>
      x_chk (¬ (1 : Int32) < 0 ∧ (Int32.toNatClampNeg 1) ≤ 60000000 ∧ σ_9.sz + 1 ≤ P.lim ∧ σ_9.su + (Int32.toNatClampNeg 1) ≤ P.slim) <|
      x_let (σ_9.newA 42 (Int32.toNatClampNeg 1)) fun σ_12 =>
      dm_L_law_L23 P P.N v0 (some σ.sz) (some σ_4.sz) (some σ_9.sz) 0 σ_12
      ) (fun E_13 σ_9 =>
      some (.inr E_13, σ_9)
      )
    ) (fun E_14 σ_4 =>
    some (.inr E_14, σ_4)
    )
