/-! the pure functions of X2 -/
def f_X2_add (v_t_size : Int32) (g_t_of : Nat → Int32) (g_t_said : Nat → Int32) (p1 : Int32) (p2 : Int32) : Option (Int32 × Int32 × (Nat → Int32) × (Nat → Int32)) :=
  if v_t_size < 0 then
    some ((0 : Int32), v_t_size, g_t_of, g_t_said)
  else
    if v_t_size < (6 : Int32) then
      if (v_t_size < 0 ∨ 6 ≤ v_t_size.toNatClampNeg) then none else
      if (v_t_size < 0 ∨ 6 ≤ v_t_size.toNatClampNeg) then none else
      some ((1 : Int32), v_t_size + (1 : Int32), upd g_t_of v_t_size.toNatClampNeg p1, upd g_t_said v_t_size.toNatClampNeg p2)
    else
      some ((0 : Int32), v_t_size, g_t_of, g_t_said)
def f_X2_empty (v_t_size : Int32) : Option (Int32 × Int32) :=
  some (v_t_size, (0 : Int32))
def b_X2_fits_3 (v_t_size : Int32) (g_t_of : Nat → Int32) (g_t_said : Nat → Int32) (x1 : Int32) (x2 : Int32) (x3 : Int32) (z : Int32) : Option ((Int32) ⊕ (Int32)) :=
  if v_t_size ≤ z then
    some (.inr (1 : Int32))
  else
    if (6 : Int32) ≤ z then
      some (.inr (1 : Int32))
    else
      if (z < 0 ∨ 6 ≤ z.toNatClampNeg) then none else
      (f_X0_said x1 x2 (g_t_of z.toNatClampNeg) x3).bind fun q4 =>
      if (z < 0 ∨ 6 ≤ z.toNatClampNeg) then none else
      if q4 = (g_t_said z.toNatClampNeg) then
        some (.inl (z + (1 : Int32)))
      else
        some (.inr (0 : Int32))
def f_X2_fits (v_t_size : Int32) (g_t_of : Nat → Int32) (g_t_said : Nat → Int32) (p1 : Int32) (p2 : Int32) (p3 : Int32) : Option (Int32) :=
  lpF (b_X2_fits_3 v_t_size g_t_of g_t_said p1 p2 p3) FU (0 : Int32)
def b_X2_countFits_12 (v_t_size : Int32) (g_t_of : Nat → Int32) (g_t_said : Nat → Int32) (x1 : Int32) (x3 : Int32) (z : Int32 × Int32) : Option ((Int32 × Int32) ⊕ ((Int32 × Int32) ⊕ (Int32))) :=
  if x1 ≤ z.2 then
    some (.inr (.inl (z.1, x3 + (1 : Int32))))
  else
    (f_X2_fits v_t_size g_t_of g_t_said x3 z.2 x1).bind fun q3 =>
    if q3 = 0 then
      some (.inl (z.1, z.2 + (1 : Int32)))
    else
      some (.inl (z.1 + (1 : Int32), z.2 + (1 : Int32)))
def b_X2_countFits_4 (v_t_size : Int32) (g_t_of : Nat → Int32) (g_t_said : Nat → Int32) (x1 : Int32) (z : Int32 × Int32) : Option ((Int32 × Int32) ⊕ (Int32)) :=
  if x1 ≤ z.2 then
    some (.inr z.1)
  else
    lpF (b_X2_countFits_12 v_t_size g_t_of g_t_said x1 z.2) FU (z.1, (0 : Int32))
def f_X2_countFits (v_t_size : Int32) (g_t_of : Nat → Int32) (g_t_said : Nat → Int32) (p1 : Int32) : Option (Int32) :=
  lpF (b_X2_countFits_4 v_t_size g_t_of g_t_said p1) FU ((0 : Int32), (0 : Int32))
def b_X2_firstFit_9 (v_t_size : Int32) (g_t_of : Nat → Int32) (g_t_said : Nat → Int32) (x1 : Int32) (x2 : Int32) (z : Int32) : Option ((Int32) ⊕ ((Int32) ⊕ (Int32))) :=
  if x1 ≤ z then
    some (.inr (.inl (x2 + (1 : Int32))))
  else
    (f_X2_fits v_t_size g_t_of g_t_said x2 z x1).bind fun q3 =>
    if q3 = 0 then
      some (.inl (z + (1 : Int32)))
    else
      some (.inr (.inr (((10 : Int32) * x2) + z)))
def b_X2_firstFit_2 (v_t_size : Int32) (g_t_of : Nat → Int32) (g_t_said : Nat → Int32) (x1 : Int32) (z : Int32) : Option ((Int32) ⊕ (Int32)) :=
  if x1 ≤ z then
    some (.inr (-9 : Int32))
  else
    lpF (b_X2_firstFit_9 v_t_size g_t_of g_t_said x1 z) FU (0 : Int32)
def f_X2_firstFit (v_t_size : Int32) (g_t_of : Nat → Int32) (g_t_said : Nat → Int32) (p1 : Int32) : Option (Int32) :=
  lpF (b_X2_firstFit_2 v_t_size g_t_of g_t_said p1) FU (0 : Int32)
def b_X2_answersTo_14 (v_t_size : Int32) (g_t_of : Nat → Int32) (g_t_said : Nat → Int32) (x1 : Int32) (x2 : Int32) (x4 : Int32) (z : Int32 × Int32) : Option ((Int32 × Int32) ⊕ ((Int32 × Int32) ⊕ (Int32))) :=
  if x2 ≤ z.2 then
    some (.inr (.inl (z.1, x4 + (1 : Int32))))
  else
    (f_X2_fits v_t_size g_t_of g_t_said x4 z.2 x2).bind fun q3 =>
    if q3 = 0 then
      some (.inl (z.1, z.2 + (1 : Int32)))
    else
      (f_X0_said x4 z.2 x1 x2).bind fun q5 =>
      some (.inl (z.1 ||| (jshl (1 : Int32) q5), z.2 + (1 : Int32)))
def b_X2_answersTo_5 (v_t_size : Int32) (g_t_of : Nat → Int32) (g_t_said : Nat → Int32) (x1 : Int32) (x2 : Int32) (z : Int32 × Int32) : Option ((Int32 × Int32) ⊕ (Int32)) :=
  if x2 ≤ z.2 then
    some (.inr z.1)
  else
    lpF (b_X2_answersTo_14 v_t_size g_t_of g_t_said x1 x2 z.2) FU (z.1, (0 : Int32))
def f_X2_answersTo (v_t_size : Int32) (g_t_of : Nat → Int32) (g_t_said : Nat → Int32) (p1 : Int32) (p2 : Int32) : Option (Int32) :=
  lpF (b_X2_answersTo_5 v_t_size g_t_of g_t_said p1 p2) FU ((0 : Int32), (0 : Int32))
def b_X2_mostTelling_8 (v_t_size : Int32) (g_t_of : Nat → Int32) (g_t_said : Nat → Int32) (x1 : Int32) (z : Int32 × Int32 × Int32) : Option ((Int32 × Int32 × Int32) ⊕ (Int32)) :=
  if x1 ≤ z.2.2 then
    some (.inr z.1)
  else
    (f_X2_answersTo v_t_size g_t_of g_t_said z.2.2 x1).bind fun q2 =>
    (f_J6_bitCount_0f7a4 q2).bind fun q3 =>
    if q3 ≤ z.2.1 then
      some (.inl (z.1, z.2.1, z.2.2 + (1 : Int32)))
    else
      some (.inl (z.2.2, q3, z.2.2 + (1 : Int32)))
def f_X2_mostTelling (v_t_size : Int32) (g_t_of : Nat → Int32) (g_t_said : Nat → Int32) (p1 : Int32) : Option (Int32) :=
  lpF (b_X2_mostTelling_8 v_t_size g_t_of g_t_said p1) FU ((-9 : Int32), (0 : Int32), (0 : Int32))
def b_X2_fittingScribes_4 (v_t_size : Int32) (g_t_of : Nat → Int32) (g_t_said : Nat → Int32) (v_p1_opinions : Int32) (v_p1_scribes : Int32) (g_p1_turn : Nat → Int32) (g_p1_bent : Nat → Int32) (z : Int32 × Int32) : Option ((Int32 × Int32) ⊕ (Int32)) :=
  if v_p1_scribes ≤ z.2 then
    some (.inr z.1)
  else
    (f_X0_turnOf v_p1_scribes g_p1_turn z.2).bind fun q2 =>
    (f_X0_bentOf v_p1_scribes g_p1_bent z.2).bind fun q3 =>
    (f_X2_fits v_t_size g_t_of g_t_said q2 q3 v_p1_opinions).bind fun q4 =>
    if q4 = 0 then
      some (.inl (z.1, z.2 + (1 : Int32)))
    else
      some (.inl (z.1 ||| (jshl (1 : Int32) z.2), z.2 + (1 : Int32)))
def f_X2_fittingScribes (v_t_size : Int32) (g_t_of : Nat → Int32) (g_t_said : Nat → Int32) (v_p1_opinions : Int32) (v_p1_scribes : Int32) (g_p1_turn : Nat → Int32) (g_p1_bent : Nat → Int32) : Option (Int32) :=
  lpF (b_X2_fittingScribes_4 v_t_size g_t_of g_t_said v_p1_opinions v_p1_scribes g_p1_turn g_p1_bent) FU ((0 : Int32), (0 : Int32))
