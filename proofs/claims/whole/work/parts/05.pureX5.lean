/-! the pure functions of X5 -/
def b_X5_boughtFrom_2 (x0 : Int32) (x1 : Int32) (z : Int32) : Option ((Int32) ⊕ (Int32)) :=
  if (6 : Int32) ≤ z then
    some (.inr (-9 : Int32))
  else
    if ((jshr x0 (jrem (x1 + z) (6 : Int32))) &&& (1 : Int32)) = (1 : Int32) then
      some (.inr (jrem (x1 + z) (6 : Int32)))
    else
      some (.inl (z + (1 : Int32)))
def f_X5_boughtFrom (p0 : Int32) (p1 : Int32) : Option (Int32) :=
  lpF (b_X5_boughtFrom_2 p0 p1) FU (0 : Int32)
def b_X5_run_31 (v_t_goesOn : Int32) (v_t_laws_scribes : Int32) (v_t_laws_books : Int32) (g_t_laws_made : Nat → Int32) (x2 : Int32) (x3 : Int32) (z : Int32 × Int32 × Int32 × Int32 × Int32) : Option ((Int32 × Int32 × Int32 × Int32 × Int32) ⊕ (Int32 × Int32 × Int32 × Int32)) :=
  if x3 ≤ z.2.1 then
    if z.1 = (-9 : Int32) then
      some (.inr (z.2.2.1, z.2.2.2.1, z.2.2.2.2, (0 : Int32)))
    else
      some (.inr (z.2.2.1, z.2.2.2.1, z.2.2.2.2, (1 : Int32)))
  else
    if z.1 = (-9 : Int32) then
      if z.1 = (-9 : Int32) then
        some (.inr (z.2.2.1, z.2.2.2.1, z.2.2.2.2, (0 : Int32)))
      else
        some (.inr (z.2.2.1, z.2.2.2.1, z.2.2.2.2, (1 : Int32)))
    else
      (f_X1_copyBy v_t_laws_scribes v_t_laws_books g_t_laws_made z.1 z.2.2.1).bind fun q6 =>
      if q6 = (-1 : Int32) then
        some (.inr (z.2.2.1, z.2.2.2.1, z.1, v_t_goesOn))
      else
        (f_X5_boughtFrom x2 (z.1 + (1 : Int32))).bind fun q8 =>
        some (.inl (q8, z.2.1 + (1 : Int32), q6, z.2.2.2.1 + (1 : Int32), z.2.2.2.2))
def f_X5_run (v_t_laws_scribes : Int32) (v_t_laws_books : Int32) (g_t_laws_made : Nat → Int32) (p1 : Int32) (p2 : Int32) (p3 : Int32) : Option (Int32 × Int32 × Int32 × Int32) :=
  (f_X5_boughtFrom p2 (0 : Int32)).bind fun q1 =>
  lpF (b_X5_run_31 (0 : Int32) v_t_laws_scribes v_t_laws_books g_t_laws_made p2 p3) FU (q1, (0 : Int32), p1, (0 : Int32), (-9 : Int32))
def f_X5_runToEnd (v_t_laws_scribes : Int32) (v_t_laws_books : Int32) (g_t_laws_made : Nat → Int32) (p1 : Int32) (p2 : Int32) : Option (Int32 × Int32 × Int32 × Int32) :=
  (f_X5_run v_t_laws_scribes v_t_laws_books g_t_laws_made p1 p2 (v_t_laws_books * v_t_laws_scribes)).bind fun q1 =>
  some (q1.1, q1.2.1, q1.2.2.1, q1.2.2.2)
def f_X5_reaches (v_t_laws_scribes : Int32) (v_t_laws_books : Int32) (g_t_laws_made : Nat → Int32) (p1 : Int32) (p2 : Int32) (p3 : Int32) : Option (Int32 × Int32 × Int32 × Int32 × Int32) :=
  (f_X5_run v_t_laws_scribes v_t_laws_books g_t_laws_made p1 p2 p3).bind fun q1 =>
  if q1.2.1 < p3 then
    some ((0 : Int32), q1.1, q1.2.1, q1.2.2.1, q1.2.2.2)
  else
    some ((1 : Int32), q1.1, q1.2.1, q1.2.2.1, q1.2.2.2)
def b_X5_longestBook_8 (v_t_laws_scribes : Int32) (v_t_laws_books : Int32) (g_t_laws_made : Nat → Int32) (x1 : Int32) (z : Int32 × Int32 × Int32 × Int32 × Int32 × Int32 × Int32) : Option ((Int32 × Int32 × Int32 × Int32 × Int32 × Int32 × Int32) ⊕ (Int32 × Int32 × Int32 × Int32 × Int32)) :=
  if v_t_laws_books ≤ z.2.2.1 then
    some (.inr (z.1, z.2.2.2.1, z.2.2.2.2.1, z.2.2.2.2.2.1, z.2.2.2.2.2.2))
  else
    (f_X5_runToEnd v_t_laws_scribes v_t_laws_books g_t_laws_made z.2.2.1 x1).bind fun q2 =>
    if q2.2.2.2 = 0 then
      if q2.2.1 ≤ z.2.1 then
        some (.inl (z.1, z.2.1, z.2.2.1 + (1 : Int32), q2.1, q2.2.1, q2.2.2.1, q2.2.2.2))
      else
        some (.inl (z.2.2.1, q2.2.1, z.2.2.1 + (1 : Int32), q2.1, q2.2.1, q2.2.2.1, q2.2.2.2))
    else
      some (.inr ((-9 : Int32), q2.1, q2.2.1, q2.2.2.1, q2.2.2.2))
def f_X5_longestBook (v_t_book : Int32) (v_t_copies : Int32) (v_t_ender : Int32) (v_t_goesOn : Int32) (v_t_laws_scribes : Int32) (v_t_laws_books : Int32) (g_t_laws_made : Nat → Int32) (p1 : Int32) : Option (Int32 × Int32 × Int32 × Int32 × Int32) :=
  lpF (b_X5_longestBook_8 v_t_laws_scribes v_t_laws_books g_t_laws_made p1) FU ((-9 : Int32), (-1 : Int32), (0 : Int32), v_t_book, v_t_copies, v_t_ender, v_t_goesOn)
def b_X5_fewestToBuy_13 (v_t_laws_scribes : Int32) (v_t_laws_books : Int32) (g_t_laws_made : Nat → Int32) (x1 : Int32) (x2 : Int32) (x3 : Int32) (x4 : Int32) (x5 : Int32) (z : Int32 × Int32 × Int32 × Int32 × Int32) : Option ((Int32 × Int32 × Int32 × Int32 × Int32) ⊕ ((Int32 × Int32 × Int32 × Int32 × Int32) ⊕ (Int32 × Int32 × Int32 × Int32 × Int32))) :=
  if (64 : Int32) ≤ z.1 then
    some (.inr (.inl (x5 + (1 : Int32), z.2.1, z.2.2.1, z.2.2.2.1, z.2.2.2.2)))
  else
    (f_J6_bitCount_0f7a4 z.1).bind fun q3 =>
    if q3 = x5 then
      if (z.1 &&& (x3 ^^^ (-1 : Int32))) = 0 then
        (f_X5_reaches v_t_laws_scribes v_t_laws_books g_t_laws_made x1 (x2 ||| z.1) x4).bind fun q6 =>
        if q6.1 = 0 then
          some (.inl (z.1 + (1 : Int32), q6.2.1, q6.2.2.1, q6.2.2.2.1, q6.2.2.2.2))
        else
          some (.inr (.inr (z.1, q6.2.1, q6.2.2.1, q6.2.2.2.1, q6.2.2.2.2)))
      else
        some (.inl (z.1 + (1 : Int32), z.2.1, z.2.2.1, z.2.2.2.1, z.2.2.2.2))
    else
      some (.inl (z.1 + (1 : Int32), z.2.1, z.2.2.1, z.2.2.2.1, z.2.2.2.2))
def b_X5_fewestToBuy_3 (v_t_laws_scribes : Int32) (v_t_laws_books : Int32) (g_t_laws_made : Nat → Int32) (x1 : Int32) (x2 : Int32) (x3 : Int32) (x4 : Int32) (z : Int32 × Int32 × Int32 × Int32 × Int32) : Option ((Int32 × Int32 × Int32 × Int32 × Int32) ⊕ (Int32 × Int32 × Int32 × Int32 × Int32)) :=
  if (6 : Int32) < z.1 then
    some (.inr ((-9 : Int32), z.2.1, z.2.2.1, z.2.2.2.1, z.2.2.2.2))
  else
    lpF (b_X5_fewestToBuy_13 v_t_laws_scribes v_t_laws_books g_t_laws_made x1 x2 x3 x4 z.1) FU ((0 : Int32), z.2.1, z.2.2.1, z.2.2.2.1, z.2.2.2.2)
def f_X5_fewestToBuy (v_t_book : Int32) (v_t_copies : Int32) (v_t_ender : Int32) (v_t_goesOn : Int32) (v_t_laws_scribes : Int32) (v_t_laws_books : Int32) (g_t_laws_made : Nat → Int32) (p1 : Int32) (p2 : Int32) (p3 : Int32) (p4 : Int32) : Option (Int32 × Int32 × Int32 × Int32 × Int32) :=
  lpF (b_X5_fewestToBuy_3 v_t_laws_scribes v_t_laws_books g_t_laws_made p1 p2 p3 p4) FU ((0 : Int32), v_t_book, v_t_copies, v_t_ender, v_t_goesOn)
