/-! the pure functions of X6 -/
def f_X6_put (v_t_known : Int32) (g_t_rows : Nat → Nat → Int32) (p1 : Int32) (p2 : Int32) : Option ((Nat → Nat → Int32)) :=
  if v_t_known < 0 then
    some g_t_rows
  else
    if (10 : Int32) < v_t_known then
      some g_t_rows
    else
      if p1 < 0 then
        some g_t_rows
      else
        if (9 : Int32) ≤ p1 then
          some g_t_rows
        else
          if (v_t_known < 0 ∨ 11 ≤ v_t_known.toNatClampNeg) then none else
          if (p1 < 0 ∨ 9 ≤ p1.toNatClampNeg) then none else
          some (va_up g_t_rows v_t_known.toNatClampNeg (upd (g_t_rows v_t_known.toNatClampNeg) p1.toNatClampNeg p2))
def b_X6_begin_7 (v_t_known : Int32) (x1 : Int32) (z : Int32 × (Nat → Nat → Int32)) : Option ((Int32 × (Nat → Nat → Int32)) ⊕ (Int32 × (Nat → Nat → Int32))) :=
  if (9 : Int32) ≤ z.1 then
    (f_X6_put v_t_known z.2 (0 : Int32) x1).bind fun q2 =>
    some (.inr (v_t_known, q2))
  else
    (f_X6_put v_t_known z.2 z.1 (0 : Int32)).bind fun q3 =>
    some (.inl (z.1 + (1 : Int32), q3))
def f_X6_begin (g_t_rows : Nat → Nat → Int32) (p1 : Int32) : Option (Int32 × (Nat → Nat → Int32)) :=
  lpF (b_X6_begin_7 (0 : Int32) p1) FU ((0 : Int32), g_t_rows)
def f_X6_at (v_t_known : Int32) (g_t_rows : Nat → Nat → Int32) (p1 : Int32) : Option (Int32) :=
  if v_t_known < 0 then
    some (0 : Int32)
  else
    if (10 : Int32) < v_t_known then
      some (0 : Int32)
    else
      if p1 < 0 then
        some (0 : Int32)
      else
        if (9 : Int32) ≤ p1 then
          some (0 : Int32)
        else
          if (v_t_known < 0 ∨ 11 ≤ v_t_known.toNatClampNeg) then none else
          if (p1 < 0 ∨ 9 ≤ p1.toNatClampNeg) then none else
          some (g_t_rows v_t_known.toNatClampNeg p1.toNatClampNeg)
def f_X6_book (v_t_known : Int32) (g_t_rows : Nat → Nat → Int32) : Option (Int32) :=
  (f_X6_at v_t_known g_t_rows (0 : Int32)).bind fun q1 =>
  some q1
def f_X6_copiesNow (v_t_known : Int32) (g_t_rows : Nat → Nat → Int32) : Option (Int32) :=
  (f_X6_at v_t_known g_t_rows (1 : Int32)).bind fun q1 =>
  some q1
def f_X6_released (v_t_known : Int32) (g_t_rows : Nat → Nat → Int32) : Option (Int32) :=
  (f_X6_at v_t_known g_t_rows (2 : Int32)).bind fun q1 =>
  some q1
def f_X6_isReleased (v_t_known : Int32) (g_t_rows : Nat → Nat → Int32) (p1 : Int32) : Option (Int32) :=
  (f_X6_released v_t_known g_t_rows).bind fun q1 =>
  if ((jshr q1 p1) &&& (1 : Int32)) = (1 : Int32) then
    some (1 : Int32)
  else
    some (0 : Int32)
def f_X6_timesOf (v_t_known : Int32) (g_t_rows : Nat → Nat → Int32) (p1 : Int32) : Option (Int32) :=
  (f_X6_at v_t_known g_t_rows ((3 : Int32) + p1)).bind fun q1 =>
  some q1
def f_X6_setBook (v_t_known : Int32) (g_t_rows : Nat → Nat → Int32) (p1 : Int32) : Option ((Nat → Nat → Int32)) :=
  (f_X6_put v_t_known g_t_rows (0 : Int32) p1).bind fun q1 =>
  some q1
def f_X6_copied (v_t_known : Int32) (g_t_rows : Nat → Nat → Int32) (p1 : Int32) (p2 : Int32) : Option ((Nat → Nat → Int32)) :=
  (f_X6_put v_t_known g_t_rows (0 : Int32) p2).bind fun q1 =>
  (f_X6_copiesNow v_t_known q1).bind fun q2 =>
  (f_X6_put v_t_known q1 (1 : Int32) (q2 + (1 : Int32))).bind fun q3 =>
  (f_X6_timesOf v_t_known q3 p1).bind fun q4 =>
  (f_X6_put v_t_known q3 ((3 : Int32) + p1) (q4 + (1 : Int32))).bind fun q5 =>
  some q5
def f_X6_turnReleased (v_t_known : Int32) (g_t_rows : Nat → Nat → Int32) (p1 : Int32) : Option ((Nat → Nat → Int32)) :=
  (f_X6_released v_t_known g_t_rows).bind fun q1 =>
  (f_X6_put v_t_known g_t_rows (2 : Int32) (q1 ^^^ (jshl (1 : Int32) p1))).bind fun q2 =>
  some q2
def f_X6_copyRow_self (g_t_rows : Nat → Nat → Int32) (p1 : Int32) (p3 : Int32) : Option ((Nat → Nat → Int32)) :=
  if p1 < 0 then
    some g_t_rows
  else
    if (10 : Int32) < p1 then
      some g_t_rows
    else
      if p3 < 0 then
        some g_t_rows
      else
        if (10 : Int32) < p3 then
          some g_t_rows
        else
          if (p1 < 0 ∨ 11 ≤ p1.toNatClampNeg) then none else
          if (p3 < 0 ∨ 11 ≤ p3.toNatClampNeg) then none else
          some (va_up g_t_rows p3.toNatClampNeg (va_cpy (g_t_rows p1.toNatClampNeg) (g_t_rows p3.toNatClampNeg) (0 : Int32).toNatClampNeg (0 : Int32).toNatClampNeg (9 : Int32).toNatClampNeg))
def f_X6_copyRow_other (g_t_rows : Nat → Nat → Int32) (g_p2 : Nat → Nat → Int32) (p1 : Int32) (p3 : Int32) : Option ((Nat → Nat → Int32)) :=
  if p1 < 0 then
    some g_p2
  else
    if (10 : Int32) < p1 then
      some g_p2
    else
      if p3 < 0 then
        some g_p2
      else
        if (10 : Int32) < p3 then
          some g_p2
        else
          if (p1 < 0 ∨ 11 ≤ p1.toNatClampNeg) then none else
          if (p3 < 0 ∨ 11 ≤ p3.toNatClampNeg) then none else
          some (va_up g_p2 p3.toNatClampNeg (va_cpy (g_t_rows p1.toNatClampNeg) (g_p2 p3.toNatClampNeg) (0 : Int32).toNatClampNeg (0 : Int32).toNatClampNeg (9 : Int32).toNatClampNeg))
def b_X6_remember_40 (v_t_known : Int32) (z : Int32 × (Nat → Nat → Int32)) : Option ((Int32 × (Nat → Nat → Int32)) ⊕ (Int32 × (Nat → Nat → Int32))) :=
  if (10 : Int32) ≤ z.1 then
    some (.inr (v_t_known, z.2))
  else
    (f_X6_copyRow_self z.2 (z.1 + (1 : Int32)) z.1).bind fun q3 =>
    some (.inl (z.1 + (1 : Int32), q3))
def f_X6_remember (v_t_known : Int32) (g_t_rows : Nat → Nat → Int32) : Option (Int32 × (Nat → Nat → Int32)) :=
  if (10 : Int32) ≤ v_t_known then
    lpF (b_X6_remember_40 v_t_known) FU ((0 : Int32), g_t_rows)
  else
    (f_X6_copyRow_self g_t_rows ((v_t_known + (1 : Int32)) - (1 : Int32)) (v_t_known + (1 : Int32))).bind fun q4 =>
    some (v_t_known + (1 : Int32), q4)
def f_X6_takeBack (v_t_known : Int32) : Option (Int32 × Int32) :=
  if (1 : Int32) ≤ v_t_known then
    some ((1 : Int32), v_t_known - (1 : Int32))
  else
    some ((0 : Int32), v_t_known)
def b_X6_become_10 (v_t_known : Int32) (g_p1_rows : Nat → Nat → Int32) (z : Int32 × (Nat → Nat → Int32)) : Option ((Int32 × (Nat → Nat → Int32)) ⊕ (Int32 × (Nat → Nat → Int32))) :=
  if v_t_known < z.1 then
    some (.inr (v_t_known, z.2))
  else
    (f_X6_copyRow_other g_p1_rows z.2 z.1 z.1).bind fun q2 =>
    some (.inl (z.1 + (1 : Int32), q2))
def f_X6_become (g_t_rows : Nat → Nat → Int32) (v_p1_known : Int32) (g_p1_rows : Nat → Nat → Int32) : Option (Int32 × (Nat → Nat → Int32)) :=
  lpF (b_X6_become_10 v_p1_known g_p1_rows) FU ((0 : Int32), g_t_rows)
