/-! the pure functions of X3 -/
def f_X3_isKind (p0 : Int32) : Option (Int32) :=
  if p0 < 0 then
    some (0 : Int32)
  else
    if (6 : Int32) ≤ p0 then
      some (0 : Int32)
    else
      some (1 : Int32)
def f_X3_ask : Nat → Int32 → Int32 → Int32 → Int32 → Int32 → Int64 → Int32 → Int32 → Option (Int32 × Int64)
  | 0, _, _, _, _, _, _, _, _ => none
  | n + 1, v_t_unlike, v_t_turn, v_t_bent, v_t_times, v_t_copies, v_t_traced, p1, p2 =>
    (f_X3_isKind p1).bind fun q1 =>
    if q1 = 0 then
      some ((0 : Int32), v_t_traced)
    else
      if p2 < (6 : Int32) then
        if (p1 < 0 ∨ 6 ≤ p1.toNatClampNeg) then none else
        if (p1 < 0 ∨ 6 ≤ p1.toNatClampNeg) then none else
        (f_X3_ask n v_t_unlike v_t_turn v_t_bent v_t_times v_t_copies (v_t_traced + ((tTr p1.toNatClampNeg).toInt64)) (tAb p1.toNatClampNeg) (p2 + (1 : Int32))).bind fun q6 =>
        if p1 = 0 then
          some (v_t_unlike, q6.2)
        else
        if p1 = 1 then
          some (q6.1 + v_t_turn, q6.2)
        else
        if p1 = 2 then
          some (q6.1 - v_t_times, q6.2)
        else
        if p1 = 3 then
          some (q6.1 * (2 : Int32), q6.2)
        else
        if p1 = 4 then
          some (q6.1 + v_t_bent, q6.2)
        else
        some (q6.1 + v_t_copies, q6.2)
      else
        some ((0 : Int32), v_t_traced)
