/-! the pure functions of X3 -/
def f_X3_isKind (p0 : Int32) : Option (Int32) :=
  if p0 < 0 then
    some (0 : Int32)
  else
    if (6 : Int32) ≤ p0 then
      some (0 : Int32)
    else
      some (1 : Int32)
