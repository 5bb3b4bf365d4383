/-! the pure functions of X1 -/
def b_X1_learn_39 (v_t_books : Int32) (v_p1_opinions : Int32) (v_p1_lines : Int32) (v_p1_scribes : Int32) (v_p1_need : Int32) (g_p1_turn : Nat → Int32) (g_p1_bent : Nat → Int32) (x2 : Int32) (z : Int32 × (Nat → Int32)) : Option ((Int32 × (Nat → Int32)) ⊕ ((Int32 × (Nat → Int32)) ⊕ (Int32 × Int32 × (Nat → Int32)))) :=
  if v_t_books ≤ z.1 then
    some (.inr (.inl (x2 + (1 : Int32), z.2)))
  else
    (f_X0_isConvinced v_p1_opinions v_p1_lines v_p1_scribes v_p1_need g_p1_turn g_p1_bent x2 z.1).bind fun q3 =>
    if q3 = 0 then
      (f_X0_becomes v_p1_opinions v_p1_lines v_p1_scribes g_p1_turn g_p1_bent x2 z.1).bind fun q5 =>
      if (((x2 * (625 : Int32)) + z.1) < 0 ∨ 3750 ≤ ((x2 * (625 : Int32)) + z.1).toNatClampNeg) then none else
      some (.inl (z.1 + (1 : Int32), upd z.2 ((x2 * (625 : Int32)) + z.1).toNatClampNeg q5))
    else
      if (((x2 * (625 : Int32)) + z.1) < 0 ∨ 3750 ≤ ((x2 * (625 : Int32)) + z.1).toNatClampNeg) then none else
      some (.inl (z.1 + (1 : Int32), upd z.2 ((x2 * (625 : Int32)) + z.1).toNatClampNeg (-1 : Int32)))
def b_X1_learn_29 (v_t_scribes : Int32) (v_t_books : Int32) (v_p1_opinions : Int32) (v_p1_lines : Int32) (v_p1_scribes : Int32) (v_p1_need : Int32) (g_p1_turn : Nat → Int32) (g_p1_bent : Nat → Int32) (z : Int32 × (Nat → Int32)) : Option ((Int32 × (Nat → Int32)) ⊕ (Int32 × Int32 × (Nat → Int32))) :=
  if v_t_scribes ≤ z.1 then
    some (.inr (v_t_scribes, v_t_books, z.2))
  else
    lpF (b_X1_learn_39 v_t_books v_p1_opinions v_p1_lines v_p1_scribes v_p1_need g_p1_turn g_p1_bent z.1) FU ((0 : Int32), z.2)
def f_X1_learn (g_t_made : Nat → Int32) (v_p1_opinions : Int32) (v_p1_lines : Int32) (v_p1_books : Int32) (v_p1_scribes : Int32) (v_p1_need : Int32) (g_p1_turn : Nat → Int32) (g_p1_bent : Nat → Int32) : Option (Int32 × Int32 × (Nat → Int32)) :=
  lpF (b_X1_learn_29 (if (6 : Int32) < v_p1_scribes then (6 : Int32) else v_p1_scribes) (if (625 : Int32) < v_p1_books then (625 : Int32) else v_p1_books) v_p1_opinions v_p1_lines v_p1_scribes v_p1_need g_p1_turn g_p1_bent) FU ((0 : Int32), g_t_made)
def f_X1_copyBy (v_t_scribes : Int32) (v_t_books : Int32) (g_t_made : Nat → Int32) (p1 : Int32) (p2 : Int32) : Option (Int32) :=
  if p1 < 0 then
    some (-1 : Int32)
  else
    if v_t_scribes ≤ p1 then
      some (-1 : Int32)
    else
      if p2 < 0 then
        some (-1 : Int32)
      else
        if v_t_books ≤ p2 then
          some (-1 : Int32)
        else
          if (((p1 * (625 : Int32)) + p2) < 0 ∨ 3750 ≤ ((p1 * (625 : Int32)) + p2).toNatClampNeg) then none else
          some (g_t_made ((p1 * (625 : Int32)) + p2).toNatClampNeg)
