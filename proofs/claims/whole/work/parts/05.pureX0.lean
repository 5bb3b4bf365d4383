/-! the pure functions of X0 -/
def f_X0_begin : Option (Int32 × Int32 × Int32 × Int32 × Int32 × Int32) :=
  some ((5 : Int32), (0 : Int32), (1 : Int32), (0 : Int32), (0 : Int32), (1 : Int32))
def f_X0_addLine (v_t_opinions : Int32) (v_t_lines : Int32) (v_t_books : Int32) (v_t_told : Int32) (p1 : Int32) : Option (Int32 × Int32 × Int32) :=
  if (4 : Int32) ≤ v_t_lines then
    some (v_t_lines, v_t_books, v_t_told)
  else
    some (v_t_lines + (1 : Int32), v_t_books * v_t_opinions, (v_t_told * v_t_opinions) + p1)
def f_X0_addScribe (v_t_scribes : Int32) (g_t_turn : Nat → Int32) (g_t_bent : Nat → Int32) (p1 : Int32) (p2 : Int32) : Option (Int32 × (Nat → Int32) × (Nat → Int32)) :=
  if v_t_scribes < 0 then
    some (v_t_scribes, g_t_turn, g_t_bent)
  else
    if (6 : Int32) ≤ v_t_scribes then
      some (v_t_scribes, g_t_turn, g_t_bent)
    else
      if (v_t_scribes < 0 ∨ 6 ≤ v_t_scribes.toNatClampNeg) then none else
      if (v_t_scribes < 0 ∨ 6 ≤ v_t_scribes.toNatClampNeg) then none else
      some (v_t_scribes + (1 : Int32), upd g_t_turn v_t_scribes.toNatClampNeg p1, upd g_t_bent v_t_scribes.toNatClampNeg p2)
def f_X0_hasOpinion (v_t_opinions : Int32) (p1 : Int32) : Option (Int32) :=
  if p1 < 0 then
    some (0 : Int32)
  else
    if v_t_opinions ≤ p1 then
      some (0 : Int32)
    else
      some (1 : Int32)
def f_X0_hasLine (v_t_lines : Int32) (p1 : Int32) : Option (Int32) :=
  if p1 < 0 then
    some (0 : Int32)
  else
    if v_t_lines ≤ p1 then
      some (0 : Int32)
    else
      some (1 : Int32)
def f_X0_hasScribe (v_t_scribes : Int32) (p1 : Int32) : Option (Int32) :=
  if p1 < 0 then
    some (0 : Int32)
  else
    if v_t_scribes ≤ p1 then
      some (0 : Int32)
    else
      if (6 : Int32) ≤ p1 then
        some (0 : Int32)
      else
        some (1 : Int32)
def f_X0_allScribes (v_t_scribes : Int32) : Option (Int32) :=
  some ((jshl (1 : Int32) v_t_scribes) - (1 : Int32))
def f_X0_turnOf (v_t_scribes : Int32) (g_t_turn : Nat → Int32) (p1 : Int32) : Option (Int32) :=
  (f_X0_hasScribe v_t_scribes p1).bind fun q1 =>
  if q1 = 0 then
    some (0 : Int32)
  else
    if (p1 < 0 ∨ 6 ≤ p1.toNatClampNeg) then none else
    some (g_t_turn p1.toNatClampNeg)
def f_X0_bentOf (v_t_scribes : Int32) (g_t_bent : Nat → Int32) (p1 : Int32) : Option (Int32) :=
  (f_X0_hasScribe v_t_scribes p1).bind fun q1 =>
  if q1 = 0 then
    some (0 : Int32)
  else
    if (p1 < 0 ∨ 6 ≤ p1.toNatClampNeg) then none else
    some (g_t_bent p1.toNatClampNeg)
def f_X0_said (p0 : Int32) (p1 : Int32) (p2 : Int32) (p3 : Int32) : Option (Int32) :=
  if (1 : Int32) ≤ p3 then
    if p3 = 0 then none else
    some (jrem ((p0 * p2) + p1) p3)
  else
    some (0 : Int32)
def f_X0_saidBy (v_t_opinions : Int32) (v_t_scribes : Int32) (g_t_turn : Nat → Int32) (g_t_bent : Nat → Int32) (p1 : Int32) (p2 : Int32) : Option (Int32) :=
  (f_X0_turnOf v_t_scribes g_t_turn p1).bind fun q1 =>
  (f_X0_bentOf v_t_scribes g_t_bent p1).bind fun q2 =>
  (f_X0_said q1 q2 p2 v_t_opinions).bind fun q3 =>
  some q3
def b_X0_weightOf_6 (v_t_opinions : Int32) (v_t_lines : Int32) (z : Int32 × Int32) : Option ((Int32 × Int32) ⊕ (Int32)) :=
  if v_t_lines ≤ z.2 then
    some (.inr z.1)
  else
    some (.inl (z.1 * v_t_opinions, z.2 + (1 : Int32)))
def f_X0_weightOf (v_t_opinions : Int32) (v_t_lines : Int32) (p1 : Int32) : Option (Int32) :=
  lpF (b_X0_weightOf_6 v_t_opinions v_t_lines) FU ((1 : Int32), p1 + (1 : Int32))
def f_X0_lineOf (v_t_opinions : Int32) (v_t_lines : Int32) (p1 : Int32) (p2 : Int32) : Option (Int32) :=
  (f_X0_weightOf v_t_opinions v_t_lines p2).bind fun q1 =>
  if q1 < (1 : Int32) then
    some (0 : Int32)
  else
    if (1 : Int32) ≤ v_t_opinions then
      if q1 = 0 then none else
      if v_t_opinions = 0 then none else
      some (jrem (p1 / q1) v_t_opinions)
    else
      some (0 : Int32)
def f_X0_withLine (v_t_opinions : Int32) (v_t_lines : Int32) (p1 : Int32) (p2 : Int32) (p3 : Int32) : Option (Int32) :=
  (f_X0_lineOf v_t_opinions v_t_lines p1 p2).bind fun q1 =>
  (f_X0_weightOf v_t_opinions v_t_lines p2).bind fun q2 =>
  some (p1 + ((p3 - q1) * q2))
def b_X0_becomes_16 (v_t_opinions : Int32) (v_t_scribes : Int32) (g_t_turn : Nat → Int32) (g_t_bent : Nat → Int32) (x1 : Int32) (z : Int32 × Int32 × Int32 × Int32) : Option ((Int32 × Int32 × Int32 × Int32) ⊕ (Int32)) :=
  if z.2.2.2 < 0 then
    some (.inr z.1)
  else
    if v_t_opinions ≤ 0 then
      some (.inr z.1)
    else
      if v_t_opinions = 0 then none else
      (f_X0_saidBy v_t_opinions v_t_scribes g_t_turn g_t_bent x1 (jrem z.2.1 v_t_opinions)).bind fun q4 =>
      if v_t_opinions = 0 then none else
      some (.inl (z.1 + (z.2.2.1 * q4), z.2.1 / v_t_opinions, z.2.2.1 * v_t_opinions, z.2.2.2 + (-1 : Int32)))
def f_X0_becomes (v_t_opinions : Int32) (v_t_lines : Int32) (v_t_scribes : Int32) (g_t_turn : Nat → Int32) (g_t_bent : Nat → Int32) (p1 : Int32) (p2 : Int32) : Option (Int32) :=
  lpF (b_X0_becomes_16 v_t_opinions v_t_scribes g_t_turn g_t_bent p1) FU ((0 : Int32), p2, (1 : Int32), v_t_lines - (1 : Int32))
def b_X0_unlikeLines_13 (v_t_opinions : Int32) (v_t_scribes : Int32) (g_t_turn : Nat → Int32) (g_t_bent : Nat → Int32) (x1 : Int32) (z : Int32 × Int32 × Int32) : Option ((Int32 × Int32 × Int32) ⊕ (Int32)) :=
  if z.2.2 < 0 then
    some (.inr z.1)
  else
    if v_t_opinions ≤ 0 then
      some (.inr z.1)
    else
      if v_t_opinions = 0 then none else
      (f_X0_saidBy v_t_opinions v_t_scribes g_t_turn g_t_bent x1 (jrem z.2.1 v_t_opinions)).bind fun q4 =>
      if q4 = (jrem z.2.1 v_t_opinions) then
        if v_t_opinions = 0 then none else
        some (.inl (z.1, z.2.1 / v_t_opinions, z.2.2 + (-1 : Int32)))
      else
        if v_t_opinions = 0 then none else
        some (.inl (z.1 ||| (jshl (1 : Int32) z.2.2), z.2.1 / v_t_opinions, z.2.2 + (-1 : Int32)))
def f_X0_unlikeLines (v_t_opinions : Int32) (v_t_lines : Int32) (v_t_scribes : Int32) (g_t_turn : Nat → Int32) (g_t_bent : Nat → Int32) (p1 : Int32) (p2 : Int32) : Option (Int32) :=
  lpF (b_X0_unlikeLines_13 v_t_opinions v_t_scribes g_t_turn g_t_bent p1) FU ((0 : Int32), p2, v_t_lines - (1 : Int32))
def f_X0_isConvinced (v_t_opinions : Int32) (v_t_lines : Int32) (v_t_scribes : Int32) (v_t_need : Int32) (g_t_turn : Nat → Int32) (g_t_bent : Nat → Int32) (p1 : Int32) (p2 : Int32) : Option (Int32) :=
  (f_X0_unlikeLines v_t_opinions v_t_lines v_t_scribes g_t_turn g_t_bent p1 p2).bind fun q1 =>
  (f_J6_bitCount_0f7a4 q1).bind fun q2 =>
  if v_t_need ≤ q2 then
    some (0 : Int32)
  else
    some (1 : Int32)
def b_X0_comesRound_5 (v_t_opinions : Int32) (v_t_lines : Int32) (v_t_books : Int32) (v_t_scribes : Int32) (g_t_turn : Nat → Int32) (g_t_bent : Nat → Int32) (x1 : Int32) (x2 : Int32) (z : Int32 × Int32) : Option ((Int32 × Int32) ⊕ (Int32)) :=
  if v_t_books < z.2 then
    some (.inr (-9 : Int32))
  else
    (f_X0_becomes v_t_opinions v_t_lines v_t_scribes g_t_turn g_t_bent x1 z.1).bind fun q2 =>
    if q2 = x2 then
      some (.inr z.2)
    else
      some (.inl (q2, z.2 + (1 : Int32)))
def f_X0_comesRound (v_t_opinions : Int32) (v_t_lines : Int32) (v_t_books : Int32) (v_t_scribes : Int32) (g_t_turn : Nat → Int32) (g_t_bent : Nat → Int32) (p1 : Int32) (p2 : Int32) : Option (Int32) :=
  lpF (b_X0_comesRound_5 v_t_opinions v_t_lines v_t_books v_t_scribes g_t_turn g_t_bent p1 p2) FU (p2, (1 : Int32))
