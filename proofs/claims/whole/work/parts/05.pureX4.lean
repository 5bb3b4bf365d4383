/-! the pure functions of X4 -/
def f_X4_add (v_t_length : Int32) (g_t_text : Nat → Int32) (p1 : Int32) : Option (Int32 × Int32 × (Nat → Int32)) :=
  if v_t_length < 0 then
    some ((0 : Int32), v_t_length, g_t_text)
  else
    if v_t_length < (120 : Int32) then
      if (v_t_length < 0 ∨ 120 ≤ v_t_length.toNatClampNeg) then none else
      some ((1 : Int32), v_t_length + (1 : Int32), upd g_t_text v_t_length.toNatClampNeg p1)
    else
      some ((0 : Int32), v_t_length, g_t_text)
def f_X4_empty (v_t_length : Int32) : Option (Int32 × Int32) :=
  some (v_t_length, (0 : Int32))
def f_X4_byteAt (v_t_length : Int32) (g_t_text : Nat → Int32) (p1 : Int32) : Option (Int32) :=
  if p1 < 0 then
    some (-1 : Int32)
  else
    if v_t_length ≤ p1 then
      some (-1 : Int32)
    else
      if (120 : Int32) ≤ p1 then
        some (-1 : Int32)
      else
        if (p1 < 0 ∨ 120 ≤ p1.toNatClampNeg) then none else
        some (g_t_text p1.toNatClampNeg)
def f_X4_isLetter (p0 : Int32) : Option (Int32) :=
  if p0 < (97 : Int32) then
    some (0 : Int32)
  else
    if (122 : Int32) < p0 then
      some (0 : Int32)
    else
      some (1 : Int32)
def b_X4_readLetters_0 (v_t_length : Int32) (v_t_place : Int32) (g_t_text : Nat → Int32) (z : Int32) : Option ((Int32) ⊕ (Int32 × Int32 × Int32)) :=
  if v_t_length ≤ z then
    if (z - v_t_place) = (1 : Int32) then
      (f_X4_byteAt v_t_length g_t_text v_t_place).bind fun q3 =>
      some (.inr (z, (1 : Int32), q3))
    else
      some (.inr (z, (1 : Int32), (0 : Int32)))
  else
    (f_X4_byteAt v_t_length g_t_text z).bind fun q4 =>
    (f_X4_isLetter q4).bind fun q5 =>
    if q5 = 0 then
      if (z - v_t_place) = (1 : Int32) then
        (f_X4_byteAt v_t_length g_t_text v_t_place).bind fun q8 =>
        some (.inr (z, (1 : Int32), q8))
      else
        some (.inr (z, (1 : Int32), (0 : Int32)))
    else
      some (.inl (z + (1 : Int32)))
def f_X4_readLetters (v_t_length : Int32) (v_t_next : Int32) (v_t_place : Int32) (g_t_text : Nat → Int32) : Option (Int32 × Int32 × Int32) :=
  lpF (b_X4_readLetters_0 v_t_length v_t_place g_t_text) FU v_t_next
def f_X4_isFigure (p0 : Int32) : Option (Int32) :=
  if p0 < (48 : Int32) then
    some (0 : Int32)
  else
    if (57 : Int32) < p0 then
      some (0 : Int32)
    else
      some (1 : Int32)
def b_X4_readFigures_5 (v_t_length : Int32) (v_t_place : Int32) (g_t_text : Nat → Int32) (z : Int32 × Int32) : Option ((Int32 × Int32) ⊕ (Int32 × Int32 × Int32)) :=
  if v_t_length ≤ z.1 then
    if (z.1 - v_t_place) ≤ (1 : Int32) then
      if z.2 ≤ (99 : Int32) then
        some (.inr (z.1, (2 : Int32), z.2))
      else
        some (.inr (z.1, (4 : Int32), z.2))
    else
      (f_X4_byteAt v_t_length g_t_text v_t_place).bind fun q5 =>
      if q5 = (48 : Int32) then
        some (.inr (z.1, (4 : Int32), z.2))
      else
        if z.2 ≤ (99 : Int32) then
          some (.inr (z.1, (2 : Int32), z.2))
        else
          some (.inr (z.1, (4 : Int32), z.2))
  else
    (f_X4_byteAt v_t_length g_t_text z.1).bind fun q10 =>
    (f_X4_isFigure q10).bind fun q11 =>
    if q11 = 0 then
      if (z.1 - v_t_place) ≤ (1 : Int32) then
        if z.2 ≤ (99 : Int32) then
          some (.inr (z.1, (2 : Int32), z.2))
        else
          some (.inr (z.1, (4 : Int32), z.2))
      else
        (f_X4_byteAt v_t_length g_t_text v_t_place).bind fun q16 =>
        if q16 = (48 : Int32) then
          some (.inr (z.1, (4 : Int32), z.2))
        else
          if z.2 ≤ (99 : Int32) then
            some (.inr (z.1, (2 : Int32), z.2))
          else
            some (.inr (z.1, (4 : Int32), z.2))
    else
      (f_X4_byteAt v_t_length g_t_text z.1).bind fun q21 =>
      some (.inl (z.1 + (1 : Int32), if (100 : Int32) < (((z.2 * (10 : Int32)) + q21) - (48 : Int32)) then (100 : Int32) else ((z.2 * (10 : Int32)) + q21) - (48 : Int32)))
def f_X4_readFigures (v_t_length : Int32) (v_t_next : Int32) (v_t_place : Int32) (g_t_text : Nat → Int32) : Option (Int32 × Int32 × Int32) :=
  lpF (b_X4_readFigures_5 v_t_length v_t_place g_t_text) FU (v_t_next, (0 : Int32))
def b_X4_readToken_0 (v_t_length : Int32) (v_t_value : Int32) (g_t_text : Nat → Int32) (z : Int32) : Option ((Int32) ⊕ (Int32 × Int32 × Int32 × Int32)) :=
  if v_t_length ≤ z then
    (f_X4_byteAt v_t_length g_t_text z).bind fun q2 =>
    (f_X4_isLetter q2).bind fun q3 =>
    if q3 = 0 then
      (f_X4_isFigure q2).bind fun q5 =>
      if q5 = 0 then
        if q2 = (59 : Int32) then
          some (.inr (z + (1 : Int32), z, (3 : Int32), v_t_value))
        else
          if 0 ≤ q2 then
            some (.inr (z, z, (4 : Int32), v_t_value))
          else
            some (.inr (z, z, (0 : Int32), v_t_value))
      else
        (f_X4_readFigures v_t_length z z g_t_text).bind fun q9 =>
        some (.inr (q9.1, z, q9.2.1, q9.2.2))
    else
      (f_X4_readLetters v_t_length z z g_t_text).bind fun q10 =>
      some (.inr (q10.1, z, q10.2.1, q10.2.2))
  else
    (f_X4_byteAt v_t_length g_t_text z).bind fun q11 =>
    if q11 = (32 : Int32) then
      some (.inl (z + (1 : Int32)))
    else
      (f_X4_byteAt v_t_length g_t_text z).bind fun q13 =>
      (f_X4_isLetter q13).bind fun q14 =>
      if q14 = 0 then
        (f_X4_isFigure q13).bind fun q16 =>
        if q16 = 0 then
          if q13 = (59 : Int32) then
            some (.inr (z + (1 : Int32), z, (3 : Int32), v_t_value))
          else
            if 0 ≤ q13 then
              some (.inr (z, z, (4 : Int32), v_t_value))
            else
              some (.inr (z, z, (0 : Int32), v_t_value))
        else
          (f_X4_readFigures v_t_length z z g_t_text).bind fun q20 =>
          some (.inr (q20.1, z, q20.2.1, q20.2.2))
      else
        (f_X4_readLetters v_t_length z z g_t_text).bind fun q21 =>
        some (.inr (q21.1, z, q21.2.1, q21.2.2))
def f_X4_readToken (v_t_length : Int32) (v_t_next : Int32) (v_t_value : Int32) (g_t_text : Nat → Int32) : Option (Int32 × Int32 × Int32 × Int32) :=
  lpF (b_X4_readToken_0 v_t_length v_t_value g_t_text) FU v_t_next
def f_X4_readNumber (v_t_length : Int32) (v_t_next : Int32) (v_t_value : Int32) (g_t_text : Nat → Int32) (p1 : Int32) (p2 : Int32) : Option (Int32 × Int32 × Int32 × Int32 × Int32) :=
  (f_X4_readToken v_t_length v_t_next v_t_value g_t_text).bind fun q1 =>
  if q1.2.2.1 = (2 : Int32) then
    if q1.2.2.2 < p1 then
      some ((0 : Int32), q1.1, q1.2.1, q1.2.2.1, q1.2.2.2)
    else
      if p2 < q1.2.2.2 then
        some ((0 : Int32), q1.1, q1.2.1, q1.2.2.1, q1.2.2.2)
      else
        some ((1 : Int32), q1.1, q1.2.1, q1.2.2.1, q1.2.2.2)
  else
    some ((0 : Int32), q1.1, q1.2.1, q1.2.2.1, q1.2.2.2)
def f_X4_readStop (v_t_length : Int32) (v_t_next : Int32) (v_t_value : Int32) (g_t_text : Nat → Int32) : Option (Int32 × Int32 × Int32 × Int32 × Int32) :=
  (f_X4_readToken v_t_length v_t_next v_t_value g_t_text).bind fun q1 =>
  if q1.2.2.1 = (3 : Int32) then
    some ((1 : Int32), q1.1, q1.2.1, q1.2.2.1, q1.2.2.2)
  else
    some ((0 : Int32), q1.1, q1.2.1, q1.2.2.1, q1.2.2.2)
def f_X4_readOpinions (v_t_length : Int32) (v_t_next : Int32) (v_t_value : Int32) (g_t_text : Nat → Int32) (v_p1_opinions : Int32) : Option (Int32 × Int32 × Int32 × Int32 × Int32 × Int32) :=
  (f_X4_readNumber v_t_length v_t_next v_t_value g_t_text (2 : Int32) (5 : Int32)).bind fun q1 =>
  if q1.1 = 0 then
    some ((0 : Int32), q1.2.1, q1.2.2.1, q1.2.2.2.1, q1.2.2.2.2, v_p1_opinions)
  else
    (f_X4_readStop v_t_length q1.2.1 q1.2.2.2.2 g_t_text).bind fun q3 =>
    if (q3.1 = 0 ∨ q3.1 = 1) then some (q3.1, q3.2.1, q3.2.2.1, q3.2.2.2.1, q3.2.2.2.2, q1.2.2.2.2) else none
def b_X4_readBook_7 (v_t_length : Int32) (v_t_bookTold : Int32) (g_t_text : Nat → Int32) (v_p1_opinions : Int32) (z : Int32 × Int32 × Int32 × Int32 × Int32 × Int32 × Int32 × Int32) : Option ((Int32 × Int32 × Int32 × Int32 × Int32 × Int32 × Int32 × Int32) ⊕ (Int32 × Int32 × Int32 × Int32 × Int32 × Int32 × Int32 × Int32 × Int32)) :=
  if (4 : Int32) ≤ z.1 then
    (f_X4_readStop v_t_length z.2.1 z.2.2.2.2.1 g_t_text).bind fun q2 =>
    if (q2.1 = 0 ∨ q2.1 = 1) then some (.inr (q2.1, q2.2.1, q2.2.2.1, q2.2.2.2.1, q2.2.2.2.2, v_t_bookTold, z.2.2.2.2.2.1, z.2.2.2.2.2.2.1, z.2.2.2.2.2.2.2)) else none
  else
    (f_X4_readToken v_t_length z.2.1 z.2.2.2.2.1 g_t_text).bind fun q4 =>
    if z.1 ≤ 0 then
      if q4.2.2.1 = (2 : Int32) then
        (f_X0_hasOpinion v_p1_opinions q4.2.2.2).bind fun q7 =>
        if q7 = 0 then
          some (.inr ((0 : Int32), q4.1, q4.2.1, q4.2.2.1, q4.2.2.2, v_t_bookTold, z.2.2.2.2.2.1, z.2.2.2.2.2.2.1, z.2.2.2.2.2.2.2))
        else
          (f_X0_addLine v_p1_opinions z.2.2.2.2.2.1 z.2.2.2.2.2.2.1 z.2.2.2.2.2.2.2 q4.2.2.2).bind fun q9 =>
          some (.inl (z.1 + (1 : Int32), q4.1, q4.2.1, q4.2.2.1, q4.2.2.2, q9.1, q9.2.1, q9.2.2))
      else
        some (.inr ((0 : Int32), q4.1, q4.2.1, q4.2.2.1, q4.2.2.2, v_t_bookTold, z.2.2.2.2.2.1, z.2.2.2.2.2.2.1, z.2.2.2.2.2.2.2))
    else
      if q4.2.2.1 = (3 : Int32) then
        some (.inr ((1 : Int32), q4.1, q4.2.1, q4.2.2.1, q4.2.2.2, v_t_bookTold, z.2.2.2.2.2.1, z.2.2.2.2.2.2.1, z.2.2.2.2.2.2.2))
      else
        if q4.2.2.1 = (2 : Int32) then
          (f_X0_hasOpinion v_p1_opinions q4.2.2.2).bind fun q12 =>
          if q12 = 0 then
            some (.inr ((0 : Int32), q4.1, q4.2.1, q4.2.2.1, q4.2.2.2, v_t_bookTold, z.2.2.2.2.2.1, z.2.2.2.2.2.2.1, z.2.2.2.2.2.2.2))
          else
            (f_X0_addLine v_p1_opinions z.2.2.2.2.2.1 z.2.2.2.2.2.2.1 z.2.2.2.2.2.2.2 q4.2.2.2).bind fun q14 =>
            some (.inl (z.1 + (1 : Int32), q4.1, q4.2.1, q4.2.2.1, q4.2.2.2, q14.1, q14.2.1, q14.2.2))
        else
          some (.inr ((0 : Int32), q4.1, q4.2.1, q4.2.2.1, q4.2.2.2, v_t_bookTold, z.2.2.2.2.2.1, z.2.2.2.2.2.2.1, z.2.2.2.2.2.2.2))
def f_X4_readBook (v_t_length : Int32) (v_t_next : Int32) (v_t_place : Int32) (v_t_sort : Int32) (v_t_value : Int32) (g_t_text : Nat → Int32) (v_p1_opinions : Int32) (v_p1_lines : Int32) (v_p1_books : Int32) (v_p1_told : Int32) : Option (Int32 × Int32 × Int32 × Int32 × Int32 × Int32 × Int32 × Int32 × Int32) :=
  lpF (b_X4_readBook_7 v_t_length (1 : Int32) g_t_text v_p1_opinions) FU ((0 : Int32), v_t_next, v_t_place, v_t_sort, v_t_value, v_p1_lines, v_p1_books, v_p1_told)
def f_X4_readScribe (v_t_length : Int32) (v_t_next : Int32) (v_t_value : Int32) (g_t_text : Nat → Int32) (v_p1_scribes : Int32) (g_p1_turn : Nat → Int32) (g_p1_bent : Nat → Int32) : Option (Int32 × Int32 × Int32 × Int32 × Int32 × Int32 × (Nat → Int32) × (Nat → Int32)) :=
  (f_X4_readNumber v_t_length v_t_next v_t_value g_t_text (0 : Int32) (6 : Int32)).bind fun q1 =>
  if q1.1 = 0 then
    some ((0 : Int32), q1.2.1, q1.2.2.1, q1.2.2.2.1, q1.2.2.2.2, v_p1_scribes, g_p1_turn, g_p1_bent)
  else
    (f_X4_readNumber v_t_length q1.2.1 q1.2.2.2.2 g_t_text (0 : Int32) (6 : Int32)).bind fun q3 =>
    if q3.1 = 0 then
      some ((0 : Int32), q3.2.1, q3.2.2.1, q3.2.2.2.1, q3.2.2.2.2, v_p1_scribes, g_p1_turn, g_p1_bent)
    else
      (f_X0_addScribe v_p1_scribes g_p1_turn g_p1_bent q1.2.2.2.2 q3.2.2.2.2).bind fun q5 =>
      (f_X4_readStop v_t_length q3.2.1 q3.2.2.2.2 g_t_text).bind fun q6 =>
      if (q6.1 = 0 ∨ q6.1 = 1) then some (q6.1, q6.2.1, q6.2.2.1, q6.2.2.2.1, q6.2.2.2.2, q5.1, q5.2.1, q5.2.2) else none
def f_X4_readNeed (v_t_length : Int32) (v_t_next : Int32) (v_t_value : Int32) (g_t_text : Nat → Int32) (v_p1_need : Int32) : Option (Int32 × Int32 × Int32 × Int32 × Int32 × Int32 × Int32) :=
  (f_X4_readNumber v_t_length v_t_next v_t_value g_t_text (1 : Int32) (4 : Int32)).bind fun q1 =>
  if q1.1 = 0 then
    some ((0 : Int32), q1.2.1, q1.2.2.1, q1.2.2.2.1, q1.2.2.2.2, (1 : Int32), v_p1_need)
  else
    (f_X4_readStop v_t_length q1.2.1 q1.2.2.2.2 g_t_text).bind fun q3 =>
    if (q3.1 = 0 ∨ q3.1 = 1) then some (q3.1, q3.2.1, q3.2.2.1, q3.2.2.2.1, q3.2.2.2.2, (1 : Int32), q1.2.2.2.2) else none
def b_X4_read_21 (v_t_length : Int32) (g_t_text : Nat → Int32) (z : Int32 × Int32 × Int32 × Int32 × Int32 × Int32 × Int32 × Int32 × Int32 × Int32 × Int32 × Int32 × Int32 × (Nat → Int32) × (Nat → Int32)) : Option ((Int32 × Int32 × Int32 × Int32 × Int32 × Int32 × Int32 × Int32 × Int32 × Int32 × Int32 × Int32 × Int32 × (Nat → Int32) × (Nat → Int32)) ⊕ (Int32 × Int32 × Int32 × Int32 × Int32 × Int32 × Int32 × Int32 × Int32 × Int32 × Int32 × Int32 × Int32 × (Nat → Int32) × (Nat → Int32))) :=
  if (120 : Int32) < z.1 then
    some (.inr ((-10 : Int32) - z.2.2.1, z.2.1, z.2.2.1, z.2.2.2.1, z.2.2.2.2.1, z.2.2.2.2.2.1, z.2.2.2.2.2.2.1, z.2.2.2.2.2.2.2.1, z.2.2.2.2.2.2.2.2.1, z.2.2.2.2.2.2.2.2.2.1, z.2.2.2.2.2.2.2.2.2.2.1, z.2.2.2.2.2.2.2.2.2.2.2.1, z.2.2.2.2.2.2.2.2.2.2.2.2.1, z.2.2.2.2.2.2.2.2.2.2.2.2.2.1, z.2.2.2.2.2.2.2.2.2.2.2.2.2.2))
  else
    (f_X4_readToken v_t_length z.2.1 z.2.2.2.2.1 g_t_text).bind fun q3 =>
    if q3.2.2.1 = 0 then
      some (.inr (z.1, q3.1, q3.2.1, q3.2.2.1, q3.2.2.2, z.2.2.2.2.2.1, z.2.2.2.2.2.2.1, z.2.2.2.2.2.2.2.1, z.2.2.2.2.2.2.2.2.1, z.2.2.2.2.2.2.2.2.2.1, z.2.2.2.2.2.2.2.2.2.2.1, z.2.2.2.2.2.2.2.2.2.2.2.1, z.2.2.2.2.2.2.2.2.2.2.2.2.1, z.2.2.2.2.2.2.2.2.2.2.2.2.2.1, z.2.2.2.2.2.2.2.2.2.2.2.2.2.2))
    else
      if q3.2.2.1 = (1 : Int32) then
        if q3.2.2.2 = 98 then
          if z.2.2.2.2.2.1 = 0 then
            (f_X4_readBook v_t_length q3.1 q3.2.1 q3.2.2.1 q3.2.2.2 g_t_text z.2.2.2.2.2.2.2.1 z.2.2.2.2.2.2.2.2.1 z.2.2.2.2.2.2.2.2.2.1 z.2.2.2.2.2.2.2.2.2.2.1).bind fun q9 =>
            if q9.1 = 0 then
              some (.inr ((-10 : Int32) - q9.2.2.1, q9.2.1, q9.2.2.1, q9.2.2.2.1, q9.2.2.2.2.1, q9.2.2.2.2.2.1, z.2.2.2.2.2.2.1, z.2.2.2.2.2.2.2.1, q9.2.2.2.2.2.2.1, q9.2.2.2.2.2.2.2.1, q9.2.2.2.2.2.2.2.2, z.2.2.2.2.2.2.2.2.2.2.2.1, z.2.2.2.2.2.2.2.2.2.2.2.2.1, z.2.2.2.2.2.2.2.2.2.2.2.2.2.1, z.2.2.2.2.2.2.2.2.2.2.2.2.2.2))
            else
              some (.inl (z.1 + (1 : Int32), q9.2.1, q9.2.2.1, q9.2.2.2.1, q9.2.2.2.2.1, q9.2.2.2.2.2.1, z.2.2.2.2.2.2.1, z.2.2.2.2.2.2.2.1, q9.2.2.2.2.2.2.1, q9.2.2.2.2.2.2.2.1, q9.2.2.2.2.2.2.2.2, z.2.2.2.2.2.2.2.2.2.2.2.1, z.2.2.2.2.2.2.2.2.2.2.2.2.1, z.2.2.2.2.2.2.2.2.2.2.2.2.2.1, z.2.2.2.2.2.2.2.2.2.2.2.2.2.2))
          else
            some (.inr ((-10 : Int32) - q3.2.1, q3.1, q3.2.1, q3.2.2.1, q3.2.2.2, z.2.2.2.2.2.1, z.2.2.2.2.2.2.1, z.2.2.2.2.2.2.2.1, z.2.2.2.2.2.2.2.2.1, z.2.2.2.2.2.2.2.2.2.1, z.2.2.2.2.2.2.2.2.2.2.1, z.2.2.2.2.2.2.2.2.2.2.2.1, z.2.2.2.2.2.2.2.2.2.2.2.2.1, z.2.2.2.2.2.2.2.2.2.2.2.2.2.1, z.2.2.2.2.2.2.2.2.2.2.2.2.2.2))
        else
        if q3.2.2.2 = 110 then
          if z.2.2.2.2.2.2.1 = 0 then
            (f_X4_readNeed v_t_length q3.1 q3.2.2.2 g_t_text z.2.2.2.2.2.2.2.2.2.2.2.2.1).bind fun q15 =>
            if q15.1 = 0 then
              some (.inr ((-10 : Int32) - q15.2.2.1, q15.2.1, q15.2.2.1, q15.2.2.2.1, q15.2.2.2.2.1, z.2.2.2.2.2.1, q15.2.2.2.2.2.1, z.2.2.2.2.2.2.2.1, z.2.2.2.2.2.2.2.2.1, z.2.2.2.2.2.2.2.2.2.1, z.2.2.2.2.2.2.2.2.2.2.1, z.2.2.2.2.2.2.2.2.2.2.2.1, q15.2.2.2.2.2.2, z.2.2.2.2.2.2.2.2.2.2.2.2.2.1, z.2.2.2.2.2.2.2.2.2.2.2.2.2.2))
            else
              some (.inl (z.1 + (1 : Int32), q15.2.1, q15.2.2.1, q15.2.2.2.1, q15.2.2.2.2.1, z.2.2.2.2.2.1, q15.2.2.2.2.2.1, z.2.2.2.2.2.2.2.1, z.2.2.2.2.2.2.2.2.1, z.2.2.2.2.2.2.2.2.2.1, z.2.2.2.2.2.2.2.2.2.2.1, z.2.2.2.2.2.2.2.2.2.2.2.1, q15.2.2.2.2.2.2, z.2.2.2.2.2.2.2.2.2.2.2.2.2.1, z.2.2.2.2.2.2.2.2.2.2.2.2.2.2))
          else
            some (.inr ((-10 : Int32) - q3.2.1, q3.1, q3.2.1, q3.2.2.1, q3.2.2.2, z.2.2.2.2.2.1, z.2.2.2.2.2.2.1, z.2.2.2.2.2.2.2.1, z.2.2.2.2.2.2.2.2.1, z.2.2.2.2.2.2.2.2.2.1, z.2.2.2.2.2.2.2.2.2.2.1, z.2.2.2.2.2.2.2.2.2.2.2.1, z.2.2.2.2.2.2.2.2.2.2.2.2.1, z.2.2.2.2.2.2.2.2.2.2.2.2.2.1, z.2.2.2.2.2.2.2.2.2.2.2.2.2.2))
        else
        if q3.2.2.2 = 111 then
          if z.1 = 0 then
            (f_X4_readOpinions v_t_length q3.1 q3.2.2.2 g_t_text z.2.2.2.2.2.2.2.1).bind fun q21 =>
            if q21.1 = 0 then
              some (.inr ((-10 : Int32) - q21.2.2.1, q21.2.1, q21.2.2.1, q21.2.2.2.1, q21.2.2.2.2.1, z.2.2.2.2.2.1, z.2.2.2.2.2.2.1, q21.2.2.2.2.2, z.2.2.2.2.2.2.2.2.1, z.2.2.2.2.2.2.2.2.2.1, z.2.2.2.2.2.2.2.2.2.2.1, z.2.2.2.2.2.2.2.2.2.2.2.1, z.2.2.2.2.2.2.2.2.2.2.2.2.1, z.2.2.2.2.2.2.2.2.2.2.2.2.2.1, z.2.2.2.2.2.2.2.2.2.2.2.2.2.2))
            else
              some (.inl (z.1 + (1 : Int32), q21.2.1, q21.2.2.1, q21.2.2.2.1, q21.2.2.2.2.1, z.2.2.2.2.2.1, z.2.2.2.2.2.2.1, q21.2.2.2.2.2, z.2.2.2.2.2.2.2.2.1, z.2.2.2.2.2.2.2.2.2.1, z.2.2.2.2.2.2.2.2.2.2.1, z.2.2.2.2.2.2.2.2.2.2.2.1, z.2.2.2.2.2.2.2.2.2.2.2.2.1, z.2.2.2.2.2.2.2.2.2.2.2.2.2.1, z.2.2.2.2.2.2.2.2.2.2.2.2.2.2))
          else
            some (.inr ((-10 : Int32) - q3.2.1, q3.1, q3.2.1, q3.2.2.1, q3.2.2.2, z.2.2.2.2.2.1, z.2.2.2.2.2.2.1, z.2.2.2.2.2.2.2.1, z.2.2.2.2.2.2.2.2.1, z.2.2.2.2.2.2.2.2.2.1, z.2.2.2.2.2.2.2.2.2.2.1, z.2.2.2.2.2.2.2.2.2.2.2.1, z.2.2.2.2.2.2.2.2.2.2.2.2.1, z.2.2.2.2.2.2.2.2.2.2.2.2.2.1, z.2.2.2.2.2.2.2.2.2.2.2.2.2.2))
        else
        if q3.2.2.2 = 115 then
          if (6 : Int32) ≤ z.2.2.2.2.2.2.2.2.2.2.2.1 then
            some (.inr ((-10 : Int32) - q3.2.1, q3.1, q3.2.1, q3.2.2.1, q3.2.2.2, z.2.2.2.2.2.1, z.2.2.2.2.2.2.1, z.2.2.2.2.2.2.2.1, z.2.2.2.2.2.2.2.2.1, z.2.2.2.2.2.2.2.2.2.1, z.2.2.2.2.2.2.2.2.2.2.1, z.2.2.2.2.2.2.2.2.2.2.2.1, z.2.2.2.2.2.2.2.2.2.2.2.2.1, z.2.2.2.2.2.2.2.2.2.2.2.2.2.1, z.2.2.2.2.2.2.2.2.2.2.2.2.2.2))
          else
            (f_X4_readScribe v_t_length q3.1 q3.2.2.2 g_t_text z.2.2.2.2.2.2.2.2.2.2.2.1 z.2.2.2.2.2.2.2.2.2.2.2.2.2.1 z.2.2.2.2.2.2.2.2.2.2.2.2.2.2).bind fun q27 =>
            if q27.1 = 0 then
              some (.inr ((-10 : Int32) - q27.2.2.1, q27.2.1, q27.2.2.1, q27.2.2.2.1, q27.2.2.2.2.1, z.2.2.2.2.2.1, z.2.2.2.2.2.2.1, z.2.2.2.2.2.2.2.1, z.2.2.2.2.2.2.2.2.1, z.2.2.2.2.2.2.2.2.2.1, z.2.2.2.2.2.2.2.2.2.2.1, q27.2.2.2.2.2.1, z.2.2.2.2.2.2.2.2.2.2.2.2.1, q27.2.2.2.2.2.2.1, q27.2.2.2.2.2.2.2))
            else
              some (.inl (z.1 + (1 : Int32), q27.2.1, q27.2.2.1, q27.2.2.2.1, q27.2.2.2.2.1, z.2.2.2.2.2.1, z.2.2.2.2.2.2.1, z.2.2.2.2.2.2.2.1, z.2.2.2.2.2.2.2.2.1, z.2.2.2.2.2.2.2.2.2.1, z.2.2.2.2.2.2.2.2.2.2.1, q27.2.2.2.2.2.1, z.2.2.2.2.2.2.2.2.2.2.2.2.1, q27.2.2.2.2.2.2.1, q27.2.2.2.2.2.2.2))
        else
        some (.inr ((-10 : Int32) - q3.2.1, q3.1, q3.2.1, q3.2.2.1, q3.2.2.2, z.2.2.2.2.2.1, z.2.2.2.2.2.2.1, z.2.2.2.2.2.2.2.1, z.2.2.2.2.2.2.2.2.1, z.2.2.2.2.2.2.2.2.2.1, z.2.2.2.2.2.2.2.2.2.2.1, z.2.2.2.2.2.2.2.2.2.2.2.1, z.2.2.2.2.2.2.2.2.2.2.2.2.1, z.2.2.2.2.2.2.2.2.2.2.2.2.2.1, z.2.2.2.2.2.2.2.2.2.2.2.2.2.2))
      else
        some (.inr ((-10 : Int32) - q3.2.1, q3.1, q3.2.1, q3.2.2.1, q3.2.2.2, z.2.2.2.2.2.1, z.2.2.2.2.2.2.1, z.2.2.2.2.2.2.2.1, z.2.2.2.2.2.2.2.2.1, z.2.2.2.2.2.2.2.2.2.1, z.2.2.2.2.2.2.2.2.2.2.1, z.2.2.2.2.2.2.2.2.2.2.2.1, z.2.2.2.2.2.2.2.2.2.2.2.2.1, z.2.2.2.2.2.2.2.2.2.2.2.2.2.1, z.2.2.2.2.2.2.2.2.2.2.2.2.2.2))
def f_X4_read (v_t_length : Int32) (v_t_place : Int32) (v_t_sort : Int32) (v_t_value : Int32) (g_t_text : Nat → Int32) (g_p1_turn : Nat → Int32) (g_p1_bent : Nat → Int32) : Option (Int32 × Int32 × Int32 × Int32 × Int32 × Int32 × Int32 × Int32 × Int32 × Int32 × Int32 × Int32 × Int32 × (Nat → Int32) × (Nat → Int32)) :=
  (f_X0_begin).bind fun q1 =>
  lpF (b_X4_read_21 v_t_length g_t_text) FU ((0 : Int32), (0 : Int32), v_t_place, v_t_sort, v_t_value, (0 : Int32), (0 : Int32), q1.1, q1.2.1, q1.2.2.1, q1.2.2.2.1, q1.2.2.2.2.1, q1.2.2.2.2.2, g_p1_turn, g_p1_bent)
