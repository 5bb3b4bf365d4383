/-! the pure functions of X8 -/
def f_X8_type (v_t_reader_length : Int32) (g_t_reader_text : Nat → Int32) (p1 : Int32) : Option (Int32 × Int32 × (Nat → Int32)) :=
  if p1 < 0 then
    some ((-1 : Int32), v_t_reader_length, g_t_reader_text)
  else
    if p1 ≤ (255 : Int32) then
      (f_X4_add v_t_reader_length g_t_reader_text p1).bind fun q3 =>
      if q3.1 = 0 then
        some ((-3 : Int32), q3.2.1, q3.2.2)
      else
        some (q3.2.1, q3.2.1, q3.2.2)
    else
      some ((-1 : Int32), v_t_reader_length, g_t_reader_text)
def f_X8_clear (v_t_reader_length : Int32) : Option (Int32 × Int32) :=
  (f_X4_empty v_t_reader_length).bind fun q1 =>
  some (q1.1, q1.2)
def f_X8_house (v_t_keptZero : Int32) (v_t_keptOne : Int32) (v_t_target : Int32) (g_t_draft_turn : Nat → Int32) (g_t_draft_bent : Nat → Int32) (v_t_reader_length : Int32) (v_t_reader_place : Int32) (v_t_reader_sort : Int32) (v_t_reader_value : Int32) (g_t_reader_text : Nat → Int32) (v_t_laws_scribes : Int32) (v_t_laws_books : Int32) (g_t_laws_made : Nat → Int32) (v_t_standing_known : Int32) (g_t_standing_rows : Nat → Nat → Int32) (v_t_margins_size : Int32) (a_t_house : Nat) (a_t_draft : Nat) : Option (Int32 × Int32 × Int32 × Int32 × Int32 × Int32 × Int32 × Int32 × Int32 × Int32 × (Nat → Int32) × (Nat → Int32) × Int32 × Int32 × Int32 × Int32 × Int32 × Int32 × Int32 × Int32 × Int32 × (Nat → Int32) × Int32 × (Nat → Nat → Int32) × Int32 × Nat × Nat) :=
  (f_X4_read v_t_reader_length v_t_reader_place v_t_reader_sort v_t_reader_value g_t_reader_text g_t_draft_turn g_t_draft_bent).bind fun q1 =>
  if 0 ≤ q1.1 then
    (f_X4_empty v_t_reader_length).bind fun q3 =>
    (f_X1_learn g_t_laws_made q1.2.2.2.2.2.2.2.1 q1.2.2.2.2.2.2.2.2.1 q1.2.2.2.2.2.2.2.2.2.1 q1.2.2.2.2.2.2.2.2.2.2.2.1 q1.2.2.2.2.2.2.2.2.2.2.2.2.1 q1.2.2.2.2.2.2.2.2.2.2.2.2.2.1 q1.2.2.2.2.2.2.2.2.2.2.2.2.2.2).bind fun q4 =>
    (f_X6_begin g_t_standing_rows q1.2.2.2.2.2.2.2.2.2.2.1).bind fun q5 =>
    (f_X2_empty v_t_margins_size).bind fun q6 =>
    some (q1.1, (0 : Int32), (0 : Int32), q1.2.2.2.2.2.2.2.2.2.2.1, q1.2.2.2.2.2.2.2.1, q1.2.2.2.2.2.2.2.2.1, q1.2.2.2.2.2.2.2.2.2.1, q1.2.2.2.2.2.2.2.2.2.2.1, q1.2.2.2.2.2.2.2.2.2.2.2.1, q1.2.2.2.2.2.2.2.2.2.2.2.2.1, q1.2.2.2.2.2.2.2.2.2.2.2.2.2.1, q1.2.2.2.2.2.2.2.2.2.2.2.2.2.2, q3.2, q1.2.1, q1.2.2.1, q1.2.2.2.1, q1.2.2.2.2.1, q1.2.2.2.2.2.1, q1.2.2.2.2.2.2.1, q4.1, q4.2.1, q4.2.2, q5.1, q5.2, q6.2, a_t_draft, a_t_house)
  else
    some (q1.1, v_t_keptZero, v_t_keptOne, v_t_target, q1.2.2.2.2.2.2.2.1, q1.2.2.2.2.2.2.2.2.1, q1.2.2.2.2.2.2.2.2.2.1, q1.2.2.2.2.2.2.2.2.2.2.1, q1.2.2.2.2.2.2.2.2.2.2.2.1, q1.2.2.2.2.2.2.2.2.2.2.2.2.1, q1.2.2.2.2.2.2.2.2.2.2.2.2.2.1, q1.2.2.2.2.2.2.2.2.2.2.2.2.2.2, v_t_reader_length, q1.2.1, q1.2.2.1, q1.2.2.2.1, q1.2.2.2.2.1, q1.2.2.2.2.2.1, q1.2.2.2.2.2.2.1, v_t_laws_scribes, v_t_laws_books, g_t_laws_made, v_t_standing_known, g_t_standing_rows, v_t_margins_size, a_t_house, a_t_draft)
def f_X8_line (v_t_target : Int32) (v_t_house_opinions : Int32) (v_t_house_lines : Int32) (v_t_standing_known : Int32) (g_t_standing_rows : Nat → Nat → Int32) (p1 : Int32) (p2 : Int32) : Option (Int32) :=
  (f_X0_hasLine v_t_house_lines p1).bind fun q1 =>
  if q1 = 0 then
    some (-1 : Int32)
  else
    if p2 < 0 then
      some (-1 : Int32)
    else
      if p2 ≤ (1 : Int32) then
        if p2 = 0 then
          (f_X6_book v_t_standing_known g_t_standing_rows).bind fun q7 =>
          (f_X0_lineOf v_t_house_opinions v_t_house_lines q7 p1).bind fun q8 =>
          some q8
        else
          (f_X0_lineOf v_t_house_opinions v_t_house_lines v_t_target p1).bind fun q6 =>
          some q6
      else
        some (-1 : Int32)
def f_X8_scribe (v_t_house_opinions : Int32) (v_t_house_lines : Int32) (v_t_house_books : Int32) (v_t_house_scribes : Int32) (v_t_house_need : Int32) (g_t_house_turn : Nat → Int32) (g_t_house_bent : Nat → Int32) (v_t_standing_known : Int32) (g_t_standing_rows : Nat → Nat → Int32) (p1 : Int32) (p2 : Int32) : Option (Int32) :=
  (f_X0_hasScribe v_t_house_scribes p1).bind fun q1 =>
  if q1 = 0 then
    some (-1 : Int32)
  else
    (f_X6_book v_t_standing_known g_t_standing_rows).bind fun q3 =>
    if p2 = 0 then
      (f_X0_turnOf v_t_house_scribes g_t_house_turn p1).bind fun q4 =>
      some q4
    else
    if p2 = 1 then
      (f_X0_bentOf v_t_house_scribes g_t_house_bent p1).bind fun q5 =>
      some q5
    else
    if p2 = 2 then
      (f_X6_isReleased v_t_standing_known g_t_standing_rows p1).bind fun q6 =>
      if q6 = 0 then
        some (0 : Int32)
      else
        some (1 : Int32)
    else
    if p2 = 3 then
      (f_X6_timesOf v_t_standing_known g_t_standing_rows p1).bind fun q8 =>
      some q8
    else
    if p2 = 4 then
      (f_X0_unlikeLines v_t_house_opinions v_t_house_lines v_t_house_scribes g_t_house_turn g_t_house_bent p1 q3).bind fun q9 =>
      some q9
    else
    if p2 = 5 then
      (f_X0_isConvinced v_t_house_opinions v_t_house_lines v_t_house_scribes v_t_house_need g_t_house_turn g_t_house_bent p1 q3).bind fun q10 =>
      if q10 = 0 then
        some (0 : Int32)
      else
        some (1 : Int32)
    else
    if p2 = 6 then
      (f_X0_comesRound v_t_house_opinions v_t_house_lines v_t_house_books v_t_house_scribes g_t_house_turn g_t_house_bent p1 q3).bind fun q12 =>
      some q12
    else
    some (-1 : Int32)
def f_X8_says (v_t_house_opinions : Int32) (v_t_house_scribes : Int32) (g_t_house_turn : Nat → Int32) (g_t_house_bent : Nat → Int32) (p1 : Int32) (p2 : Int32) : Option (Int32) :=
  (f_X0_hasScribe v_t_house_scribes p1).bind fun q1 =>
  if q1 = 0 then
    some (-1 : Int32)
  else
    (f_X0_hasOpinion v_t_house_opinions p2).bind fun q3 =>
    if q3 = 0 then
      some (-1 : Int32)
    else
      (f_X0_saidBy v_t_house_opinions v_t_house_scribes g_t_house_turn g_t_house_bent p1 p2).bind fun q5 =>
      some q5
def f_X8_copies (v_t_house_opinions : Int32) (v_t_house_lines : Int32) (v_t_house_scribes : Int32) (v_t_house_need : Int32) (g_t_house_turn : Nat → Int32) (g_t_house_bent : Nat → Int32) (v_t_standing_known : Int32) (g_t_standing_rows : Nat → Nat → Int32) (p1 : Int32) : Option (Int32 × Int32 × (Nat → Nat → Int32)) :=
  (f_X0_hasScribe v_t_house_scribes p1).bind fun q1 =>
  if q1 = 0 then
    some ((-1 : Int32), v_t_standing_known, g_t_standing_rows)
  else
    (f_X6_book v_t_standing_known g_t_standing_rows).bind fun q3 =>
    (f_X6_isReleased v_t_standing_known g_t_standing_rows p1).bind fun q4 =>
    if q4 = 0 then
      (f_X0_isConvinced v_t_house_opinions v_t_house_lines v_t_house_scribes v_t_house_need g_t_house_turn g_t_house_bent p1 q3).bind fun q6 =>
      if q6 = 0 then
        (f_X6_copiesNow v_t_standing_known g_t_standing_rows).bind fun q8 =>
        if q8 < (999 : Int32) then
          (f_X6_remember v_t_standing_known g_t_standing_rows).bind fun q10 =>
          (f_X0_becomes v_t_house_opinions v_t_house_lines v_t_house_scribes g_t_house_turn g_t_house_bent p1 q3).bind fun q11 =>
          (f_X6_copied q10.1 q10.2 p1 q11).bind fun q12 =>
          (f_X6_copiesNow q10.1 q12).bind fun q13 =>
          some (q13, q10.1, q12)
        else
          some ((-2 : Int32), v_t_standing_known, g_t_standing_rows)
      else
        some ((-2 : Int32), v_t_standing_known, g_t_standing_rows)
    else
      some ((-2 : Int32), v_t_standing_known, g_t_standing_rows)
def f_X8_errs (v_t_house_opinions : Int32) (v_t_house_lines : Int32) (v_t_standing_known : Int32) (g_t_standing_rows : Nat → Nat → Int32) (p1 : Int32) (p2 : Int32) : Option (Int32 × Int32 × (Nat → Nat → Int32)) :=
  (f_X0_hasLine v_t_house_lines p1).bind fun q1 =>
  if q1 = 0 then
    some ((-1 : Int32), v_t_standing_known, g_t_standing_rows)
  else
    (f_X0_hasOpinion v_t_house_opinions p2).bind fun q3 =>
    if q3 = 0 then
      some ((-1 : Int32), v_t_standing_known, g_t_standing_rows)
    else
      (f_X6_book v_t_standing_known g_t_standing_rows).bind fun q5 =>
      (f_X0_lineOf v_t_house_opinions v_t_house_lines q5 p1).bind fun q6 =>
      if q6 = p2 then
        some ((-2 : Int32), v_t_standing_known, g_t_standing_rows)
      else
        (f_X6_remember v_t_standing_known g_t_standing_rows).bind fun q8 =>
        (f_X0_withLine v_t_house_opinions v_t_house_lines q5 p1 p2).bind fun q9 =>
        (f_X6_setBook q8.1 q8.2 q9).bind fun q10 =>
        some (q6, q8.1, q10)
def f_X8_releases (v_t_house_scribes : Int32) (v_t_standing_known : Int32) (g_t_standing_rows : Nat → Nat → Int32) (p1 : Int32) (p2 : Int32) : Option (Int32 × Int32 × (Nat → Nat → Int32)) :=
  (f_X0_hasScribe v_t_house_scribes p1).bind fun q1 =>
  if q1 = 0 then
    some ((-1 : Int32), v_t_standing_known, g_t_standing_rows)
  else
    if p2 < 0 then
      some ((-1 : Int32), v_t_standing_known, g_t_standing_rows)
    else
      if p2 ≤ (1 : Int32) then
        (f_X6_isReleased v_t_standing_known g_t_standing_rows p1).bind fun q5 =>
        if p2 = (1 : Int32) then
          if q5 = (1 : Int32) then
            some ((-2 : Int32), v_t_standing_known, g_t_standing_rows)
          else
            (f_X6_remember v_t_standing_known g_t_standing_rows).bind fun q13 =>
            (f_X6_turnReleased q13.1 q13.2 p1).bind fun q14 =>
            (f_X6_released q13.1 q14).bind fun q15 =>
            (f_J6_bitCount_0f7a4 q15).bind fun q16 =>
            some (q16, q13.1, q14)
        else
          if q5 = (0 : Int32) then
            some ((-2 : Int32), v_t_standing_known, g_t_standing_rows)
          else
            (f_X6_remember v_t_standing_known g_t_standing_rows).bind fun q8 =>
            (f_X6_turnReleased q8.1 q8.2 p1).bind fun q9 =>
            (f_X6_released q8.1 q9).bind fun q10 =>
            (f_J6_bitCount_0f7a4 q10).bind fun q11 =>
            some (q11, q8.1, q9)
      else
        some ((-1 : Int32), v_t_standing_known, g_t_standing_rows)
def f_X8_aims (v_t_target : Int32) (v_t_house_opinions : Int32) (v_t_house_lines : Int32) (p1 : Int32) (p2 : Int32) : Option (Int32 × Int32) :=
  (f_X0_hasLine v_t_house_lines p1).bind fun q1 =>
  if q1 = 0 then
    some ((-1 : Int32), v_t_target)
  else
    (f_X0_hasOpinion v_t_house_opinions p2).bind fun q3 =>
    if q3 = 0 then
      some ((-1 : Int32), v_t_target)
    else
      (f_X0_lineOf v_t_house_opinions v_t_house_lines v_t_target p1).bind fun q5 =>
      (f_X0_withLine v_t_house_opinions v_t_house_lines v_t_target p1 p2).bind fun q6 =>
      some (q5, q6)
def f_X8_undo (v_t_standing_known : Int32) : Option (Int32 × Int32) :=
  (f_X6_takeBack v_t_standing_known).bind fun q1 =>
  if q1.1 = 0 then
    some ((-2 : Int32), q1.2)
  else
    some (q1.2, q1.2)
def b_X8_convinced_4 (v_t_house_opinions : Int32) (v_t_house_lines : Int32) (v_t_house_scribes : Int32) (v_t_house_need : Int32) (g_t_house_turn : Nat → Int32) (g_t_house_bent : Nat → Int32) (v_t_standing_known : Int32) (g_t_standing_rows : Nat → Nat → Int32) (z : Int32 × Int32) : Option ((Int32 × Int32) ⊕ (Int32)) :=
  if v_t_house_scribes ≤ z.2 then
    some (.inr z.1)
  else
    (f_X6_book v_t_standing_known g_t_standing_rows).bind fun q2 =>
    (f_X0_isConvinced v_t_house_opinions v_t_house_lines v_t_house_scribes v_t_house_need g_t_house_turn g_t_house_bent z.2 q2).bind fun q3 =>
    if q3 = 0 then
      some (.inl (z.1, z.2 + (1 : Int32)))
    else
      some (.inl (z.1 ||| (jshl (1 : Int32) z.2), z.2 + (1 : Int32)))
def f_X8_convinced (v_t_house_opinions : Int32) (v_t_house_lines : Int32) (v_t_house_scribes : Int32) (v_t_house_need : Int32) (g_t_house_turn : Nat → Int32) (g_t_house_bent : Nat → Int32) (v_t_standing_known : Int32) (g_t_standing_rows : Nat → Nat → Int32) : Option (Int32) :=
  lpF (b_X8_convinced_4 v_t_house_opinions v_t_house_lines v_t_house_scribes v_t_house_need g_t_house_turn g_t_house_bent v_t_standing_known g_t_standing_rows) FU ((0 : Int32), (0 : Int32))
def f_X8_now (v_t_house_opinions : Int32) (v_t_house_lines : Int32) (v_t_house_scribes : Int32) (v_t_house_need : Int32) (g_t_house_turn : Nat → Int32) (g_t_house_bent : Nat → Int32) (v_t_standing_known : Int32) (g_t_standing_rows : Nat → Nat → Int32) (v_t_ways_laws_scribes : Int32) (v_t_ways_laws_books : Int32) (g_t_ways_laws_made : Nat → Int32) (v_t_margins_size : Int32) (g_t_margins_of : Nat → Int32) (g_t_margins_said : Nat → Int32) (p1 : Int32) : Option (Int32) :=
  if p1 = 0 then
    (f_X6_copiesNow v_t_standing_known g_t_standing_rows).bind fun q1 =>
    some q1
  else
  if p1 = 1 then
    (f_X6_released v_t_standing_known g_t_standing_rows).bind fun q2 =>
    some q2
  else
  if p1 = 2 then
    (f_X8_convinced v_t_house_opinions v_t_house_lines v_t_house_scribes v_t_house_need g_t_house_turn g_t_house_bent v_t_standing_known g_t_standing_rows).bind fun q3 =>
    some q3
  else
  if p1 = 3 then
    (f_X6_book v_t_standing_known g_t_standing_rows).bind fun q4 =>
    (f_X7_lastCopiers v_t_ways_laws_scribes v_t_ways_laws_books g_t_ways_laws_made q4).bind fun q5 =>
    some q5
  else
  if p1 = 4 then
    (f_X6_book v_t_standing_known g_t_standing_rows).bind fun q6 =>
    (f_X7_sameLines v_t_ways_laws_scribes v_t_ways_laws_books g_t_ways_laws_made v_t_house_opinions v_t_house_lines q6).bind fun q7 =>
    some q7
  else
  if p1 = 5 then
    (f_X2_fittingScribes v_t_margins_size g_t_margins_of g_t_margins_said v_t_house_opinions v_t_house_scribes g_t_house_turn g_t_house_bent).bind fun q8 =>
    some q8
  else
  some (-1 : Int32)
def f_X8_bought (v_t_house_scribes : Int32) (v_t_standing_known : Int32) (g_t_standing_rows : Nat → Nat → Int32) : Option (Int32) :=
  (f_X0_allScribes v_t_house_scribes).bind fun q1 =>
  (f_X6_released v_t_standing_known g_t_standing_rows).bind fun q2 =>
  some (q1 &&& (q2 ^^^ (-1 : Int32)))
def f_X8_behind (v_t_house_opinions : Int32) (v_t_house_lines : Int32) (v_t_house_scribes : Int32) (v_t_standing_known : Int32) (g_t_standing_rows : Nat → Nat → Int32) (v_t_rounds_book : Int32) (v_t_rounds_copies : Int32) (v_t_rounds_ender : Int32) (v_t_rounds_goesOn : Int32) (v_t_rounds_laws_scribes : Int32) (v_t_rounds_laws_books : Int32) (g_t_rounds_laws_made : Nat → Int32) (p1 : Int32) (p2 : Int32) : Option (Int32 × Int32 × Int32 × Int32 × Int32) :=
  if p1 < 0 then
    some ((-1 : Int32), v_t_rounds_book, v_t_rounds_copies, v_t_rounds_ender, v_t_rounds_goesOn)
  else
    if (99 : Int32) < p1 then
      some ((-1 : Int32), v_t_rounds_book, v_t_rounds_copies, v_t_rounds_ender, v_t_rounds_goesOn)
    else
      (f_X0_hasLine v_t_house_lines p2).bind fun q3 =>
      if q3 = 0 then
        some ((-1 : Int32), v_t_rounds_book, v_t_rounds_copies, v_t_rounds_ender, v_t_rounds_goesOn)
      else
        (f_X6_book v_t_standing_known g_t_standing_rows).bind fun q5 =>
        (f_X8_bought v_t_house_scribes v_t_standing_known g_t_standing_rows).bind fun q6 =>
        (f_X5_run v_t_rounds_laws_scribes v_t_rounds_laws_books g_t_rounds_laws_made q5 q6 p1).bind fun q7 =>
        (f_X0_lineOf v_t_house_opinions v_t_house_lines q7.1 p2).bind fun q8 =>
        some (q8, q7.1, q7.2.1, q7.2.2.1, q7.2.2.2)
def f_X8_ends (v_t_house_scribes : Int32) (v_t_standing_known : Int32) (g_t_standing_rows : Nat → Nat → Int32) (v_t_rounds_book : Int32) (v_t_rounds_copies : Int32) (v_t_rounds_ender : Int32) (v_t_rounds_goesOn : Int32) (v_t_rounds_laws_scribes : Int32) (v_t_rounds_laws_books : Int32) (g_t_rounds_laws_made : Nat → Int32) (p1 : Int32) : Option (Int32 × Int32 × Int32 × Int32 × Int32) :=
  if p1 < 0 then
    some ((-1 : Int32), v_t_rounds_book, v_t_rounds_copies, v_t_rounds_ender, v_t_rounds_goesOn)
  else
    if p1 ≤ (1 : Int32) then
      (f_X6_book v_t_standing_known g_t_standing_rows).bind fun q3 =>
      (f_X8_bought v_t_house_scribes v_t_standing_known g_t_standing_rows).bind fun q4 =>
      (f_X5_runToEnd v_t_rounds_laws_scribes v_t_rounds_laws_books g_t_rounds_laws_made q3 q4).bind fun q5 =>
      if p1 = 0 then
        some (q5.2.2.1, q5.1, q5.2.1, q5.2.2.1, q5.2.2.2)
      else
        if q5.2.2.2 = 0 then
          some (q5.2.1, q5.1, q5.2.1, q5.2.2.1, q5.2.2.2)
        else
          some ((-9 : Int32), q5.1, q5.2.1, q5.2.2.1, q5.2.2.2)
    else
      some ((-1 : Int32), v_t_rounds_book, v_t_rounds_copies, v_t_rounds_ender, v_t_rounds_goesOn)
def f_X8_lasts (v_t_house_lines : Int32) (v_t_house_scribes : Int32) (v_t_standing_known : Int32) (g_t_standing_rows : Nat → Nat → Int32) (v_t_rounds_book : Int32) (v_t_rounds_copies : Int32) (v_t_rounds_ender : Int32) (v_t_rounds_goesOn : Int32) (v_t_rounds_laws_scribes : Int32) (v_t_rounds_laws_books : Int32) (g_t_rounds_laws_made : Nat → Int32) (p1 : Int32) : Option (Int32 × Int32 × Int32 × Int32 × Int32) :=
  if p1 < 0 then
    some ((-1 : Int32), v_t_rounds_book, v_t_rounds_copies, v_t_rounds_ender, v_t_rounds_goesOn)
  else
    if p1 ≤ (1 : Int32) then
      if v_t_house_lines = 0 then
        some ((-9 : Int32), v_t_rounds_book, v_t_rounds_copies, v_t_rounds_ender, v_t_rounds_goesOn)
      else
        (f_X8_bought v_t_house_scribes v_t_standing_known g_t_standing_rows).bind fun q4 =>
        if q4 = 0 then
          some ((-9 : Int32), v_t_rounds_book, v_t_rounds_copies, v_t_rounds_ender, v_t_rounds_goesOn)
        else
          (f_X8_bought v_t_house_scribes v_t_standing_known g_t_standing_rows).bind fun q6 =>
          (f_X5_longestBook v_t_rounds_book v_t_rounds_copies v_t_rounds_ender v_t_rounds_goesOn v_t_rounds_laws_scribes v_t_rounds_laws_books g_t_rounds_laws_made q6).bind fun q7 =>
          if q7.1 = (-9 : Int32) then
            some (q7.1, q7.2.1, q7.2.2.1, q7.2.2.2.1, q7.2.2.2.2)
          else
            if p1 = 0 then
              some (q7.1, q7.2.1, q7.2.2.1, q7.2.2.2.1, q7.2.2.2.2)
            else
              (f_X8_bought v_t_house_scribes v_t_standing_known g_t_standing_rows).bind fun q10 =>
              (f_X5_runToEnd v_t_rounds_laws_scribes v_t_rounds_laws_books g_t_rounds_laws_made q7.1 q10).bind fun q11 =>
              some (q11.2.1, q11.1, q11.2.1, q11.2.2.1, q11.2.2.2)
    else
      some ((-1 : Int32), v_t_rounds_book, v_t_rounds_copies, v_t_rounds_ender, v_t_rounds_goesOn)
def f_X8_buy (v_t_house_scribes : Int32) (v_t_standing_known : Int32) (g_t_standing_rows : Nat → Nat → Int32) (v_t_rounds_book : Int32) (v_t_rounds_copies : Int32) (v_t_rounds_ender : Int32) (v_t_rounds_goesOn : Int32) (v_t_rounds_laws_scribes : Int32) (v_t_rounds_laws_books : Int32) (g_t_rounds_laws_made : Nat → Int32) (p1 : Int32) : Option (Int32 × Int32 × Int32 × Int32 × Int32) :=
  if p1 < (1 : Int32) then
    some ((-1 : Int32), v_t_rounds_book, v_t_rounds_copies, v_t_rounds_ender, v_t_rounds_goesOn)
  else
    if p1 ≤ (99 : Int32) then
      (f_X6_book v_t_standing_known g_t_standing_rows).bind fun q3 =>
      (f_X8_bought v_t_house_scribes v_t_standing_known g_t_standing_rows).bind fun q4 =>
      (f_X6_released v_t_standing_known g_t_standing_rows).bind fun q5 =>
      (f_X5_fewestToBuy v_t_rounds_book v_t_rounds_copies v_t_rounds_ender v_t_rounds_goesOn v_t_rounds_laws_scribes v_t_rounds_laws_books g_t_rounds_laws_made q3 q4 q5 p1).bind fun q6 =>
      some (q6.1, q6.2.1, q6.2.2.1, q6.2.2.2.1, q6.2.2.2.2)
    else
      some ((-1 : Int32), v_t_rounds_book, v_t_rounds_copies, v_t_rounds_ender, v_t_rounds_goesOn)
def b_X8_commonDivisor_7 (z : Int32 × Int32 × Int32) : Option ((Int32 × Int32 × Int32) ⊕ (Int32)) :=
  if (10 : Int32) < z.2.2 then
    some (.inr z.1)
  else
    if z.2.1 = 0 then
      some (.inr z.1)
    else
      if z.2.1 = 0 then none else
      some (.inl (z.2.1, jrem z.1 z.2.1, z.2.2 + (1 : Int32)))
def f_X8_commonDivisor (p0 : Int32) (p1 : Int32) : Option (Int32) :=
  lpF b_X8_commonDivisor_7 FU (p0, p1, (0 : Int32))
def b_X8_power_4 (x0 : Int32) (x1 : Int32) (z : Int32 × Int32) : Option ((Int32 × Int32) ⊕ (Int32)) :=
  if x1 ≤ z.2 then
    some (.inr z.1)
  else
    some (.inl (z.1 * x0, z.2 + (1 : Int32)))
def f_X8_power (p0 : Int32) (p1 : Int32) : Option (Int32) :=
  lpF (b_X8_power_4 p0 p1) FU ((1 : Int32), (0 : Int32))
def f_X8_odds (v_t_house_scribes : Int32) (v_t_standing_known : Int32) (g_t_standing_rows : Nat → Nat → Int32) (v_t_rounds_book : Int32) (v_t_rounds_copies : Int32) (v_t_rounds_ender : Int32) (v_t_rounds_goesOn : Int32) (v_t_rounds_laws_scribes : Int32) (v_t_rounds_laws_books : Int32) (g_t_rounds_laws_made : Nat → Int32) (p1 : Int32) (p2 : Int32) (p3 : Int32) : Option (Int32 × Int32 × Int32 × Int32 × Int32) :=
  if p1 < 0 then
    some ((-1 : Int32), v_t_rounds_book, v_t_rounds_copies, v_t_rounds_ender, v_t_rounds_goesOn)
  else
    if (10 : Int32) < p1 then
      some ((-1 : Int32), v_t_rounds_book, v_t_rounds_copies, v_t_rounds_ender, v_t_rounds_goesOn)
    else
      if p2 < 0 then
        some ((-1 : Int32), v_t_rounds_book, v_t_rounds_copies, v_t_rounds_ender, v_t_rounds_goesOn)
      else
        if (9 : Int32) < p2 then
          some ((-1 : Int32), v_t_rounds_book, v_t_rounds_copies, v_t_rounds_ender, v_t_rounds_goesOn)
        else
          if p3 < 0 then
            some ((-1 : Int32), v_t_rounds_book, v_t_rounds_copies, v_t_rounds_ender, v_t_rounds_goesOn)
          else
            if p3 ≤ (1 : Int32) then
              (f_X6_book v_t_standing_known g_t_standing_rows).bind fun q7 =>
              (f_X8_bought v_t_house_scribes v_t_standing_known g_t_standing_rows).bind fun q8 =>
              (f_X5_reaches v_t_rounds_laws_scribes v_t_rounds_laws_books g_t_rounds_laws_made q7 q8 p2).bind fun q9 =>
              if q9.1 = 0 then
                if p3 = 0 then
                  some ((0 : Int32), q9.2.1, q9.2.2.1, q9.2.2.2.1, q9.2.2.2.2)
                else
                  some ((1 : Int32), q9.2.1, q9.2.2.1, q9.2.2.2.1, q9.2.2.2.2)
              else
                (f_X8_commonDivisor (10 : Int32) ((10 : Int32) - p1)).bind fun q11 =>
                if (1 : Int32) ≤ q11 then
                  if p3 = 0 then
                    if q11 = 0 then none else
                    (f_X8_power (((10 : Int32) - p1) / q11) p2).bind fun q17 =>
                    some (q17, q9.2.1, q9.2.2.1, q9.2.2.2.1, q9.2.2.2.2)
                  else
                    if q11 = 0 then none else
                    (f_X8_power ((10 : Int32) / q11) p2).bind fun q15 =>
                    some (q15, q9.2.1, q9.2.2.1, q9.2.2.2.1, q9.2.2.2.2)
                else
                  some ((-1 : Int32), q9.2.1, q9.2.2.1, q9.2.2.2.1, q9.2.2.2.2)
            else
              some ((-1 : Int32), v_t_rounds_book, v_t_rounds_copies, v_t_rounds_ender, v_t_rounds_goesOn)
def f_X8_way (v_t_target : Int32) (v_t_house_scribes : Int32) (v_t_standing_known : Int32) (g_t_standing_rows : Nat → Nat → Int32) (v_t_ways_queued : Int32) (v_t_ways_laws_scribes : Int32) (v_t_ways_laws_books : Int32) (g_t_ways_laws_made : Nat → Int32) (g_t_ways_distance : Nat → Int32) (g_t_ways_before : Nat → Int32) (g_t_ways_lastScribe : Nat → Int32) (g_t_ways_queue : Nat → Int32) (p1 : Int32) : Option (Int32 × Int32 × (Nat → Int32) × (Nat → Int32) × (Nat → Int32) × (Nat → Int32)) :=
  if (-1 : Int32) ≤ p1 then
    (f_X6_book v_t_standing_known g_t_standing_rows).bind fun q2 =>
    (f_X8_bought v_t_house_scribes v_t_standing_known g_t_standing_rows).bind fun q3 =>
    (f_X7_search v_t_ways_laws_scribes v_t_ways_laws_books g_t_ways_laws_made g_t_ways_distance g_t_ways_before g_t_ways_lastScribe g_t_ways_queue q2 q3 v_t_target).bind fun q4 =>
    if p1 = (-1 : Int32) then
      (f_X7_fewestCopies q4.2.1 v_t_target).bind fun q7 =>
      some (q7, q4.1, q4.2.1, q4.2.2.1, q4.2.2.2.1, q4.2.2.2.2)
    else
      (f_X7_scribeOfCopy q4.2.1 q4.2.2.1 q4.2.2.2.1 v_t_target p1).bind fun q6 =>
      some (q6, q4.1, q4.2.1, q4.2.2.1, q4.2.2.2.1, q4.2.2.2.2)
  else
    some ((-1 : Int32), v_t_ways_queued, g_t_ways_distance, g_t_ways_before, g_t_ways_lastScribe, g_t_ways_queue)
def f_X8_from (v_t_house_scribes : Int32) (v_t_standing_known : Int32) (g_t_standing_rows : Nat → Nat → Int32) (v_t_ways_laws_scribes : Int32) (v_t_ways_laws_books : Int32) (g_t_ways_laws_made : Nat → Int32) (p1 : Int32) : Option (Int32) :=
  (f_X0_hasScribe v_t_house_scribes p1).bind fun q1 =>
  if q1 = 0 then
    some (-1 : Int32)
  else
    (f_X6_book v_t_standing_known g_t_standing_rows).bind fun q3 =>
    (f_X7_countBefore v_t_ways_laws_scribes v_t_ways_laws_books g_t_ways_laws_made p1 q3).bind fun q4 =>
    some q4
def f_X8_saw (v_t_house_opinions : Int32) (v_t_margins_size : Int32) (g_t_margins_of : Nat → Int32) (g_t_margins_said : Nat → Int32) (p1 : Int32) (p2 : Int32) : Option (Int32 × Int32 × (Nat → Int32) × (Nat → Int32)) :=
  (f_X0_hasOpinion v_t_house_opinions p1).bind fun q1 =>
  if q1 = 0 then
    some ((-1 : Int32), v_t_margins_size, g_t_margins_of, g_t_margins_said)
  else
    (f_X0_hasOpinion v_t_house_opinions p2).bind fun q3 =>
    if q3 = 0 then
      some ((-1 : Int32), v_t_margins_size, g_t_margins_of, g_t_margins_said)
    else
      (f_X2_add v_t_margins_size g_t_margins_of g_t_margins_said p1 p2).bind fun q5 =>
      if q5.1 = 0 then
        some ((-3 : Int32), q5.2.1, q5.2.2.1, q5.2.2.2)
      else
        some (q5.2.1, q5.2.1, q5.2.2.1, q5.2.2.2)
def f_X8_forget (v_t_margins_size : Int32) : Option (Int32 × Int32) :=
  (f_X2_empty v_t_margins_size).bind fun q1 =>
  some (q1.1, q1.2)
def f_X8_fit (v_t_house_opinions : Int32) (v_t_margins_size : Int32) (g_t_margins_of : Nat → Int32) (g_t_margins_said : Nat → Int32) (p1 : Int32) : Option (Int32) :=
  if p1 = 0 then
    (f_X2_countFits v_t_margins_size g_t_margins_of g_t_margins_said v_t_house_opinions).bind fun q1 =>
    some q1
  else
  if p1 = 1 then
    (f_X2_firstFit v_t_margins_size g_t_margins_of g_t_margins_said v_t_house_opinions).bind fun q2 =>
    some q2
  else
  if p1 = 2 then
    (f_X2_mostTelling v_t_margins_size g_t_margins_of g_t_margins_said v_t_house_opinions).bind fun q3 =>
    some q3
  else
  some (-1 : Int32)
def f_X8_mark (v_t_house_opinions : Int32) (v_t_house_lines : Int32) (v_t_house_scribes : Int32) (g_t_house_turn : Nat → Int32) (g_t_house_bent : Nat → Int32) (v_t_standing_known : Int32) (g_t_standing_rows : Nat → Nat → Int32) (v_t_marks_unlike : Int32) (v_t_marks_turn : Int32) (v_t_marks_bent : Int32) (v_t_marks_times : Int32) (v_t_marks_copies : Int32) (v_t_marks_traced : Int64) (p1 : Int32) (p2 : Int32) : Option (Int32 × Int32 × Int32 × Int32 × Int32 × Int32 × Int64) :=
  (f_X3_isKind p1).bind fun q1 =>
  if q1 = 0 then
    some ((-1000000 : Int32), v_t_marks_unlike, v_t_marks_turn, v_t_marks_bent, v_t_marks_times, v_t_marks_copies, v_t_marks_traced)
  else
    (f_X0_hasScribe v_t_house_scribes p2).bind fun q3 =>
    if q3 = 0 then
      some ((-1000000 : Int32), v_t_marks_unlike, v_t_marks_turn, v_t_marks_bent, v_t_marks_times, v_t_marks_copies, v_t_marks_traced)
    else
      (f_X6_book v_t_standing_known g_t_standing_rows).bind fun q5 =>
      (f_X0_unlikeLines v_t_house_opinions v_t_house_lines v_t_house_scribes g_t_house_turn g_t_house_bent p2 q5).bind fun q6 =>
      (f_J6_bitCount_0f7a4 q6).bind fun q7 =>
      (f_X0_turnOf v_t_house_scribes g_t_house_turn p2).bind fun q8 =>
      (f_X0_bentOf v_t_house_scribes g_t_house_bent p2).bind fun q9 =>
      (f_X6_timesOf v_t_standing_known g_t_standing_rows p2).bind fun q10 =>
      (f_X6_copiesNow v_t_standing_known g_t_standing_rows).bind fun q11 =>
      (f_X3_ask 8 q7 q8 q9 q10 q11 v_t_marks_traced p1 (0 : Int32)).bind fun q12 =>
      some (q12.1, q7, q8, q9, q10, q11, q12.2)
def f_X8_keep (v_t_keptZero : Int32) (v_t_keptOne : Int32) (v_t_standing_known : Int32) (g_t_standing_rows : Nat → Nat → Int32) (v_t_imageZero_known : Int32) (g_t_imageZero_rows : Nat → Nat → Int32) (v_t_imageOne_known : Int32) (g_t_imageOne_rows : Nat → Nat → Int32) (p1 : Int32) : Option (Int32 × Int32 × Int32 × Int32 × (Nat → Nat → Int32) × Int32 × (Nat → Nat → Int32)) :=
  if p1 = 0 then
    (f_X6_become g_t_imageZero_rows v_t_standing_known g_t_standing_rows).bind fun q5 =>
    (f_X6_copiesNow v_t_standing_known g_t_standing_rows).bind fun q6 =>
    some (q6, (1 : Int32), v_t_keptOne, q5.1, q5.2, v_t_imageOne_known, g_t_imageOne_rows)
  else
    if p1 = (1 : Int32) then
      (f_X6_become g_t_imageOne_rows v_t_standing_known g_t_standing_rows).bind fun q3 =>
      (f_X6_copiesNow v_t_standing_known g_t_standing_rows).bind fun q4 =>
      some (q4, v_t_keptZero, (1 : Int32), v_t_imageZero_known, g_t_imageZero_rows, q3.1, q3.2)
    else
      some ((-1 : Int32), v_t_keptZero, v_t_keptOne, v_t_imageZero_known, g_t_imageZero_rows, v_t_imageOne_known, g_t_imageOne_rows)
def f_X8_back (v_t_keptZero : Int32) (v_t_keptOne : Int32) (v_t_standing_known : Int32) (g_t_standing_rows : Nat → Nat → Int32) (v_t_imageZero_known : Int32) (g_t_imageZero_rows : Nat → Nat → Int32) (v_t_imageOne_known : Int32) (g_t_imageOne_rows : Nat → Nat → Int32) (p1 : Int32) : Option (Int32 × Int32 × (Nat → Nat → Int32)) :=
  if p1 < 0 then
    some ((-1 : Int32), v_t_standing_known, g_t_standing_rows)
  else
    if p1 ≤ (1 : Int32) then
      if p1 = 0 then
        if v_t_keptZero = 0 then
          some ((-2 : Int32), v_t_standing_known, g_t_standing_rows)
        else
          if p1 = 0 then
            (f_X6_become g_t_standing_rows v_t_imageZero_known g_t_imageZero_rows).bind fun q14 =>
            (f_X6_copiesNow q14.1 q14.2).bind fun q15 =>
            some (q15, q14.1, q14.2)
          else
            (f_X6_become g_t_standing_rows v_t_imageOne_known g_t_imageOne_rows).bind fun q12 =>
            (f_X6_copiesNow q12.1 q12.2).bind fun q13 =>
            some (q13, q12.1, q12.2)
      else
        if v_t_keptOne = 0 then
          some ((-2 : Int32), v_t_standing_known, g_t_standing_rows)
        else
          if p1 = 0 then
            (f_X6_become g_t_standing_rows v_t_imageZero_known g_t_imageZero_rows).bind fun q8 =>
            (f_X6_copiesNow q8.1 q8.2).bind fun q9 =>
            some (q9, q8.1, q8.2)
          else
            (f_X6_become g_t_standing_rows v_t_imageOne_known g_t_imageOne_rows).bind fun q6 =>
            (f_X6_copiesNow q6.1 q6.2).bind fun q7 =>
            some (q7, q6.1, q6.2)
    else
      some ((-1 : Int32), v_t_standing_known, g_t_standing_rows)
def f_X8_count (v_t_house_opinions : Int32) (v_t_house_lines : Int32) (v_t_house_scribes : Int32) (v_t_house_need : Int32) (v_t_reader_length : Int32) (v_t_standing_known : Int32) (v_t_margins_size : Int32) (p1 : Int32) : Option (Int32) :=
  if p1 = 0 then
    some v_t_house_opinions
  else
  if p1 = 1 then
    some v_t_house_lines
  else
  if p1 = 2 then
    some v_t_house_scribes
  else
  if p1 = 3 then
    some v_t_house_need
  else
  if p1 = 4 then
    some v_t_margins_size
  else
  if p1 = 5 then
    some v_t_standing_known
  else
  if p1 = 6 then
    some v_t_reader_length
  else
  some (-1 : Int32)
def f_X8_trace (v_t_marks_traced : Int64) : Option (Int64) :=
  some v_t_marks_traced
