/-! the pure functions of X9 -/
def f_X9_in (p0 : Int32) (p1 : Int32) (p2 : Int32) : Option (Int32) :=
  if p0 < p1 then
    some (0 : Int32)
  else
    if p2 < p0 then
      some (0 : Int32)
    else
      some (1 : Int32)
def f_X9_type (v_t_typed : Int32) (g_t_text : Nat → Int32) (p1 : Int32) : Option (Int32 × Int32 × (Nat → Int32)) :=
  (f_X9_in p1 (0 : Int32) (255 : Int32)).bind fun q1 =>
  if q1 = 0 then
    some ((-1 : Int32), v_t_typed, g_t_text)
  else
    if v_t_typed = (120 : Int32) then
      some ((-3 : Int32), v_t_typed, g_t_text)
    else
      if (v_t_typed < 0 ∨ 120 ≤ v_t_typed.toNatClampNeg) then none else
      some (v_t_typed + (1 : Int32), v_t_typed + (1 : Int32), upd g_t_text v_t_typed.toNatClampNeg (vp_nar .byte p1.toInt8.toInt32))
def f_X9_clear (v_t_typed : Int32) : Option (Int32 × Int32) :=
  some (v_t_typed, (0 : Int32))
def f_X9_here (v_t_typed : Int32) (v_t_at : Int32) (g_t_text : Nat → Int32) : Option (Int32) :=
  if v_t_typed ≤ v_t_at then
    some (-1 : Int32)
  else
    if (v_t_at < 0 ∨ 120 ≤ v_t_at.toNatClampNeg) then none else
    some ((g_t_text v_t_at.toNatClampNeg) &&& (255 : Int32))
def b_X9_step_126 (v_t_typed : Int32) (v_t_start : Int32) (g_t_text : Nat → Int32) (x1 : Int32) (z : Int32 × Int32) : Option ((Int32 × Int32) ⊕ (Int32 × Int32 × Int32 × Int32)) :=
  (f_X9_here v_t_typed z.1 g_t_text).bind fun q10 =>
  (f_X9_in q10 (48 : Int32) (57 : Int32)).bind fun q11 =>
  if q11 = 0 then
    if (99 : Int32) < z.2 then
      some (.inr (z.1, v_t_start, (4 : Int32), z.2))
    else
      if x1 = (48 : Int32) then
        if (z.1 - v_t_start) ≤ (1 : Int32) then
          some (.inr (z.1, v_t_start, (1 : Int32), z.2))
        else
          some (.inr (z.1, v_t_start, (4 : Int32), z.2))
      else
        some (.inr (z.1, v_t_start, (1 : Int32), z.2))
  else
    if z.2 ≤ (99 : Int32) then
      (f_X9_here v_t_typed z.1 g_t_text).bind fun q17 =>
      some (.inl (z.1 + (1 : Int32), (((10 : Int32) * z.2) + q17) - (48 : Int32)))
    else
      some (.inl (z.1 + (1 : Int32), z.2))
def b_X9_step_63 (v_t_typed : Int32) (v_t_start : Int32) (v_t_value : Int32) (g_t_text : Nat → Int32) (x1 : Int32) (z : Int32) : Option ((Int32) ⊕ (Int32 × Int32 × Int32 × Int32)) :=
  (f_X9_here v_t_typed z g_t_text).bind fun q18 =>
  (f_X9_in q18 (97 : Int32) (122 : Int32)).bind fun q19 =>
  if q19 = 0 then
    if (z - v_t_start) = (1 : Int32) then
      some (.inr (z, v_t_start, x1, v_t_value))
    else
      some (.inr (z, v_t_start, (4 : Int32), v_t_value))
  else
    some (.inl (z + (1 : Int32)))
def b_X9_step_0 (v_t_typed : Int32) (g_t_text : Nat → Int32) (z : Int32) : Option ((Int32) ⊕ (Int32 × Int32 × Int32 × Int32)) :=
  (f_X9_here v_t_typed z g_t_text).bind fun q1 =>
  if q1 = (32 : Int32) then
    some (.inl (z + (1 : Int32)))
  else
    (f_X9_here v_t_typed z g_t_text).bind fun q3 =>
    if 0 ≤ q3 then
      (f_X9_in q3 (97 : Int32) (122 : Int32)).bind fun q5 =>
      if q5 = 0 then
        (f_X9_in q3 (48 : Int32) (57 : Int32)).bind fun q7 =>
        if q7 = 0 then
          if q3 = (59 : Int32) then
            some (.inr (z + (1 : Int32), z, (2 : Int32), (0 : Int32)))
          else
            some (.inr (z + (1 : Int32), z, (4 : Int32), (0 : Int32)))
        else
          (lpF (b_X9_step_126 v_t_typed z g_t_text q3) FU (z, (0 : Int32))).bind (fun x => some (.inr x))
      else
        (lpF (b_X9_step_63 v_t_typed z (0 : Int32) g_t_text q3) FU z).bind (fun x => some (.inr x))
    else
      some (.inr (z, z, (3 : Int32), (0 : Int32)))
def f_X9_step (v_t_typed : Int32) (v_t_at : Int32) (g_t_text : Nat → Int32) : Option (Int32 × Int32 × Int32 × Int32) :=
  lpF (b_X9_step_0 v_t_typed g_t_text) FU v_t_at
def f_X9_due (v_t_typed : Int32) (v_t_at : Int32) (v_t_start : Int32) (v_t_sort : Int32) (v_t_value : Int32) (v_t_fault : Int32) (g_t_text : Nat → Int32) (p1 : Int32) : Option (Int32 × Int32 × Int32 × Int32 × Int32 × Int32) :=
  if v_t_fault = (-9 : Int32) then
    if p1 = 0 then
      some (v_t_value, v_t_at, v_t_start, v_t_sort, v_t_value, v_t_start)
    else
      (f_X9_step v_t_typed v_t_at g_t_text).bind fun q3 =>
      some (v_t_value, q3.1, q3.2.1, q3.2.2.1, q3.2.2.2, v_t_fault)
  else
    some (v_t_value, v_t_at, v_t_start, v_t_sort, v_t_value, v_t_fault)
def f_X9_number (v_t_typed : Int32) (v_t_at : Int32) (v_t_start : Int32) (v_t_sort : Int32) (v_t_value : Int32) (v_t_fault : Int32) (g_t_text : Nat → Int32) (p1 : Int32) (p2 : Int32) : Option (Int32 × Int32 × Int32 × Int32 × Int32 × Int32) :=
  if v_t_sort = (1 : Int32) then
    (f_X9_in v_t_value p1 p2).bind fun q3 =>
    if q3 = 0 then
      (f_X9_due v_t_typed v_t_at v_t_start v_t_sort v_t_value v_t_fault g_t_text (0 : Int32)).bind fun q5 =>
      some (q5.1, q5.2.1, q5.2.2.1, q5.2.2.2.1, q5.2.2.2.2.1, q5.2.2.2.2.2)
    else
      (f_X9_due v_t_typed v_t_at v_t_start v_t_sort v_t_value v_t_fault g_t_text (1 : Int32)).bind fun q6 =>
      some (q6.1, q6.2.1, q6.2.2.1, q6.2.2.2.1, q6.2.2.2.2.1, q6.2.2.2.2.2)
  else
    (f_X9_due v_t_typed v_t_at v_t_start v_t_sort v_t_value v_t_fault g_t_text (0 : Int32)).bind fun q2 =>
    some (q2.1, q2.2.1, q2.2.2.1, q2.2.2.2.1, q2.2.2.2.2.1, q2.2.2.2.2.2)
def f_X9_mayBe (v_t_needTold : Int32) (g_t_lines : Nat → Int32) (g_t_scribes : Nat → Int32) (p1 : Int32) (p2 : Int32) : Option (Int32) :=
  if p1 = 98 then
    if (g_t_lines (1 : Int32).toNatClampNeg) = 0 then
      some (1 : Int32)
    else
      some (0 : Int32)
  else
  if p1 = 110 then
    if v_t_needTold = 0 then
      some (1 : Int32)
    else
      some (0 : Int32)
  else
  if p1 = 111 then
    if p2 = 0 then
      some (1 : Int32)
    else
      some (0 : Int32)
  else
  if p1 = 115 then
    if (6 : Int32) ≤ (g_t_scribes (1 : Int32).toNatClampNeg) then
      some (0 : Int32)
    else
      some (1 : Int32)
  else
  some (0 : Int32)
def b_X9_readRow_77 (v_t_typed : Int32) (v_t_needTold : Int32) (g_t_text : Nat → Int32) (g_t_opinions : Nat → Int32) (g_t_scribes : Nat → Int32) (g_t_turn : Nat → Int32) (g_t_bent : Nat → Int32) (g_t_need : Nat → Int32) (z : Int32 × Int32 × Int32 × Int32 × Int32 × (Nat → Int32) × (Nat → Int32)) : Option ((Int32 × Int32 × Int32 × Int32 × Int32 × (Nat → Int32) × (Nat → Int32)) ⊕ (Int32 × Int32 × Int32 × Int32 × Int32 × Int32 × (Nat → Int32) × (Nat → Int32) × (Nat → Int32) × (Nat → Int32) × (Nat → Int32) × (Nat → Int32) × (Nat → Int32))) :=
  if z.2.2.2.2.1 = (-9 : Int32) then
    if z.2.2.1 = (1 : Int32) then
      if (4 : Int32) ≤ (z.2.2.2.2.2.1 (1 : Int32).toNatClampNeg) then
        some (.inr (v_t_needTold, z.1, z.2.1, z.2.2.1, z.2.2.2.1, z.2.2.2.2.1, g_t_opinions, z.2.2.2.2.2.1, z.2.2.2.2.2.2, g_t_scribes, g_t_turn, g_t_bent, g_t_need))
      else
        (f_X9_number v_t_typed z.1 z.2.1 z.2.2.1 z.2.2.2.1 z.2.2.2.2.1 g_t_text (0 : Int32) ((g_t_opinions (1 : Int32).toNatClampNeg) - (1 : Int32))).bind fun q5 =>
        if ((z.2.2.2.2.2.1 (1 : Int32).toNatClampNeg) < 0 ∨ 4 ≤ (z.2.2.2.2.2.1 (1 : Int32).toNatClampNeg).toNatClampNeg) then none else
        some (.inl (q5.2.1, q5.2.2.1, q5.2.2.2.1, q5.2.2.2.2.1, q5.2.2.2.2.2, upd z.2.2.2.2.2.1 (1 : Int32).toNatClampNeg ((z.2.2.2.2.2.1 (1 : Int32).toNatClampNeg) + (1 : Int32)), upd z.2.2.2.2.2.2 (z.2.2.2.2.2.1 (1 : Int32).toNatClampNeg).toNatClampNeg q5.1))
    else
      some (.inr (v_t_needTold, z.1, z.2.1, z.2.2.1, z.2.2.2.1, z.2.2.2.2.1, g_t_opinions, z.2.2.2.2.2.1, z.2.2.2.2.2.2, g_t_scribes, g_t_turn, g_t_bent, g_t_need))
  else
    some (.inr (v_t_needTold, z.1, z.2.1, z.2.2.1, z.2.2.2.1, z.2.2.2.2.1, g_t_opinions, z.2.2.2.2.2.1, z.2.2.2.2.2.2, g_t_scribes, g_t_turn, g_t_bent, g_t_need))
def f_X9_readRow (v_t_typed : Int32) (v_t_needTold : Int32) (v_t_at : Int32) (v_t_start : Int32) (v_t_sort : Int32) (v_t_value : Int32) (v_t_fault : Int32) (g_t_text : Nat → Int32) (g_t_opinions : Nat → Int32) (g_t_lines : Nat → Int32) (g_t_draftBook : Nat → Int32) (g_t_scribes : Nat → Int32) (g_t_turn : Nat → Int32) (g_t_bent : Nat → Int32) (g_t_need : Nat → Int32) (p1 : Int32) : Option (Int32 × Int32 × Int32 × Int32 × Int32 × Int32 × (Nat → Int32) × (Nat → Int32) × (Nat → Int32) × (Nat → Int32) × (Nat → Int32) × (Nat → Int32) × (Nat → Int32)) :=
  if p1 = 98 then
    (f_X9_number v_t_typed v_t_at v_t_start v_t_sort v_t_value v_t_fault g_t_text (0 : Int32) ((g_t_opinions (1 : Int32).toNatClampNeg) - (1 : Int32))).bind fun q1 =>
    lpF (b_X9_readRow_77 v_t_typed v_t_needTold g_t_text g_t_opinions g_t_scribes g_t_turn g_t_bent g_t_need) FU (q1.2.1, q1.2.2.1, q1.2.2.2.1, q1.2.2.2.2.1, q1.2.2.2.2.2, upd g_t_lines (1 : Int32).toNatClampNeg (1 : Int32), upd g_t_draftBook (0 : Int32).toNatClampNeg q1.1)
  else
  if p1 = 111 then
    (f_X9_number v_t_typed v_t_at v_t_start v_t_sort v_t_value v_t_fault g_t_text (2 : Int32) (5 : Int32)).bind fun q7 =>
    some (v_t_needTold, q7.2.1, q7.2.2.1, q7.2.2.2.1, q7.2.2.2.2.1, q7.2.2.2.2.2, upd g_t_opinions (1 : Int32).toNatClampNeg q7.1, g_t_lines, g_t_draftBook, g_t_scribes, g_t_turn, g_t_bent, g_t_need)
  else
  if p1 = 115 then
    (f_X9_number v_t_typed v_t_at v_t_start v_t_sort v_t_value v_t_fault g_t_text (0 : Int32) (6 : Int32)).bind fun q8 =>
    if (((6 : Int32) + (g_t_scribes (1 : Int32).toNatClampNeg)) < 0 ∨ 12 ≤ ((6 : Int32) + (g_t_scribes (1 : Int32).toNatClampNeg)).toNatClampNeg) then none else
    (f_X9_number v_t_typed q8.2.1 q8.2.2.1 q8.2.2.2.1 q8.2.2.2.2.1 q8.2.2.2.2.2 g_t_text (0 : Int32) (6 : Int32)).bind fun q10 =>
    if (((6 : Int32) + (g_t_scribes (1 : Int32).toNatClampNeg)) < 0 ∨ 12 ≤ ((6 : Int32) + (g_t_scribes (1 : Int32).toNatClampNeg)).toNatClampNeg) then none else
    some (v_t_needTold, q10.2.1, q10.2.2.1, q10.2.2.2.1, q10.2.2.2.2.1, q10.2.2.2.2.2, g_t_opinions, g_t_lines, g_t_draftBook, upd g_t_scribes (1 : Int32).toNatClampNeg ((g_t_scribes (1 : Int32).toNatClampNeg) + (1 : Int32)), upd g_t_turn ((6 : Int32) + (g_t_scribes (1 : Int32).toNatClampNeg)).toNatClampNeg q8.1, upd g_t_bent ((6 : Int32) + (g_t_scribes (1 : Int32).toNatClampNeg)).toNatClampNeg q10.1, g_t_need)
  else
  (f_X9_number v_t_typed v_t_at v_t_start v_t_sort v_t_value v_t_fault g_t_text (1 : Int32) (4 : Int32)).bind fun q12 =>
  some ((1 : Int32), q12.2.1, q12.2.2.1, q12.2.2.2.1, q12.2.2.2.2.1, q12.2.2.2.2.2, g_t_opinions, g_t_lines, g_t_draftBook, g_t_scribes, g_t_turn, g_t_bent, upd g_t_need (1 : Int32).toNatClampNeg q12.1)
def f_X9_plain (g_t_opinions : Nat → Int32) (g_t_lines : Nat → Int32) (g_t_scribes : Nat → Int32) (g_t_need : Nat → Int32) : Option (Int32 × (Nat → Int32) × (Nat → Int32) × (Nat → Int32) × (Nat → Int32)) :=
  some ((0 : Int32), upd g_t_opinions (1 : Int32).toNatClampNeg (5 : Int32), upd g_t_lines (1 : Int32).toNatClampNeg (0 : Int32), upd g_t_scribes (1 : Int32).toNatClampNeg (0 : Int32), upd g_t_need (1 : Int32).toNatClampNeg (1 : Int32))
def b_X9_takeDraft_115 (g_t_opinions : Nat → Int32) (g_t_lines : Nat → Int32) (g_t_draftBook : Nat → Int32) (g_t_scribes : Nat → Int32) (g_t_turn : Nat → Int32) (g_t_bent : Nat → Int32) (g_t_need : Nat → Int32) (g_t_isKept : Nat → Int32) (z : Int32 × (Nat → Int32)) : Option ((Int32 × (Nat → Int32)) ⊕ (Int32 × Int32 × (Nat → Int32) × (Nat → Int32) × (Nat → Int32) × (Nat → Int32) × (Nat → Int32) × (Nat → Int32) × (Nat → Int32) × (Nat → Int32))) :=
  if (g_t_lines (0 : Int32).toNatClampNeg) ≤ z.1 then
    some (.inr (z.2 (0 : Int32).toNatClampNeg, (0 : Int32), g_t_opinions, g_t_lines, g_t_scribes, g_t_turn, g_t_bent, g_t_need, upd z.2 (9 : Int32).toNatClampNeg (0 : Int32), upd (upd g_t_isKept (0 : Int32).toNatClampNeg (vp_nar .boolean (0 : Int32))) (1 : Int32).toNatClampNeg (vp_nar .boolean (0 : Int32))))
  else
    if (z.1 < 0 ∨ 4 ≤ z.1.toNatClampNeg) then none else
    some (.inl (z.1 + (1 : Int32), upd z.2 (0 : Int32).toNatClampNeg (((z.2 (0 : Int32).toNatClampNeg) * (g_t_opinions (0 : Int32).toNatClampNeg)) + (g_t_draftBook z.1.toNatClampNeg))))
def b_X9_takeDraft_94 (g_t_opinions : Nat → Int32) (g_t_lines : Nat → Int32) (g_t_draftBook : Nat → Int32) (g_t_scribes : Nat → Int32) (g_t_turn : Nat → Int32) (g_t_bent : Nat → Int32) (g_t_need : Nat → Int32) (g_t_isKept : Nat → Int32) (z : Int32 × (Nat → Int32)) : Option ((Int32 × (Nat → Int32)) ⊕ (Int32 × Int32 × (Nat → Int32) × (Nat → Int32) × (Nat → Int32) × (Nat → Int32) × (Nat → Int32) × (Nat → Int32) × (Nat → Int32) × (Nat → Int32))) :=
  if (9 : Int32) ≤ z.1 then
    (lpF (b_X9_takeDraft_115 g_t_opinions g_t_lines g_t_draftBook g_t_scribes g_t_turn g_t_bent g_t_need g_t_isKept) FU ((0 : Int32), z.2)).bind (fun x => some (.inr x))
  else
    if (z.1 < 0 ∨ 300 ≤ z.1.toNatClampNeg) then none else
    some (.inl (z.1 + (1 : Int32), upd z.2 z.1.toNatClampNeg (0 : Int32)))
def b_X9_takeDraft_50 (g_t_opinions : Nat → Int32) (g_t_lines : Nat → Int32) (g_t_draftBook : Nat → Int32) (g_t_scribes : Nat → Int32) (g_t_need : Nat → Int32) (g_t_now : Nat → Int32) (g_t_isKept : Nat → Int32) (z : Int32 × (Nat → Int32) × (Nat → Int32)) : Option ((Int32 × (Nat → Int32) × (Nat → Int32)) ⊕ (Int32 × Int32 × (Nat → Int32) × (Nat → Int32) × (Nat → Int32) × (Nat → Int32) × (Nat → Int32) × (Nat → Int32) × (Nat → Int32) × (Nat → Int32))) :=
  if (6 : Int32) ≤ z.1 then
    (lpF (b_X9_takeDraft_94 g_t_opinions g_t_lines g_t_draftBook g_t_scribes z.2.1 z.2.2 g_t_need g_t_isKept) FU ((0 : Int32), g_t_now)).bind (fun x => some (.inr x))
  else
    if (((6 : Int32) + z.1) < 0 ∨ 12 ≤ ((6 : Int32) + z.1).toNatClampNeg) then none else
    if (z.1 < 0 ∨ 12 ≤ z.1.toNatClampNeg) then none else
    if (((6 : Int32) + z.1) < 0 ∨ 12 ≤ ((6 : Int32) + z.1).toNatClampNeg) then none else
    if (z.1 < 0 ∨ 12 ≤ z.1.toNatClampNeg) then none else
    some (.inl (z.1 + (1 : Int32), upd z.2.1 z.1.toNatClampNeg (z.2.1 ((6 : Int32) + z.1).toNatClampNeg), upd z.2.2 z.1.toNatClampNeg (z.2.2 ((6 : Int32) + z.1).toNatClampNeg)))
def f_X9_takeDraft (g_t_opinions : Nat → Int32) (g_t_lines : Nat → Int32) (g_t_draftBook : Nat → Int32) (g_t_scribes : Nat → Int32) (g_t_turn : Nat → Int32) (g_t_bent : Nat → Int32) (g_t_need : Nat → Int32) (g_t_now : Nat → Int32) (g_t_isKept : Nat → Int32) : Option (Int32 × Int32 × (Nat → Int32) × (Nat → Int32) × (Nat → Int32) × (Nat → Int32) × (Nat → Int32) × (Nat → Int32) × (Nat → Int32) × (Nat → Int32)) :=
  lpF (b_X9_takeDraft_50 (upd g_t_opinions (0 : Int32).toNatClampNeg (g_t_opinions (1 : Int32).toNatClampNeg)) (upd g_t_lines (0 : Int32).toNatClampNeg (g_t_lines (1 : Int32).toNatClampNeg)) g_t_draftBook (upd g_t_scribes (0 : Int32).toNatClampNeg (g_t_scribes (1 : Int32).toNatClampNeg)) (upd g_t_need (0 : Int32).toNatClampNeg (g_t_need (1 : Int32).toNatClampNeg)) g_t_now g_t_isKept) FU ((0 : Int32), g_t_turn, g_t_bent)
def b_X9_house_21 (v_t_typed : Int32) (v_t_target : Int32) (v_t_margins : Int32) (g_t_text : Nat → Int32) (g_t_now : Nat → Int32) (g_t_isKept : Nat → Int32) (z : Int32 × Int32 × Int32 × Int32 × Int32 × Int32 × Int32 × (Nat → Int32) × (Nat → Int32) × (Nat → Int32) × (Nat → Int32) × (Nat → Int32) × (Nat → Int32) × (Nat → Int32)) : Option ((Int32 × Int32 × Int32 × Int32 × Int32 × Int32 × Int32 × (Nat → Int32) × (Nat → Int32) × (Nat → Int32) × (Nat → Int32) × (Nat → Int32) × (Nat → Int32) × (Nat → Int32)) ⊕ (Int32 × Int32 × Int32 × Int32 × Int32 × Int32 × Int32 × Int32 × Int32 × Int32 × (Nat → Int32) × (Nat → Int32) × (Nat → Int32) × (Nat → Int32) × (Nat → Int32) × (Nat → Int32) × (Nat → Int32) × (Nat → Int32) × (Nat → Int32))) :=
  if z.2.2.2.2.2.2.1 = (-9 : Int32) then
    if z.2.2.2.2.1 = (3 : Int32) then
      if z.2.2.2.2.2.2.1 = (-9 : Int32) then
        (f_X9_takeDraft z.2.2.2.2.2.2.2.1 z.2.2.2.2.2.2.2.2.1 z.2.2.2.2.2.2.2.2.2.1 z.2.2.2.2.2.2.2.2.2.2.1 z.2.2.2.2.2.2.2.2.2.2.2.1 z.2.2.2.2.2.2.2.2.2.2.2.2.1 z.2.2.2.2.2.2.2.2.2.2.2.2.2 g_t_now g_t_isKept).bind fun q8 =>
        some (.inr (z.1, (0 : Int32), z.2.1, z.2.2.1, z.2.2.2.1, z.2.2.2.2.1, z.2.2.2.2.2.1, z.2.2.2.2.2.2.1, q8.1, q8.2.1, q8.2.2.1, q8.2.2.2.1, z.2.2.2.2.2.2.2.2.2.1, q8.2.2.2.2.1, q8.2.2.2.2.2.1, q8.2.2.2.2.2.2.1, q8.2.2.2.2.2.2.2.1, q8.2.2.2.2.2.2.2.2.1, q8.2.2.2.2.2.2.2.2.2))
      else
        some (.inr ((-10 : Int32) - z.2.2.2.2.2.2.1, v_t_typed, z.2.1, z.2.2.1, z.2.2.2.1, z.2.2.2.2.1, z.2.2.2.2.2.1, z.2.2.2.2.2.2.1, v_t_target, v_t_margins, z.2.2.2.2.2.2.2.1, z.2.2.2.2.2.2.2.2.1, z.2.2.2.2.2.2.2.2.2.1, z.2.2.2.2.2.2.2.2.2.2.1, z.2.2.2.2.2.2.2.2.2.2.2.1, z.2.2.2.2.2.2.2.2.2.2.2.2.1, z.2.2.2.2.2.2.2.2.2.2.2.2.2, g_t_now, g_t_isKept))
    else
      (f_X9_mayBe z.2.1 z.2.2.2.2.2.2.2.2.1 z.2.2.2.2.2.2.2.2.2.2.1 z.2.2.2.2.1 z.1).bind fun q9 =>
      (f_X9_due v_t_typed z.2.2.1 z.2.2.2.1 z.2.2.2.2.1 z.2.2.2.2.2.1 z.2.2.2.2.2.2.1 g_t_text q9).bind fun q10 =>
      if q10.2.2.2.2.2 = (-9 : Int32) then
        (f_X9_readRow v_t_typed z.2.1 q10.2.1 q10.2.2.1 q10.2.2.2.1 q10.2.2.2.2.1 q10.2.2.2.2.2 g_t_text z.2.2.2.2.2.2.2.1 z.2.2.2.2.2.2.2.2.1 z.2.2.2.2.2.2.2.2.2.1 z.2.2.2.2.2.2.2.2.2.2.1 z.2.2.2.2.2.2.2.2.2.2.2.1 z.2.2.2.2.2.2.2.2.2.2.2.2.1 z.2.2.2.2.2.2.2.2.2.2.2.2.2 z.2.2.2.2.1).bind fun q12 =>
        if q12.2.2.2.1 = (2 : Int32) then
          (f_X9_due v_t_typed q12.2.1 q12.2.2.1 q12.2.2.2.1 q12.2.2.2.2.1 q12.2.2.2.2.2.1 g_t_text (1 : Int32)).bind fun q15 =>
          some (.inl (z.1 + (1 : Int32), q12.1, q15.2.1, q15.2.2.1, q15.2.2.2.1, q15.2.2.2.2.1, q15.2.2.2.2.2, q12.2.2.2.2.2.2.1, q12.2.2.2.2.2.2.2.1, q12.2.2.2.2.2.2.2.2.1, q12.2.2.2.2.2.2.2.2.2.1, q12.2.2.2.2.2.2.2.2.2.2.1, q12.2.2.2.2.2.2.2.2.2.2.2.1, q12.2.2.2.2.2.2.2.2.2.2.2.2))
        else
          (f_X9_due v_t_typed q12.2.1 q12.2.2.1 q12.2.2.2.1 q12.2.2.2.2.1 q12.2.2.2.2.2.1 g_t_text (0 : Int32)).bind fun q14 =>
          some (.inl (z.1 + (1 : Int32), q12.1, q14.2.1, q14.2.2.1, q14.2.2.2.1, q14.2.2.2.2.1, q14.2.2.2.2.2, q12.2.2.2.2.2.2.1, q12.2.2.2.2.2.2.2.1, q12.2.2.2.2.2.2.2.2.1, q12.2.2.2.2.2.2.2.2.2.1, q12.2.2.2.2.2.2.2.2.2.2.1, q12.2.2.2.2.2.2.2.2.2.2.2.1, q12.2.2.2.2.2.2.2.2.2.2.2.2))
      else
        some (.inl (z.1, z.2.1, q10.2.1, q10.2.2.1, q10.2.2.2.1, q10.2.2.2.2.1, q10.2.2.2.2.2, z.2.2.2.2.2.2.2.1, z.2.2.2.2.2.2.2.2.1, z.2.2.2.2.2.2.2.2.2.1, z.2.2.2.2.2.2.2.2.2.2.1, z.2.2.2.2.2.2.2.2.2.2.2.1, z.2.2.2.2.2.2.2.2.2.2.2.2.1, z.2.2.2.2.2.2.2.2.2.2.2.2.2))
  else
    if z.2.2.2.2.2.2.1 = (-9 : Int32) then
      (f_X9_takeDraft z.2.2.2.2.2.2.2.1 z.2.2.2.2.2.2.2.2.1 z.2.2.2.2.2.2.2.2.2.1 z.2.2.2.2.2.2.2.2.2.2.1 z.2.2.2.2.2.2.2.2.2.2.2.1 z.2.2.2.2.2.2.2.2.2.2.2.2.1 z.2.2.2.2.2.2.2.2.2.2.2.2.2 g_t_now g_t_isKept).bind fun q5 =>
      some (.inr (z.1, (0 : Int32), z.2.1, z.2.2.1, z.2.2.2.1, z.2.2.2.2.1, z.2.2.2.2.2.1, z.2.2.2.2.2.2.1, q5.1, q5.2.1, q5.2.2.1, q5.2.2.2.1, z.2.2.2.2.2.2.2.2.2.1, q5.2.2.2.2.1, q5.2.2.2.2.2.1, q5.2.2.2.2.2.2.1, q5.2.2.2.2.2.2.2.1, q5.2.2.2.2.2.2.2.2.1, q5.2.2.2.2.2.2.2.2.2))
    else
      some (.inr ((-10 : Int32) - z.2.2.2.2.2.2.1, v_t_typed, z.2.1, z.2.2.1, z.2.2.2.1, z.2.2.2.2.1, z.2.2.2.2.2.1, z.2.2.2.2.2.2.1, v_t_target, v_t_margins, z.2.2.2.2.2.2.2.1, z.2.2.2.2.2.2.2.2.1, z.2.2.2.2.2.2.2.2.2.1, z.2.2.2.2.2.2.2.2.2.2.1, z.2.2.2.2.2.2.2.2.2.2.2.1, z.2.2.2.2.2.2.2.2.2.2.2.2.1, z.2.2.2.2.2.2.2.2.2.2.2.2.2, g_t_now, g_t_isKept))
def f_X9_house (v_t_typed : Int32) (v_t_target : Int32) (v_t_margins : Int32) (g_t_text : Nat → Int32) (g_t_opinions : Nat → Int32) (g_t_lines : Nat → Int32) (g_t_draftBook : Nat → Int32) (g_t_scribes : Nat → Int32) (g_t_turn : Nat → Int32) (g_t_bent : Nat → Int32) (g_t_need : Nat → Int32) (g_t_now : Nat → Int32) (g_t_isKept : Nat → Int32) : Option (Int32 × Int32 × Int32 × Int32 × Int32 × Int32 × Int32 × Int32 × Int32 × Int32 × (Nat → Int32) × (Nat → Int32) × (Nat → Int32) × (Nat → Int32) × (Nat → Int32) × (Nat → Int32) × (Nat → Int32) × (Nat → Int32) × (Nat → Int32)) :=
  (f_X9_plain g_t_opinions g_t_lines g_t_scribes g_t_need).bind fun q1 =>
  (f_X9_step v_t_typed (0 : Int32) g_t_text).bind fun q2 =>
  lpF (b_X9_house_21 v_t_typed v_t_target v_t_margins g_t_text g_t_now g_t_isKept) FU ((0 : Int32), q1.1, q2.1, q2.2.1, q2.2.2.1, q2.2.2.2, (-9 : Int32), q1.2.1, q1.2.2.1, g_t_draftBook, q1.2.2.2.1, g_t_turn, g_t_bent, q1.2.2.2.2)
def f_X9_isScribe (g_t_scribes : Nat → Int32) (p1 : Int32) : Option (Int32) :=
  (f_X9_in p1 (0 : Int32) ((g_t_scribes (0 : Int32).toNatClampNeg) - (1 : Int32))).bind fun q1 =>
  if (q1 = 0 ∨ q1 = 1) then some q1 else none
def f_X9_isLine (g_t_lines : Nat → Int32) (p1 : Int32) : Option (Int32) :=
  (f_X9_in p1 (0 : Int32) ((g_t_lines (0 : Int32).toNatClampNeg) - (1 : Int32))).bind fun q1 =>
  if (q1 = 0 ∨ q1 = 1) then some q1 else none
def f_X9_isOpinion (g_t_opinions : Nat → Int32) (p1 : Int32) : Option (Int32) :=
  (f_X9_in p1 (0 : Int32) ((g_t_opinions (0 : Int32).toNatClampNeg) - (1 : Int32))).bind fun q1 =>
  if (q1 = 0 ∨ q1 = 1) then some q1 else none
def b_X9_books_4 (g_t_opinions : Nat → Int32) (g_t_lines : Nat → Int32) (z : Int32 × Int32) : Option ((Int32 × Int32) ⊕ (Int32)) :=
  if (g_t_lines (0 : Int32).toNatClampNeg) ≤ z.2 then
    some (.inr z.1)
  else
    some (.inl (z.1 * (g_t_opinions (0 : Int32).toNatClampNeg), z.2 + (1 : Int32)))
def f_X9_books (g_t_opinions : Nat → Int32) (g_t_lines : Nat → Int32) : Option (Int32) :=
  lpF (b_X9_books_4 g_t_opinions g_t_lines) FU ((1 : Int32), (0 : Int32))
def b_X9_lineOf_12 (g_t_opinions : Nat → Int32) (x2 : Int32) (z : Int32 × Int32) : Option ((Int32 × Int32) ⊕ (Int32)) :=
  if z.2 ≤ x2 then
    if (g_t_opinions (0 : Int32).toNatClampNeg) = 0 then none else
    some (.inr (jrem z.1 (g_t_opinions (0 : Int32).toNatClampNeg)))
  else
    if (g_t_opinions (0 : Int32).toNatClampNeg) = 0 then none else
    some (.inl (z.1 / (g_t_opinions (0 : Int32).toNatClampNeg), z.2 + (-1 : Int32)))
def f_X9_lineOf (g_t_opinions : Nat → Int32) (g_t_lines : Nat → Int32) (p1 : Int32) (p2 : Int32) : Option (Int32) :=
  lpF (b_X9_lineOf_12 g_t_opinions p2) FU (p1, (g_t_lines (0 : Int32).toNatClampNeg) - (1 : Int32))
def f_X9_saysOf (g_t_opinions : Nat → Int32) (g_t_turn : Nat → Int32) (g_t_bent : Nat → Int32) (p1 : Int32) (p2 : Int32) : Option (Int32) :=
  if (p1 < 0 ∨ 12 ≤ p1.toNatClampNeg) then none else
  if (p1 < 0 ∨ 12 ≤ p1.toNatClampNeg) then none else
  if (g_t_opinions (0 : Int32).toNatClampNeg) = 0 then none else
  some (jrem (((g_t_turn p1.toNatClampNeg) * p2) + (g_t_bent p1.toNatClampNeg)) (g_t_opinions (0 : Int32).toNatClampNeg))
def b_X9_copyOf_5 (g_t_opinions : Nat → Int32) (g_t_lines : Nat → Int32) (g_t_turn : Nat → Int32) (g_t_bent : Nat → Int32) (x1 : Int32) (x2 : Int32) (z : Int32 × Int32) : Option ((Int32 × Int32) ⊕ (Int32)) :=
  if (g_t_lines (0 : Int32).toNatClampNeg) ≤ z.2 then
    some (.inr z.1)
  else
    (f_X9_lineOf g_t_opinions g_t_lines x2 z.2).bind fun q2 =>
    (f_X9_saysOf g_t_opinions g_t_turn g_t_bent x1 q2).bind fun q3 =>
    some (.inl ((z.1 * (g_t_opinions (0 : Int32).toNatClampNeg)) + q3, z.2 + (1 : Int32)))
def f_X9_copyOf (g_t_opinions : Nat → Int32) (g_t_lines : Nat → Int32) (g_t_turn : Nat → Int32) (g_t_bent : Nat → Int32) (p1 : Int32) (p2 : Int32) : Option (Int32) :=
  lpF (b_X9_copyOf_5 g_t_opinions g_t_lines g_t_turn g_t_bent p1 p2) FU ((0 : Int32), (0 : Int32))
def b_X9_disagrees_5 (g_t_opinions : Nat → Int32) (g_t_lines : Nat → Int32) (g_t_turn : Nat → Int32) (g_t_bent : Nat → Int32) (x1 : Int32) (x2 : Int32) (z : Int32 × Int32) : Option ((Int32 × Int32) ⊕ (Int32)) :=
  if (g_t_lines (0 : Int32).toNatClampNeg) ≤ z.2 then
    some (.inr z.1)
  else
    (f_X9_lineOf g_t_opinions g_t_lines x2 z.2).bind fun q2 =>
    (f_X9_saysOf g_t_opinions g_t_turn g_t_bent x1 q2).bind fun q3 =>
    (f_X9_lineOf g_t_opinions g_t_lines x2 z.2).bind fun q4 =>
    if q3 = q4 then
      some (.inl (z.1 ||| (0 : Int32), z.2 + (1 : Int32)))
    else
      some (.inl (z.1 ||| (jshl (1 : Int32) z.2), z.2 + (1 : Int32)))
def f_X9_disagrees (g_t_opinions : Nat → Int32) (g_t_lines : Nat → Int32) (g_t_turn : Nat → Int32) (g_t_bent : Nat → Int32) (p1 : Int32) (p2 : Int32) : Option (Int32) :=
  lpF (b_X9_disagrees_5 g_t_opinions g_t_lines g_t_turn g_t_bent p1 p2) FU ((0 : Int32), (0 : Int32))
def b_X9_manyOf_4 (x0 : Int32) (z : Int32 × Int32) : Option ((Int32 × Int32) ⊕ (Int32)) :=
  if (6 : Int32) ≤ z.2 then
    some (.inr z.1)
  else
    some (.inl (z.1 + ((jshr x0 z.2) &&& (1 : Int32)), z.2 + (1 : Int32)))
def f_X9_manyOf (p0 : Int32) : Option (Int32) :=
  lpF (b_X9_manyOf_4 p0) FU ((0 : Int32), (0 : Int32))
def f_X9_isConvinced (g_t_opinions : Nat → Int32) (g_t_lines : Nat → Int32) (g_t_turn : Nat → Int32) (g_t_bent : Nat → Int32) (g_t_need : Nat → Int32) (p1 : Int32) (p2 : Int32) : Option (Int32) :=
  (f_X9_disagrees g_t_opinions g_t_lines g_t_turn g_t_bent p1 p2).bind fun q1 =>
  (f_X9_manyOf q1).bind fun q2 =>
  if (g_t_need (0 : Int32).toNatClampNeg) ≤ q2 then
    some (0 : Int32)
  else
    some (1 : Int32)
def b_X9_comes_9 (g_t_opinions : Nat → Int32) (g_t_lines : Nat → Int32) (g_t_turn : Nat → Int32) (g_t_bent : Nat → Int32) (g_t_now : Nat → Int32) (x1 : Int32) (z : Int32 × Int32) : Option ((Int32 × Int32) ⊕ (Int32)) :=
  if (4000 : Int32) < z.2 then
    some (.inr (-9 : Int32))
  else
    (f_X9_copyOf g_t_opinions g_t_lines g_t_turn g_t_bent x1 z.1).bind fun q2 =>
    if q2 = (g_t_now (0 : Int32).toNatClampNeg) then
      some (.inr z.2)
    else
      some (.inl (q2, z.2 + (1 : Int32)))
def f_X9_comes (g_t_opinions : Nat → Int32) (g_t_lines : Nat → Int32) (g_t_turn : Nat → Int32) (g_t_bent : Nat → Int32) (g_t_now : Nat → Int32) (p1 : Int32) : Option (Int32) :=
  lpF (b_X9_comes_9 g_t_opinions g_t_lines g_t_turn g_t_bent g_t_now p1) FU (g_t_now (0 : Int32).toNatClampNeg, (1 : Int32))
def f_X9_line (v_t_target : Int32) (g_t_opinions : Nat → Int32) (g_t_lines : Nat → Int32) (g_t_now : Nat → Int32) (p1 : Int32) (p2 : Int32) : Option (Int32) :=
  (f_X9_isLine g_t_lines p1).bind fun q1 =>
  if q1 = 0 then
    some (-1 : Int32)
  else
    (f_X9_in p2 (0 : Int32) (1 : Int32)).bind fun q3 =>
    if q3 = 0 then
      some (-1 : Int32)
    else
      if p2 = 0 then
        (f_X9_lineOf g_t_opinions g_t_lines (g_t_now (0 : Int32).toNatClampNeg) p1).bind fun q7 =>
        some q7
      else
        (f_X9_lineOf g_t_opinions g_t_lines v_t_target p1).bind fun q6 =>
        some q6
def f_X9_scribe (g_t_opinions : Nat → Int32) (g_t_lines : Nat → Int32) (g_t_scribes : Nat → Int32) (g_t_turn : Nat → Int32) (g_t_bent : Nat → Int32) (g_t_need : Nat → Int32) (g_t_now : Nat → Int32) (p1 : Int32) (p2 : Int32) : Option (Int32) :=
  (f_X9_isScribe g_t_scribes p1).bind fun q1 =>
  if q1 = 0 then
    some (-1 : Int32)
  else
    if p2 = 0 then
      if (p1 < 0 ∨ 12 ≤ p1.toNatClampNeg) then none else
      some (g_t_turn p1.toNatClampNeg)
    else
    if p2 = 1 then
      if (p1 < 0 ∨ 12 ≤ p1.toNatClampNeg) then none else
      some (g_t_bent p1.toNatClampNeg)
    else
    if p2 = 2 then
      some ((jshr (g_t_now (8 : Int32).toNatClampNeg) p1) &&& (1 : Int32))
    else
    if p2 = 3 then
      if (((2 : Int32) + p1) < 0 ∨ 300 ≤ ((2 : Int32) + p1).toNatClampNeg) then none else
      some (g_t_now ((2 : Int32) + p1).toNatClampNeg)
    else
    if p2 = 4 then
      (f_X9_disagrees g_t_opinions g_t_lines g_t_turn g_t_bent p1 (g_t_now (0 : Int32).toNatClampNeg)).bind fun q6 =>
      some q6
    else
    if p2 = 5 then
      (f_X9_isConvinced g_t_opinions g_t_lines g_t_turn g_t_bent g_t_need p1 (g_t_now (0 : Int32).toNatClampNeg)).bind fun q7 =>
      if q7 = 0 then
        some (0 : Int32)
      else
        some (1 : Int32)
    else
    if p2 = 6 then
      (f_X9_comes g_t_opinions g_t_lines g_t_turn g_t_bent g_t_now p1).bind fun q9 =>
      some q9
    else
    some (-1 : Int32)
def f_X9_says (g_t_opinions : Nat → Int32) (g_t_scribes : Nat → Int32) (g_t_turn : Nat → Int32) (g_t_bent : Nat → Int32) (p1 : Int32) (p2 : Int32) : Option (Int32) :=
  (f_X9_isScribe g_t_scribes p1).bind fun q1 =>
  if q1 = 0 then
    some (-1 : Int32)
  else
    (f_X9_isOpinion g_t_opinions p2).bind fun q3 =>
    if q3 = 0 then
      some (-1 : Int32)
    else
      (f_X9_saysOf g_t_opinions g_t_turn g_t_bent p1 p2).bind fun q5 =>
      some q5
def b_X9_know_57 (z : Int32 × (Nat → Int32)) : Option ((Int32 × (Nat → Int32)) ⊕ ((Nat → Int32))) :=
  if (9 : Int32) ≤ z.1 then
    some (.inr (upd z.2 (9 : Int32).toNatClampNeg ((z.2 (9 : Int32).toNatClampNeg) + (1 : Int32))))
  else
    if (z.1 < 0 ∨ 300 ≤ z.1.toNatClampNeg) then none else
    if ((((10 : Int32) + ((9 : Int32) * (z.2 (9 : Int32).toNatClampNeg))) + z.1) < 0 ∨ 300 ≤ (((10 : Int32) + ((9 : Int32) * (z.2 (9 : Int32).toNatClampNeg))) + z.1).toNatClampNeg) then none else
    some (.inl (z.1 + (1 : Int32), upd z.2 (((10 : Int32) + ((9 : Int32) * (z.2 (9 : Int32).toNatClampNeg))) + z.1).toNatClampNeg (z.2 z.1.toNatClampNeg)))
def b_X9_know_14 (z : Int32 × (Nat → Int32)) : Option ((Int32 × (Nat → Int32)) ⊕ ((Nat → Int32))) :=
  if (81 : Int32) ≤ z.1 then
    (lpF b_X9_know_57 FU ((0 : Int32), upd z.2 (9 : Int32).toNatClampNeg ((z.2 (9 : Int32).toNatClampNeg) - (1 : Int32)))).bind (fun x => some (.inr x))
  else
    if (((19 : Int32) + z.1) < 0 ∨ 300 ≤ ((19 : Int32) + z.1).toNatClampNeg) then none else
    if (((10 : Int32) + z.1) < 0 ∨ 300 ≤ ((10 : Int32) + z.1).toNatClampNeg) then none else
    some (.inl (z.1 + (1 : Int32), upd z.2 ((10 : Int32) + z.1).toNatClampNeg (z.2 ((19 : Int32) + z.1).toNatClampNeg)))
def f_X9_know (g_t_now : Nat → Int32) : Option ((Nat → Int32)) :=
  if (g_t_now (9 : Int32).toNatClampNeg) = (10 : Int32) then
    lpF b_X9_know_14 FU ((0 : Int32), g_t_now)
  else
    lpF b_X9_know_57 FU ((0 : Int32), g_t_now)
def f_X9_copies (g_t_opinions : Nat → Int32) (g_t_lines : Nat → Int32) (g_t_scribes : Nat → Int32) (g_t_turn : Nat → Int32) (g_t_bent : Nat → Int32) (g_t_need : Nat → Int32) (g_t_now : Nat → Int32) (p1 : Int32) : Option (Int32 × (Nat → Int32)) :=
  (f_X9_isScribe g_t_scribes p1).bind fun q1 =>
  if q1 = 0 then
    some ((-1 : Int32), g_t_now)
  else
    if ((jshr (g_t_now (8 : Int32).toNatClampNeg) p1) &&& (1 : Int32)) = (1 : Int32) then
      some ((-2 : Int32), g_t_now)
    else
      (f_X9_isConvinced g_t_opinions g_t_lines g_t_turn g_t_bent g_t_need p1 (g_t_now (0 : Int32).toNatClampNeg)).bind fun q4 =>
      if q4 = 0 then
        if (g_t_now (1 : Int32).toNatClampNeg) = (999 : Int32) then
          some ((-2 : Int32), g_t_now)
        else
          (f_X9_know g_t_now).bind fun q7 =>
          (f_X9_copyOf g_t_opinions g_t_lines g_t_turn g_t_bent p1 (q7 (0 : Int32).toNatClampNeg)).bind fun q8 =>
          if (((2 : Int32) + p1) < 0 ∨ 300 ≤ ((2 : Int32) + p1).toNatClampNeg) then none else
          if (((2 : Int32) + p1) < 0 ∨ 300 ≤ ((2 : Int32) + p1).toNatClampNeg) then none else
          some ((upd (upd (upd q7 (0 : Int32).toNatClampNeg q8) (1 : Int32).toNatClampNeg (((upd q7 (0 : Int32).toNatClampNeg q8) (1 : Int32).toNatClampNeg) + (1 : Int32))) ((2 : Int32) + p1).toNatClampNeg (((upd (upd q7 (0 : Int32).toNatClampNeg q8) (1 : Int32).toNatClampNeg (((upd q7 (0 : Int32).toNatClampNeg q8) (1 : Int32).toNatClampNeg) + (1 : Int32))) ((2 : Int32) + p1).toNatClampNeg) + (1 : Int32))) (1 : Int32).toNatClampNeg, upd (upd (upd q7 (0 : Int32).toNatClampNeg q8) (1 : Int32).toNatClampNeg (((upd q7 (0 : Int32).toNatClampNeg q8) (1 : Int32).toNatClampNeg) + (1 : Int32))) ((2 : Int32) + p1).toNatClampNeg (((upd (upd q7 (0 : Int32).toNatClampNeg q8) (1 : Int32).toNatClampNeg (((upd q7 (0 : Int32).toNatClampNeg q8) (1 : Int32).toNatClampNeg) + (1 : Int32))) ((2 : Int32) + p1).toNatClampNeg) + (1 : Int32)))
      else
        some ((-2 : Int32), g_t_now)
def b_X9_put_6 (g_t_opinions : Nat → Int32) (g_t_lines : Nat → Int32) (x1 : Int32) (x2 : Int32) (x3 : Int32) (z : Int32 × Int32) : Option ((Int32 × Int32) ⊕ (Int32)) :=
  if (g_t_lines (0 : Int32).toNatClampNeg) ≤ z.2 then
    some (.inr z.1)
  else
    if z.2 = x2 then
      some (.inl ((z.1 * (g_t_opinions (0 : Int32).toNatClampNeg)) + x3, z.2 + (1 : Int32)))
    else
      (f_X9_lineOf g_t_opinions g_t_lines x1 z.2).bind fun q3 =>
      some (.inl ((z.1 * (g_t_opinions (0 : Int32).toNatClampNeg)) + q3, z.2 + (1 : Int32)))
def f_X9_put (g_t_opinions : Nat → Int32) (g_t_lines : Nat → Int32) (p1 : Int32) (p2 : Int32) (p3 : Int32) : Option (Int32) :=
  lpF (b_X9_put_6 g_t_opinions g_t_lines p1 p2 p3) FU ((0 : Int32), (0 : Int32))
def f_X9_errs (g_t_opinions : Nat → Int32) (g_t_lines : Nat → Int32) (g_t_now : Nat → Int32) (p1 : Int32) (p2 : Int32) : Option (Int32 × (Nat → Int32)) :=
  (f_X9_isLine g_t_lines p1).bind fun q1 =>
  if q1 = 0 then
    some ((-1 : Int32), g_t_now)
  else
    (f_X9_isOpinion g_t_opinions p2).bind fun q3 =>
    if q3 = 0 then
      some ((-1 : Int32), g_t_now)
    else
      (f_X9_lineOf g_t_opinions g_t_lines (g_t_now (0 : Int32).toNatClampNeg) p1).bind fun q5 =>
      if q5 = p2 then
        some ((-2 : Int32), g_t_now)
      else
        (f_X9_know g_t_now).bind fun q7 =>
        (f_X9_put g_t_opinions g_t_lines (q7 (0 : Int32).toNatClampNeg) p1 p2).bind fun q8 =>
        some (q5, upd q7 (0 : Int32).toNatClampNeg q8)
def f_X9_releases (g_t_scribes : Nat → Int32) (g_t_now : Nat → Int32) (p1 : Int32) (p2 : Int32) : Option (Int32 × (Nat → Int32)) :=
  (f_X9_isScribe g_t_scribes p1).bind fun q1 =>
  if q1 = 0 then
    some ((-1 : Int32), g_t_now)
  else
    (f_X9_in p2 (0 : Int32) (1 : Int32)).bind fun q3 =>
    if q3 = 0 then
      some ((-1 : Int32), g_t_now)
    else
      if ((jshr (g_t_now (8 : Int32).toNatClampNeg) p1) &&& (1 : Int32)) = p2 then
        some ((-2 : Int32), g_t_now)
      else
        (f_X9_know g_t_now).bind fun q6 =>
        (f_X9_manyOf ((upd q6 (8 : Int32).toNatClampNeg ((q6 (8 : Int32).toNatClampNeg) ^^^ (jshl (1 : Int32) p1))) (8 : Int32).toNatClampNeg)).bind fun q7 =>
        some (q7, upd q6 (8 : Int32).toNatClampNeg ((q6 (8 : Int32).toNatClampNeg) ^^^ (jshl (1 : Int32) p1)))
def f_X9_aims (v_t_target : Int32) (g_t_opinions : Nat → Int32) (g_t_lines : Nat → Int32) (p1 : Int32) (p2 : Int32) : Option (Int32 × Int32) :=
  (f_X9_isLine g_t_lines p1).bind fun q1 =>
  if q1 = 0 then
    some ((-1 : Int32), v_t_target)
  else
    (f_X9_isOpinion g_t_opinions p2).bind fun q3 =>
    if q3 = 0 then
      some ((-1 : Int32), v_t_target)
    else
      (f_X9_lineOf g_t_opinions g_t_lines v_t_target p1).bind fun q5 =>
      (f_X9_put g_t_opinions g_t_lines v_t_target p1 p2).bind fun q6 =>
      some (q5, q6)
def b_X9_undo_26 (z : Int32 × (Nat → Int32)) : Option ((Int32 × (Nat → Int32)) ⊕ (Int32 × (Nat → Int32))) :=
  if (9 : Int32) ≤ z.1 then
    some (.inr (z.2 (9 : Int32).toNatClampNeg, z.2))
  else
    if ((((10 : Int32) + ((9 : Int32) * (z.2 (9 : Int32).toNatClampNeg))) + z.1) < 0 ∨ 300 ≤ (((10 : Int32) + ((9 : Int32) * (z.2 (9 : Int32).toNatClampNeg))) + z.1).toNatClampNeg) then none else
    if (z.1 < 0 ∨ 300 ≤ z.1.toNatClampNeg) then none else
    some (.inl (z.1 + (1 : Int32), upd z.2 z.1.toNatClampNeg (z.2 (((10 : Int32) + ((9 : Int32) * (z.2 (9 : Int32).toNatClampNeg))) + z.1).toNatClampNeg)))
def f_X9_undo (g_t_now : Nat → Int32) : Option (Int32 × (Nat → Int32)) :=
  if (g_t_now (9 : Int32).toNatClampNeg) = 0 then
    some ((-2 : Int32), g_t_now)
  else
    lpF b_X9_undo_26 FU ((0 : Int32), upd g_t_now (9 : Int32).toNatClampNeg ((g_t_now (9 : Int32).toNatClampNeg) - (1 : Int32)))
def f_X9_mayCome (g_t_opinions : Nat → Int32) (g_t_lines : Nat → Int32) (g_t_turn : Nat → Int32) (g_t_bent : Nat → Int32) (g_t_need : Nat → Int32) (g_t_now : Nat → Int32) (p1 : Int32) (p2 : Int32) : Option (Int32) :=
  (f_X9_isConvinced g_t_opinions g_t_lines g_t_turn g_t_bent g_t_need p1 p2).bind fun q1 =>
  if q1 = 0 then
    (f_X9_copyOf g_t_opinions g_t_lines g_t_turn g_t_bent p1 p2).bind fun q3 =>
    if q3 = (g_t_now (0 : Int32).toNatClampNeg) then
      some (1 : Int32)
    else
      some (0 : Int32)
  else
    some (0 : Int32)
def b_X9_fromOf_4 (g_t_opinions : Nat → Int32) (g_t_lines : Nat → Int32) (g_t_turn : Nat → Int32) (g_t_bent : Nat → Int32) (g_t_need : Nat → Int32) (g_t_now : Nat → Int32) (x1 : Int32) (z : Int32 × Int32) : Option ((Int32 × Int32) ⊕ (Int32)) :=
  (f_X9_books g_t_opinions g_t_lines).bind fun q1 =>
  if q1 ≤ z.2 then
    some (.inr z.1)
  else
    (f_X9_mayCome g_t_opinions g_t_lines g_t_turn g_t_bent g_t_need g_t_now x1 z.2).bind fun q3 =>
    if q3 = 0 then
      some (.inl (z.1 + (0 : Int32), z.2 + (1 : Int32)))
    else
      some (.inl (z.1 + (1 : Int32), z.2 + (1 : Int32)))
def f_X9_fromOf (g_t_opinions : Nat → Int32) (g_t_lines : Nat → Int32) (g_t_turn : Nat → Int32) (g_t_bent : Nat → Int32) (g_t_need : Nat → Int32) (g_t_now : Nat → Int32) (p1 : Int32) : Option (Int32) :=
  lpF (b_X9_fromOf_4 g_t_opinions g_t_lines g_t_turn g_t_bent g_t_need g_t_now p1) FU ((0 : Int32), (0 : Int32))
def b_X9_same_89 (g_t_opinions : Nat → Int32) (g_t_lines : Nat → Int32) (x1 : Int32) (x3 : Int32) (x4 : Int32) (z : Int32 × Int32) : Option ((Int32 × Int32) ⊕ ((Int32 × Int32 × Int32) ⊕ (Int32))) :=
  if (g_t_lines (0 : Int32).toNatClampNeg) ≤ z.2 then
    some (.inr (.inl (x1, z.1, x3 + (1 : Int32))))
  else
    if x4 = 0 then
      some (.inr (.inl (x1, z.1, x3 + (1 : Int32))))
    else
      (f_X9_lineOf g_t_opinions g_t_lines x3 z.2).bind fun q8 =>
      (f_X9_lineOf g_t_opinions g_t_lines x1 z.2).bind fun q9 =>
      if q8 = q9 then
        some (.inl (z.1 &&& (-1 : Int32), z.2 + (1 : Int32)))
      else
        some (.inl (z.1 &&& ((jshl (1 : Int32) z.2) ^^^ (-1 : Int32)), z.2 + (1 : Int32)))
def b_X9_same_30 (g_t_opinions : Nat → Int32) (g_t_lines : Nat → Int32) (g_t_scribes : Nat → Int32) (g_t_turn : Nat → Int32) (g_t_bent : Nat → Int32) (g_t_need : Nat → Int32) (g_t_now : Nat → Int32) (x1 : Int32) (x2 : Int32) (x3 : Int32) (z : Int32 × Int32) : Option ((Int32 × Int32) ⊕ ((Int32 × Int32 × Int32) ⊕ (Int32))) :=
  if (g_t_scribes (0 : Int32).toNatClampNeg) ≤ z.2 then
    if z.1 = 0 then
      (lpF (b_X9_same_89 g_t_opinions g_t_lines x1 x3 z.1) FU (x2, (0 : Int32))).bind (fun x => some (.inr x))
    else
      if x1 = (-9 : Int32) then
        (lpF (b_X9_same_89 g_t_opinions g_t_lines x3 x3 z.1) FU (x2, (0 : Int32))).bind (fun x => some (.inr x))
      else
        (lpF (b_X9_same_89 g_t_opinions g_t_lines x1 x3 z.1) FU (x2, (0 : Int32))).bind (fun x => some (.inr x))
  else
    if z.1 = 0 then
      (f_X9_mayCome g_t_opinions g_t_lines g_t_turn g_t_bent g_t_need g_t_now z.2 x3).bind fun q13 =>
      if q13 = 0 then
        some (.inl ((0 : Int32), z.2 + (1 : Int32)))
      else
        some (.inl ((1 : Int32), z.2 + (1 : Int32)))
    else
      some (.inl ((1 : Int32), z.2 + (1 : Int32)))
def b_X9_same_16 (g_t_opinions : Nat → Int32) (g_t_lines : Nat → Int32) (g_t_scribes : Nat → Int32) (g_t_turn : Nat → Int32) (g_t_bent : Nat → Int32) (g_t_need : Nat → Int32) (g_t_now : Nat → Int32) (z : Int32 × Int32 × Int32) : Option ((Int32 × Int32 × Int32) ⊕ (Int32)) :=
  (f_X9_books g_t_opinions g_t_lines).bind fun q1 =>
  if q1 ≤ z.2.2 then
    if z.1 = (-9 : Int32) then
      some (.inr (0 : Int32))
    else
      some (.inr z.2.1)
  else
    lpF (b_X9_same_30 g_t_opinions g_t_lines g_t_scribes g_t_turn g_t_bent g_t_need g_t_now z.1 z.2.1 z.2.2) FU ((0 : Int32), (0 : Int32))
def f_X9_same (g_t_opinions : Nat → Int32) (g_t_lines : Nat → Int32) (g_t_scribes : Nat → Int32) (g_t_turn : Nat → Int32) (g_t_bent : Nat → Int32) (g_t_need : Nat → Int32) (g_t_now : Nat → Int32) : Option (Int32) :=
  lpF (b_X9_same_16 g_t_opinions g_t_lines g_t_scribes g_t_turn g_t_bent g_t_need g_t_now) FU ((-9 : Int32), (jshl (1 : Int32) (g_t_lines (0 : Int32).toNatClampNeg)) - (1 : Int32), (0 : Int32))
def b_X9_isSo_5 (v_t_margins : Int32) (g_t_opinions : Nat → Int32) (g_t_marginOf : Nat → Int32) (g_t_marginSays : Nat → Int32) (x1 : Int32) (x2 : Int32) (z : Int32 × Int32) : Option ((Int32 × Int32) ⊕ (Int32)) :=
  if v_t_margins ≤ z.2 then
    if (z.1 = 0 ∨ z.1 = 1) then some (.inr z.1) else none
  else
    if z.1 = 0 then
      some (.inl ((0 : Int32), z.2 + (1 : Int32)))
    else
      if (z.2 < 0 ∨ 6 ≤ z.2.toNatClampNeg) then none else
      if (g_t_opinions (0 : Int32).toNatClampNeg) = 0 then none else
      if (z.2 < 0 ∨ 6 ≤ z.2.toNatClampNeg) then none else
      if (jrem ((x1 * (g_t_marginOf z.2.toNatClampNeg)) + x2) (g_t_opinions (0 : Int32).toNatClampNeg)) = (g_t_marginSays z.2.toNatClampNeg) then
        some (.inl ((1 : Int32), z.2 + (1 : Int32)))
      else
        some (.inl ((0 : Int32), z.2 + (1 : Int32)))
def f_X9_isSo (v_t_margins : Int32) (g_t_opinions : Nat → Int32) (g_t_marginOf : Nat → Int32) (g_t_marginSays : Nat → Int32) (p1 : Int32) (p2 : Int32) : Option (Int32) :=
  lpF (b_X9_isSo_5 v_t_margins g_t_opinions g_t_marginOf g_t_marginSays p1 p2) FU ((1 : Int32), (0 : Int32))
def b_X9_now_57 (g_t_opinions : Nat → Int32) (g_t_lines : Nat → Int32) (g_t_scribes : Nat → Int32) (g_t_turn : Nat → Int32) (g_t_bent : Nat → Int32) (g_t_need : Nat → Int32) (g_t_now : Nat → Int32) (z : Int32 × Int32) : Option ((Int32 × Int32) ⊕ (Int32)) :=
  if (g_t_scribes (0 : Int32).toNatClampNeg) ≤ z.2 then
    some (.inr z.1)
  else
    (f_X9_isConvinced g_t_opinions g_t_lines g_t_turn g_t_bent g_t_need z.2 (g_t_now (0 : Int32).toNatClampNeg)).bind fun q2 =>
    if q2 = 0 then
      some (.inl (z.1 ||| (0 : Int32), z.2 + (1 : Int32)))
    else
      some (.inl (z.1 ||| (jshl (1 : Int32) z.2), z.2 + (1 : Int32)))
def b_X9_now_101 (g_t_opinions : Nat → Int32) (g_t_lines : Nat → Int32) (g_t_scribes : Nat → Int32) (g_t_turn : Nat → Int32) (g_t_bent : Nat → Int32) (g_t_need : Nat → Int32) (g_t_now : Nat → Int32) (z : Int32 × Int32) : Option ((Int32 × Int32) ⊕ (Int32)) :=
  if (g_t_scribes (0 : Int32).toNatClampNeg) ≤ z.2 then
    some (.inr z.1)
  else
    (f_X9_fromOf g_t_opinions g_t_lines g_t_turn g_t_bent g_t_need g_t_now z.2).bind fun q5 =>
    if q5 ≤ 0 then
      some (.inl (z.1 ||| (0 : Int32), z.2 + (1 : Int32)))
    else
      some (.inl (z.1 ||| (jshl (1 : Int32) z.2), z.2 + (1 : Int32)))
def b_X9_now_144 (v_t_margins : Int32) (g_t_opinions : Nat → Int32) (g_t_scribes : Nat → Int32) (g_t_turn : Nat → Int32) (g_t_bent : Nat → Int32) (g_t_marginOf : Nat → Int32) (g_t_marginSays : Nat → Int32) (z : Int32 × Int32) : Option ((Int32 × Int32) ⊕ (Int32)) :=
  if (g_t_scribes (0 : Int32).toNatClampNeg) ≤ z.2 then
    some (.inr z.1)
  else
    if (z.2 < 0 ∨ 12 ≤ z.2.toNatClampNeg) then none else
    if (z.2 < 0 ∨ 12 ≤ z.2.toNatClampNeg) then none else
    (f_X9_isSo v_t_margins g_t_opinions g_t_marginOf g_t_marginSays (g_t_turn z.2.toNatClampNeg) (g_t_bent z.2.toNatClampNeg)).bind fun q11 =>
    if q11 = 0 then
      some (.inl (z.1 ||| (0 : Int32), z.2 + (1 : Int32)))
    else
      some (.inl (z.1 ||| (jshl (1 : Int32) z.2), z.2 + (1 : Int32)))
def f_X9_now (v_t_margins : Int32) (g_t_opinions : Nat → Int32) (g_t_lines : Nat → Int32) (g_t_scribes : Nat → Int32) (g_t_turn : Nat → Int32) (g_t_bent : Nat → Int32) (g_t_need : Nat → Int32) (g_t_now : Nat → Int32) (g_t_marginOf : Nat → Int32) (g_t_marginSays : Nat → Int32) (p1 : Int32) : Option (Int32) :=
  if p1 = 0 then
    some (g_t_now (1 : Int32).toNatClampNeg)
  else
  if p1 = 1 then
    some (g_t_now (8 : Int32).toNatClampNeg)
  else
  if p1 = 2 then
    lpF (b_X9_now_57 g_t_opinions g_t_lines g_t_scribes g_t_turn g_t_bent g_t_need g_t_now) FU ((0 : Int32), (0 : Int32))
  else
  if p1 = 3 then
    lpF (b_X9_now_101 g_t_opinions g_t_lines g_t_scribes g_t_turn g_t_bent g_t_need g_t_now) FU ((0 : Int32), (0 : Int32))
  else
  if p1 = 4 then
    (f_X9_same g_t_opinions g_t_lines g_t_scribes g_t_turn g_t_bent g_t_need g_t_now).bind fun q7 =>
    some q7
  else
  if p1 = 5 then
    lpF (b_X9_now_144 v_t_margins g_t_opinions g_t_scribes g_t_turn g_t_bent g_t_marginOf g_t_marginSays) FU ((0 : Int32), (0 : Int32))
  else
  some (-1 : Int32)
def b_X9_go_19 (g_t_opinions : Nat → Int32) (g_t_lines : Nat → Int32) (g_t_turn : Nat → Int32) (g_t_bent : Nat → Int32) (g_t_need : Nat → Int32) (x2 : Int32) (x3 : Int32) (z : Int32 × Int32 × Int32 × Int32) : Option ((Int32 × Int32 × Int32 × Int32) ⊕ (Int32 × Int32 × Int32)) :=
  if z.2.2.1 = (-9 : Int32) then
    if x3 ≤ z.2.2.2 then
      some (.inr (z.2.1, z.2.2.1, z.2.2.2))
    else
      if x2 = 0 then
        some (.inr (z.2.1, z.2.2.1, z.2.2.2))
      else
        if ((jshr x2 (jrem (z.1 + (1 : Int32)) (6 : Int32))) &&& (1 : Int32)) = (1 : Int32) then
          (f_X9_isConvinced g_t_opinions g_t_lines g_t_turn g_t_bent g_t_need (jrem (z.1 + (1 : Int32)) (6 : Int32)) z.2.1).bind fun q5 =>
          if q5 = 0 then
            (f_X9_copyOf g_t_opinions g_t_lines g_t_turn g_t_bent (jrem (z.1 + (1 : Int32)) (6 : Int32)) z.2.1).bind fun q7 =>
            some (.inl (jrem (z.1 + (1 : Int32)) (6 : Int32), q7, z.2.2.1, z.2.2.2 + (1 : Int32)))
          else
            some (.inl (jrem (z.1 + (1 : Int32)) (6 : Int32), z.2.1, jrem (z.1 + (1 : Int32)) (6 : Int32), z.2.2.2))
        else
          some (.inl (jrem (z.1 + (1 : Int32)) (6 : Int32), z.2.1, z.2.2.1, z.2.2.2))
  else
    some (.inr (z.2.1, z.2.2.1, z.2.2.2))
def f_X9_go (g_t_opinions : Nat → Int32) (g_t_lines : Nat → Int32) (g_t_turn : Nat → Int32) (g_t_bent : Nat → Int32) (g_t_need : Nat → Int32) (p1 : Int32) (p2 : Int32) (p3 : Int32) : Option (Int32 × Int32 × Int32) :=
  lpF (b_X9_go_19 g_t_opinions g_t_lines g_t_turn g_t_bent g_t_need p2 p3) FU ((-1 : Int32), p1, (-9 : Int32), (0 : Int32))
def f_X9_boughtIn (g_t_scribes : Nat → Int32) (g_t_now : Nat → Int32) : Option (Int32) :=
  some (((jshl (1 : Int32) (g_t_scribes (0 : Int32).toNatClampNeg)) - (1 : Int32)) &&& ((g_t_now (8 : Int32).toNatClampNeg) ^^^ (-1 : Int32)))
def f_X9_behind (v_t_went : Int32) (v_t_ender : Int32) (v_t_had : Int32) (g_t_opinions : Nat → Int32) (g_t_lines : Nat → Int32) (g_t_scribes : Nat → Int32) (g_t_turn : Nat → Int32) (g_t_bent : Nat → Int32) (g_t_need : Nat → Int32) (g_t_now : Nat → Int32) (p1 : Int32) (p2 : Int32) : Option (Int32 × Int32 × Int32 × Int32) :=
  (f_X9_in p1 (0 : Int32) (99 : Int32)).bind fun q1 =>
  if q1 = 0 then
    some ((-1 : Int32), v_t_went, v_t_ender, v_t_had)
  else
    (f_X9_isLine g_t_lines p2).bind fun q3 =>
    if q3 = 0 then
      some ((-1 : Int32), v_t_went, v_t_ender, v_t_had)
    else
      (f_X9_boughtIn g_t_scribes g_t_now).bind fun q5 =>
      (f_X9_go g_t_opinions g_t_lines g_t_turn g_t_bent g_t_need (g_t_now (0 : Int32).toNatClampNeg) q5 p1).bind fun q6 =>
      (f_X9_lineOf g_t_opinions g_t_lines q6.1 p2).bind fun q7 =>
      some (q7, q6.1, q6.2.1, q6.2.2)
def f_X9_ends (v_t_went : Int32) (v_t_ender : Int32) (v_t_had : Int32) (g_t_opinions : Nat → Int32) (g_t_lines : Nat → Int32) (g_t_scribes : Nat → Int32) (g_t_turn : Nat → Int32) (g_t_bent : Nat → Int32) (g_t_need : Nat → Int32) (g_t_now : Nat → Int32) (p1 : Int32) : Option (Int32 × Int32 × Int32 × Int32) :=
  (f_X9_in p1 (0 : Int32) (1 : Int32)).bind fun q1 =>
  if q1 = 0 then
    some ((-1 : Int32), v_t_went, v_t_ender, v_t_had)
  else
    (f_X9_boughtIn g_t_scribes g_t_now).bind fun q3 =>
    (f_X9_go g_t_opinions g_t_lines g_t_turn g_t_bent g_t_need (g_t_now (0 : Int32).toNatClampNeg) q3 (4000 : Int32)).bind fun q4 =>
    if p1 = 0 then
      some (q4.2.1, q4.1, q4.2.1, q4.2.2)
    else
      if q4.2.2 = (4000 : Int32) then
        some ((-9 : Int32), q4.1, q4.2.1, q4.2.2)
      else
        some (q4.2.2, q4.1, q4.2.1, q4.2.2)
def b_X9_lasts_38 (g_t_opinions : Nat → Int32) (g_t_lines : Nat → Int32) (g_t_scribes : Nat → Int32) (g_t_turn : Nat → Int32) (g_t_bent : Nat → Int32) (g_t_need : Nat → Int32) (g_t_now : Nat → Int32) (x1 : Int32) (z : Int32 × Int32 × Int32 × Int32 × Int32 × Int32) : Option ((Int32 × Int32 × Int32 × Int32 × Int32 × Int32) ⊕ (Int32 × Int32 × Int32 × Int32)) :=
  (f_X9_books g_t_opinions g_t_lines).bind fun q6 =>
  if q6 ≤ z.2.2.1 then
    if x1 = 0 then
      some (.inr (z.1, z.2.2.2.1, z.2.2.2.2.1, z.2.2.2.2.2))
    else
      some (.inr (z.2.1, z.2.2.2.1, z.2.2.2.2.1, z.2.2.2.2.2))
  else
    (f_X9_boughtIn g_t_scribes g_t_now).bind fun q9 =>
    (f_X9_go g_t_opinions g_t_lines g_t_turn g_t_bent g_t_need z.2.2.1 q9 (4000 : Int32)).bind fun q10 =>
    if q10.2.2 = (4000 : Int32) then
      some (.inr ((-9 : Int32), q10.1, q10.2.1, q10.2.2))
    else
      if q10.2.2 ≤ z.2.1 then
        some (.inl (z.1, z.2.1, z.2.2.1 + (1 : Int32), q10.1, q10.2.1, q10.2.2))
      else
        some (.inl (z.2.2.1, q10.2.2, z.2.2.1 + (1 : Int32), q10.1, q10.2.1, q10.2.2))
def f_X9_lasts (v_t_went : Int32) (v_t_ender : Int32) (v_t_had : Int32) (g_t_opinions : Nat → Int32) (g_t_lines : Nat → Int32) (g_t_scribes : Nat → Int32) (g_t_turn : Nat → Int32) (g_t_bent : Nat → Int32) (g_t_need : Nat → Int32) (g_t_now : Nat → Int32) (p1 : Int32) : Option (Int32 × Int32 × Int32 × Int32) :=
  (f_X9_in p1 (0 : Int32) (1 : Int32)).bind fun q1 =>
  if q1 = 0 then
    some ((-1 : Int32), v_t_went, v_t_ender, v_t_had)
  else
    if (g_t_lines (0 : Int32).toNatClampNeg) = 0 then
      some ((-9 : Int32), v_t_went, v_t_ender, v_t_had)
    else
      (f_X9_boughtIn g_t_scribes g_t_now).bind fun q4 =>
      if q4 = 0 then
        some ((-9 : Int32), v_t_went, v_t_ender, v_t_had)
      else
        lpF (b_X9_lasts_38 g_t_opinions g_t_lines g_t_scribes g_t_turn g_t_bent g_t_need g_t_now p1) FU ((-9 : Int32), (-1 : Int32), (0 : Int32), v_t_went, v_t_ender, v_t_had)
def b_X9_buy_17 (g_t_opinions : Nat → Int32) (g_t_lines : Nat → Int32) (g_t_scribes : Nat → Int32) (g_t_turn : Nat → Int32) (g_t_bent : Nat → Int32) (g_t_need : Nat → Int32) (g_t_now : Nat → Int32) (x1 : Int32) (z : Int32 × Int32 × Int32 × Int32 × Int32) : Option ((Int32 × Int32 × Int32 × Int32 × Int32) ⊕ (Int32 × Int32 × Int32 × Int32)) :=
  if (g_t_now (8 : Int32).toNatClampNeg) < z.2.1 then
    some (.inr (z.1, z.2.2.1, z.2.2.2.1, z.2.2.2.2))
  else
    if (z.2.1 &&& ((g_t_now (8 : Int32).toNatClampNeg) ^^^ (-1 : Int32))) = 0 then
      if z.1 = (-9 : Int32) then
        (f_X9_boughtIn g_t_scribes g_t_now).bind fun q6 =>
        (f_X9_go g_t_opinions g_t_lines g_t_turn g_t_bent g_t_need (g_t_now (0 : Int32).toNatClampNeg) (q6 ||| z.2.1) x1).bind fun q7 =>
        if q7.2.2 = x1 then
          some (.inl (z.2.1, z.2.1 + (1 : Int32), q7.1, q7.2.1, q7.2.2))
        else
          some (.inl (z.1, z.2.1 + (1 : Int32), q7.1, q7.2.1, q7.2.2))
      else
        (f_X9_manyOf z.2.1).bind fun q9 =>
        (f_X9_manyOf z.1).bind fun q10 =>
        if q10 ≤ q9 then
          some (.inl (z.1, z.2.1 + (1 : Int32), z.2.2.1, z.2.2.2.1, z.2.2.2.2))
        else
          (f_X9_boughtIn g_t_scribes g_t_now).bind fun q12 =>
          (f_X9_go g_t_opinions g_t_lines g_t_turn g_t_bent g_t_need (g_t_now (0 : Int32).toNatClampNeg) (q12 ||| z.2.1) x1).bind fun q13 =>
          if q13.2.2 = x1 then
            some (.inl (z.2.1, z.2.1 + (1 : Int32), q13.1, q13.2.1, q13.2.2))
          else
            some (.inl (z.1, z.2.1 + (1 : Int32), q13.1, q13.2.1, q13.2.2))
    else
      some (.inl (z.1, z.2.1 + (1 : Int32), z.2.2.1, z.2.2.2.1, z.2.2.2.2))
def f_X9_buy (v_t_went : Int32) (v_t_ender : Int32) (v_t_had : Int32) (g_t_opinions : Nat → Int32) (g_t_lines : Nat → Int32) (g_t_scribes : Nat → Int32) (g_t_turn : Nat → Int32) (g_t_bent : Nat → Int32) (g_t_need : Nat → Int32) (g_t_now : Nat → Int32) (p1 : Int32) : Option (Int32 × Int32 × Int32 × Int32) :=
  (f_X9_in p1 (1 : Int32) (99 : Int32)).bind fun q1 =>
  if q1 = 0 then
    some ((-1 : Int32), v_t_went, v_t_ender, v_t_had)
  else
    lpF (b_X9_buy_17 g_t_opinions g_t_lines g_t_scribes g_t_turn g_t_bent g_t_need g_t_now p1) FU ((-9 : Int32), (0 : Int32), v_t_went, v_t_ender, v_t_had)
def b_X9_odds_103 (v_t_went : Int32) (v_t_ender : Int32) (v_t_had : Int32) (x3 : Int32) (x4 : Int32) (x5 : Int32) (z : Int32 × Int32) : Option ((Int32 × Int32) ⊕ (Int32 × Int32 × Int32 × Int32)) :=
  if z.2 = 0 then
    if x3 = 0 then
      if z.1 = 0 then none else
      some (.inr (x4 / z.1, v_t_went, v_t_ender, v_t_had))
    else
      if z.1 = 0 then none else
      some (.inr (x5 / z.1, v_t_went, v_t_ender, v_t_had))
  else
    if z.2 = 0 then none else
    some (.inl (z.2, jrem z.1 z.2))
def b_X9_odds_67 (v_t_went : Int32) (v_t_ender : Int32) (v_t_had : Int32) (x1 : Int32) (x2 : Int32) (x3 : Int32) (z : Int32 × Int32 × Int32) : Option ((Int32 × Int32 × Int32) ⊕ (Int32 × Int32 × Int32 × Int32)) :=
  if x2 ≤ z.2.2 then
    (lpF (b_X9_odds_103 v_t_went v_t_ender v_t_had x3 z.1 z.2.1) FU (z.1, z.2.1)).bind (fun x => some (.inr x))
  else
    some (.inl (z.1 * ((10 : Int32) - x1), z.2.1 * (10 : Int32), z.2.2 + (1 : Int32)))
def f_X9_odds (v_t_went : Int32) (v_t_ender : Int32) (v_t_had : Int32) (g_t_opinions : Nat → Int32) (g_t_lines : Nat → Int32) (g_t_scribes : Nat → Int32) (g_t_turn : Nat → Int32) (g_t_bent : Nat → Int32) (g_t_need : Nat → Int32) (g_t_now : Nat → Int32) (p1 : Int32) (p2 : Int32) (p3 : Int32) : Option (Int32 × Int32 × Int32 × Int32) :=
  (f_X9_in p1 (0 : Int32) (10 : Int32)).bind fun q1 =>
  if q1 = 0 then
    some ((-1 : Int32), v_t_went, v_t_ender, v_t_had)
  else
    (f_X9_in p2 (0 : Int32) (9 : Int32)).bind fun q3 =>
    if q3 = 0 then
      some ((-1 : Int32), v_t_went, v_t_ender, v_t_had)
    else
      (f_X9_in p3 (0 : Int32) (1 : Int32)).bind fun q5 =>
      if q5 = 0 then
        some ((-1 : Int32), v_t_went, v_t_ender, v_t_had)
      else
        (f_X9_boughtIn g_t_scribes g_t_now).bind fun q7 =>
        (f_X9_go g_t_opinions g_t_lines g_t_turn g_t_bent g_t_need (g_t_now (0 : Int32).toNatClampNeg) q7 p2).bind fun q8 =>
        if q8.2.2 = p2 then
          lpF (b_X9_odds_67 q8.1 q8.2.1 q8.2.2 p1 p2 p3) FU ((1 : Int32), (1 : Int32), (0 : Int32))
        else
          lpF (b_X9_odds_67 q8.1 q8.2.1 q8.2.2 p1 p2 p3) FU ((0 : Int32), (1 : Int32), (0 : Int32))
def b_X9_measure_58 (g_t_opinions : Nat → Int32) (g_t_lines : Nat → Int32) (g_t_scribes : Nat → Int32) (g_t_turn : Nat → Int32) (g_t_bent : Nat → Int32) (g_t_need : Nat → Int32) (g_t_now : Nat → Int32) (x2 : Int32) (x3 : Int32) (z : Int32 × Int32 × (Nat → Int32)) : Option ((Int32 × Int32 × (Nat → Int32)) ⊕ ((Int32 × Int32 × (Nat → Int32)) ⊕ ((Int32 × Int32 × (Nat → Int32)) ⊕ ((Nat → Int32))))) :=
  if (g_t_scribes (0 : Int32).toNatClampNeg) ≤ z.2.1 then
    some (.inr (.inl (z.1, x3 + (1 : Int32), z.2.2)))
  else
    if (x3 < 0 ∨ 625 ≤ x3.toNatClampNeg) then none else
    if (z.2.2 x3.toNatClampNeg) = (-9 : Int32) then
      (f_X9_boughtIn g_t_scribes g_t_now).bind fun q8 =>
      if ((jshr q8 z.2.1) &&& (1 : Int32)) = (1 : Int32) then
        (f_X9_isConvinced g_t_opinions g_t_lines g_t_turn g_t_bent g_t_need z.2.1 x3).bind fun q11 =>
        if q11 = 0 then
          (f_X9_copyOf g_t_opinions g_t_lines g_t_turn g_t_bent z.2.1 x3).bind fun q14 =>
          if (q14 < 0 ∨ 625 ≤ q14.toNatClampNeg) then none else
          if (z.2.2 q14.toNatClampNeg) = x2 then
            if (x3 < 0 ∨ 625 ≤ x3.toNatClampNeg) then none else
            some (.inl ((1 : Int32), z.2.1 + (1 : Int32), upd z.2.2 x3.toNatClampNeg (x2 + (1 : Int32))))
          else
            some (.inl (z.1, z.2.1 + (1 : Int32), z.2.2))
        else
          some (.inl (z.1, z.2.1 + (1 : Int32), z.2.2))
      else
        some (.inl (z.1, z.2.1 + (1 : Int32), z.2.2))
    else
      some (.inr (.inl (z.1, x3 + (1 : Int32), z.2.2)))
def b_X9_measure_47 (g_t_opinions : Nat → Int32) (g_t_lines : Nat → Int32) (g_t_scribes : Nat → Int32) (g_t_turn : Nat → Int32) (g_t_bent : Nat → Int32) (g_t_need : Nat → Int32) (g_t_now : Nat → Int32) (x2 : Int32) (z : Int32 × Int32 × (Nat → Int32)) : Option ((Int32 × Int32 × (Nat → Int32)) ⊕ ((Int32 × Int32 × (Nat → Int32)) ⊕ ((Nat → Int32)))) :=
  (f_X9_books g_t_opinions g_t_lines).bind fun q3 =>
  if q3 ≤ z.2.1 then
    some (.inr (.inl (z.1, x2 + (1 : Int32), z.2.2)))
  else
    lpF (b_X9_measure_58 g_t_opinions g_t_lines g_t_scribes g_t_turn g_t_bent g_t_need g_t_now x2 z.2.1) FU (z.1, (0 : Int32), z.2.2)
def b_X9_measure_39 (g_t_opinions : Nat → Int32) (g_t_lines : Nat → Int32) (g_t_scribes : Nat → Int32) (g_t_turn : Nat → Int32) (g_t_bent : Nat → Int32) (g_t_need : Nat → Int32) (g_t_now : Nat → Int32) (z : Int32 × Int32 × (Nat → Int32)) : Option ((Int32 × Int32 × (Nat → Int32)) ⊕ ((Nat → Int32))) :=
  if z.1 = 0 then
    some (.inr z.2.2)
  else
    lpF (b_X9_measure_47 g_t_opinions g_t_lines g_t_scribes g_t_turn g_t_bent g_t_need g_t_now z.2.1) FU ((0 : Int32), (0 : Int32), z.2.2)
def b_X9_measure_2 (v_t_target : Int32) (g_t_opinions : Nat → Int32) (g_t_lines : Nat → Int32) (g_t_scribes : Nat → Int32) (g_t_turn : Nat → Int32) (g_t_bent : Nat → Int32) (g_t_need : Nat → Int32) (g_t_now : Nat → Int32) (z : Int32 × (Nat → Int32)) : Option ((Int32 × (Nat → Int32)) ⊕ ((Nat → Int32))) :=
  if (625 : Int32) ≤ z.1 then
    (lpF (b_X9_measure_39 g_t_opinions g_t_lines g_t_scribes g_t_turn g_t_bent g_t_need g_t_now) FU ((1 : Int32), (0 : Int32), z.2)).bind (fun x => some (.inr x))
  else
    if z.1 = v_t_target then
      if (z.1 < 0 ∨ 625 ≤ z.1.toNatClampNeg) then none else
      some (.inl (z.1 + (1 : Int32), upd z.2 z.1.toNatClampNeg (0 : Int32)))
    else
      if (z.1 < 0 ∨ 625 ≤ z.1.toNatClampNeg) then none else
      some (.inl (z.1 + (1 : Int32), upd z.2 z.1.toNatClampNeg (-9 : Int32)))
def f_X9_measure (v_t_target : Int32) (g_t_opinions : Nat → Int32) (g_t_lines : Nat → Int32) (g_t_scribes : Nat → Int32) (g_t_turn : Nat → Int32) (g_t_bent : Nat → Int32) (g_t_need : Nat → Int32) (g_t_now : Nat → Int32) (g_t_far : Nat → Int32) : Option ((Nat → Int32)) :=
  lpF (b_X9_measure_2 v_t_target g_t_opinions g_t_lines g_t_scribes g_t_turn g_t_bent g_t_need g_t_now) FU ((0 : Int32), g_t_far)
def b_X9_way_68 (g_t_opinions : Nat → Int32) (g_t_lines : Nat → Int32) (g_t_scribes : Nat → Int32) (g_t_turn : Nat → Int32) (g_t_bent : Nat → Int32) (g_t_need : Nat → Int32) (g_t_now : Nat → Int32) (g_t_far : Nat → Int32) (x2 : Int32) (x3 : Int32) (x5 : Int32) (z : Int32) : Option ((Int32) ⊕ ((Int32 × Int32 × Int32) ⊕ (Int32 × (Nat → Int32)))) :=
  (f_X9_boughtIn g_t_scribes g_t_now).bind fun q8 =>
  if ((jshr q8 z) &&& (1 : Int32)) = 0 then
    some (.inl (z + (1 : Int32)))
  else
    (f_X9_isConvinced g_t_opinions g_t_lines g_t_turn g_t_bent g_t_need z x3).bind fun q10 =>
    if q10 = 0 then
      (f_X9_copyOf g_t_opinions g_t_lines g_t_turn g_t_bent z x3).bind fun q12 =>
      if (q12 < 0 ∨ 625 ≤ q12.toNatClampNeg) then none else
      if (g_t_far q12.toNatClampNeg) = ((x2 - x5) - (1 : Int32)) then
        (f_X9_copyOf g_t_opinions g_t_lines g_t_turn g_t_bent z x3).bind fun q15 =>
        some (.inr (.inl (q15, z, x5 + (1 : Int32))))
      else
        some (.inl (z + (1 : Int32)))
    else
      some (.inl (z + (1 : Int32)))
def b_X9_way_59 (g_t_opinions : Nat → Int32) (g_t_lines : Nat → Int32) (g_t_scribes : Nat → Int32) (g_t_turn : Nat → Int32) (g_t_bent : Nat → Int32) (g_t_need : Nat → Int32) (g_t_now : Nat → Int32) (g_t_far : Nat → Int32) (x1 : Int32) (x2 : Int32) (z : Int32 × Int32 × Int32) : Option ((Int32 × Int32 × Int32) ⊕ (Int32 × (Nat → Int32))) :=
  if x1 < z.2.2 then
    some (.inr (z.2.1, g_t_far))
  else
    lpF (b_X9_way_68 g_t_opinions g_t_lines g_t_scribes g_t_turn g_t_bent g_t_need g_t_now g_t_far x2 z.1 z.2.2) FU (0 : Int32)
def f_X9_way (v_t_target : Int32) (g_t_opinions : Nat → Int32) (g_t_lines : Nat → Int32) (g_t_scribes : Nat → Int32) (g_t_turn : Nat → Int32) (g_t_bent : Nat → Int32) (g_t_need : Nat → Int32) (g_t_now : Nat → Int32) (g_t_far : Nat → Int32) (p1 : Int32) : Option (Int32 × (Nat → Int32)) :=
  if (-1 : Int32) ≤ p1 then
    (f_X9_measure v_t_target g_t_opinions g_t_lines g_t_scribes g_t_turn g_t_bent g_t_need g_t_now g_t_far).bind fun q2 =>
    if ((g_t_now (0 : Int32).toNatClampNeg) < 0 ∨ 625 ≤ (g_t_now (0 : Int32).toNatClampNeg).toNatClampNeg) then none else
    if p1 = (-1 : Int32) then
      if p1 = (-1 : Int32) then
        some (q2 (g_t_now (0 : Int32).toNatClampNeg).toNatClampNeg, q2)
      else
        some ((-9 : Int32), q2)
    else
      if p1 < (q2 (g_t_now (0 : Int32).toNatClampNeg).toNatClampNeg) then
        lpF (b_X9_way_59 g_t_opinions g_t_lines g_t_scribes g_t_turn g_t_bent g_t_need g_t_now q2 p1 (q2 (g_t_now (0 : Int32).toNatClampNeg).toNatClampNeg)) FU (g_t_now (0 : Int32).toNatClampNeg, (-9 : Int32), (0 : Int32))
      else
        if p1 = (-1 : Int32) then
          some (q2 (g_t_now (0 : Int32).toNatClampNeg).toNatClampNeg, q2)
        else
          some ((-9 : Int32), q2)
  else
    some ((-1 : Int32), g_t_far)
def f_X9_from (g_t_opinions : Nat → Int32) (g_t_lines : Nat → Int32) (g_t_scribes : Nat → Int32) (g_t_turn : Nat → Int32) (g_t_bent : Nat → Int32) (g_t_need : Nat → Int32) (g_t_now : Nat → Int32) (p1 : Int32) : Option (Int32) :=
  (f_X9_isScribe g_t_scribes p1).bind fun q1 =>
  if q1 = 0 then
    some (-1 : Int32)
  else
    (f_X9_fromOf g_t_opinions g_t_lines g_t_turn g_t_bent g_t_need g_t_now p1).bind fun q3 =>
    some q3
def f_X9_saw (v_t_margins : Int32) (g_t_opinions : Nat → Int32) (g_t_marginOf : Nat → Int32) (g_t_marginSays : Nat → Int32) (p1 : Int32) (p2 : Int32) : Option (Int32 × Int32 × (Nat → Int32) × (Nat → Int32)) :=
  (f_X9_isOpinion g_t_opinions p1).bind fun q1 =>
  if q1 = 0 then
    some ((-1 : Int32), v_t_margins, g_t_marginOf, g_t_marginSays)
  else
    (f_X9_isOpinion g_t_opinions p2).bind fun q3 =>
    if q3 = 0 then
      some ((-1 : Int32), v_t_margins, g_t_marginOf, g_t_marginSays)
    else
      if v_t_margins = (6 : Int32) then
        some ((-3 : Int32), v_t_margins, g_t_marginOf, g_t_marginSays)
      else
        if (v_t_margins < 0 ∨ 6 ≤ v_t_margins.toNatClampNeg) then none else
        if (v_t_margins < 0 ∨ 6 ≤ v_t_margins.toNatClampNeg) then none else
        some (v_t_margins + (1 : Int32), v_t_margins + (1 : Int32), upd g_t_marginOf v_t_margins.toNatClampNeg p1, upd g_t_marginSays v_t_margins.toNatClampNeg p2)
def f_X9_forget (v_t_margins : Int32) : Option (Int32 × Int32) :=
  some (v_t_margins, (0 : Int32))
def b_X9_fit_53 (v_t_margins : Int32) (g_t_opinions : Nat → Int32) (g_t_marginOf : Nat → Int32) (g_t_marginSays : Nat → Int32) (x2 : Int32) (x5 : Int32) (x6 : Int32) (x7 : Int32) (z : Int32 × Int32 × Int32 × Int32) : Option ((Int32 × Int32 × Int32 × Int32) ⊕ ((Int32 × Int32 × Int32 × Int32 × Int32) ⊕ (Int32))) :=
  if z.2.2.2 < 0 then
    if z.1 ≤ 0 then
      some (.inr (.inl (z.1, z.2.1, x5, x6, x7 + (-1 : Int32))))
    else
      (f_X9_manyOf z.2.2.1).bind fun q8 =>
      if q8 < x6 then
        some (.inr (.inl (z.1, z.2.1, x5, x6, x7 + (-1 : Int32))))
      else
        (f_X9_manyOf z.2.2.1).bind fun q10 =>
        some (.inr (.inl (z.1, z.2.1, x7, q10, x7 + (-1 : Int32))))
  else
    if x2 = 0 then none else
    if x2 = 0 then none else
    (f_X9_isSo v_t_margins g_t_opinions g_t_marginOf g_t_marginSays (z.2.2.2 / x2) (jrem z.2.2.2 x2)).bind fun q13 =>
    if q13 = 0 then
      some (.inl (z.1, z.2.1, z.2.2.1, z.2.2.2 + (-1 : Int32)))
    else
      if x2 = 0 then none else
      if x2 = 0 then none else
      if x2 = 0 then none else
      if x2 = 0 then none else
      if x2 = 0 then none else
      some (.inl (z.1 + (1 : Int32), ((10 : Int32) * (z.2.2.2 / x2)) + (jrem z.2.2.2 x2), z.2.2.1 ||| (jshl (1 : Int32) (jrem (((z.2.2.2 / x2) * x7) + (jrem z.2.2.2 x2)) x2)), z.2.2.2 + (-1 : Int32)))
def b_X9_fit_36 (v_t_margins : Int32) (g_t_opinions : Nat → Int32) (g_t_marginOf : Nat → Int32) (g_t_marginSays : Nat → Int32) (x1 : Int32) (x2 : Int32) (z : Int32 × Int32 × Int32 × Int32 × Int32) : Option ((Int32 × Int32 × Int32 × Int32 × Int32) ⊕ (Int32)) :=
  if z.2.2.2.2 < 0 then
    if x1 = 0 then
      some (.inr z.1)
    else
      if x1 = (1 : Int32) then
        some (.inr z.2.1)
      else
        some (.inr z.2.2.1)
  else
    lpF (b_X9_fit_53 v_t_margins g_t_opinions g_t_marginOf g_t_marginSays x2 z.2.2.1 z.2.2.2.1 z.2.2.2.2) FU ((0 : Int32), z.2.1, (0 : Int32), (x2 * x2) - (1 : Int32))
def f_X9_fit (v_t_margins : Int32) (g_t_opinions : Nat → Int32) (g_t_marginOf : Nat → Int32) (g_t_marginSays : Nat → Int32) (p1 : Int32) : Option (Int32) :=
  (f_X9_in p1 (0 : Int32) (2 : Int32)).bind fun q1 =>
  if q1 = 0 then
    some (-1 : Int32)
  else
    lpF (b_X9_fit_36 v_t_margins g_t_opinions g_t_marginOf g_t_marginSays p1 (g_t_opinions (0 : Int32).toNatClampNeg)) FU ((0 : Int32), (-9 : Int32), (-9 : Int32), (0 : Int32), (g_t_opinions (0 : Int32).toNatClampNeg) - (1 : Int32))
def f_X9_mark (v_t_trace : Int64) (g_t_opinions : Nat → Int32) (g_t_lines : Nat → Int32) (g_t_scribes : Nat → Int32) (g_t_turn : Nat → Int32) (g_t_bent : Nat → Int32) (g_t_now : Nat → Int32) (p1 : Int32) (p2 : Int32) : Option (Int32 × Int64) :=
  (f_X9_in p1 (0 : Int32) (5 : Int32)).bind fun q1 =>
  if q1 = 0 then
    some ((-1000000 : Int32), v_t_trace)
  else
    (f_X9_isScribe g_t_scribes p2).bind fun q3 =>
    if q3 = 0 then
      some ((-1000000 : Int32), v_t_trace)
    else
      (f_X9_disagrees g_t_opinions g_t_lines g_t_turn g_t_bent p2 (g_t_now (0 : Int32).toNatClampNeg)).bind fun q5 =>
      (f_X9_manyOf q5).bind fun q6 =>
      if (((2 : Int32) + p2) < 0 ∨ 300 ≤ ((2 : Int32) + p2).toNatClampNeg) then none else
      if p1 = 0 then
        some (q6, v_t_trace + (1 : Int64))
      else
      if p1 = 1 then
        if (p2 < 0 ∨ 12 ≤ p2.toNatClampNeg) then none else
        some (q6 + (g_t_turn p2.toNatClampNeg), v_t_trace + (11 : Int64))
      else
      if p1 = 2 then
        some (q6 - (g_t_now ((2 : Int32) + p2).toNatClampNeg), v_t_trace + (101 : Int64))
      else
      if p1 = 3 then
        if (p2 < 0 ∨ 12 ≤ p2.toNatClampNeg) then none else
        some ((2 : Int32) * (q6 + (g_t_turn p2.toNatClampNeg)), v_t_trace + (1011 : Int64))
      else
      if p1 = 4 then
        if (p2 < 0 ∨ 12 ≤ p2.toNatClampNeg) then none else
        some ((q6 - (g_t_now ((2 : Int32) + p2).toNatClampNeg)) + (g_t_bent p2.toNatClampNeg), v_t_trace + (10101 : Int64))
      else
      some (q6 + (g_t_now (1 : Int32).toNatClampNeg), v_t_trace + (100001 : Int64))
def b_X9_keep_13 (g_t_isKept : Nat → Int32) (x1 : Int32) (z : Int32 × (Nat → Int32)) : Option ((Int32 × (Nat → Int32)) ⊕ (Int32 × (Nat → Int32) × (Nat → Int32))) :=
  if (100 : Int32) ≤ z.1 then
    if (x1 < 0 ∨ 2 ≤ x1.toNatClampNeg) then none else
    some (.inr (z.2 (1 : Int32).toNatClampNeg, z.2, upd g_t_isKept x1.toNatClampNeg (vp_nar .boolean (1 : Int32))))
  else
    if (z.1 < 0 ∨ 300 ≤ z.1.toNatClampNeg) then none else
    if ((((100 : Int32) * ((1 : Int32) + x1)) + z.1) < 0 ∨ 300 ≤ (((100 : Int32) * ((1 : Int32) + x1)) + z.1).toNatClampNeg) then none else
    some (.inl (z.1 + (1 : Int32), upd z.2 (((100 : Int32) * ((1 : Int32) + x1)) + z.1).toNatClampNeg (z.2 z.1.toNatClampNeg)))
def f_X9_keep (g_t_now : Nat → Int32) (g_t_isKept : Nat → Int32) (p1 : Int32) : Option (Int32 × (Nat → Int32) × (Nat → Int32)) :=
  (f_X9_in p1 (0 : Int32) (1 : Int32)).bind fun q1 =>
  if q1 = 0 then
    some ((-1 : Int32), g_t_now, g_t_isKept)
  else
    lpF (b_X9_keep_13 g_t_isKept p1) FU ((0 : Int32), g_t_now)
def b_X9_back_25 (x1 : Int32) (z : Int32 × (Nat → Int32)) : Option ((Int32 × (Nat → Int32)) ⊕ (Int32 × (Nat → Int32))) :=
  if (100 : Int32) ≤ z.1 then
    some (.inr (z.2 (1 : Int32).toNatClampNeg, z.2))
  else
    if ((((100 : Int32) * ((1 : Int32) + x1)) + z.1) < 0 ∨ 300 ≤ (((100 : Int32) * ((1 : Int32) + x1)) + z.1).toNatClampNeg) then none else
    if (z.1 < 0 ∨ 300 ≤ z.1.toNatClampNeg) then none else
    some (.inl (z.1 + (1 : Int32), upd z.2 z.1.toNatClampNeg (z.2 (((100 : Int32) * ((1 : Int32) + x1)) + z.1).toNatClampNeg)))
def f_X9_back (g_t_now : Nat → Int32) (g_t_isKept : Nat → Int32) (p1 : Int32) : Option (Int32 × (Nat → Int32)) :=
  (f_X9_in p1 (0 : Int32) (1 : Int32)).bind fun q1 =>
  if q1 = 0 then
    some ((-1 : Int32), g_t_now)
  else
    if (p1 < 0 ∨ 2 ≤ p1.toNatClampNeg) then none else
    if (g_t_isKept p1.toNatClampNeg) = 0 then
      some ((-2 : Int32), g_t_now)
    else
      lpF (b_X9_back_25 p1) FU ((0 : Int32), g_t_now)
def f_X9_count (v_t_typed : Int32) (v_t_margins : Int32) (g_t_opinions : Nat → Int32) (g_t_lines : Nat → Int32) (g_t_scribes : Nat → Int32) (g_t_need : Nat → Int32) (g_t_now : Nat → Int32) (p1 : Int32) : Option (Int32) :=
  if p1 = 0 then
    some (g_t_opinions (0 : Int32).toNatClampNeg)
  else
  if p1 = 1 then
    some (g_t_lines (0 : Int32).toNatClampNeg)
  else
  if p1 = 2 then
    some (g_t_scribes (0 : Int32).toNatClampNeg)
  else
  if p1 = 3 then
    some (g_t_need (0 : Int32).toNatClampNeg)
  else
  if p1 = 4 then
    some v_t_margins
  else
  if p1 = 5 then
    some (g_t_now (9 : Int32).toNatClampNeg)
  else
  if p1 = 6 then
    some v_t_typed
  else
  some (-1 : Int32)
def f_X9_trace (v_t_trace : Int64) : Option (Int64) :=
  some v_t_trace
