/-! the pure functions of X7 -/
def f_X7_isBook (p0 : Int32) : Option (Int32) :=
  if p0 < 0 then
    some (0 : Int32)
  else
    if (625 : Int32) ≤ p0 then
      some (0 : Int32)
    else
      some (1 : Int32)
def f_X7_distanceOf (g_t_distance : Nat → Int32) (p1 : Int32) : Option (Int32) :=
  (f_X7_isBook p1).bind fun q1 =>
  if q1 = 0 then
    some (-1 : Int32)
  else
    if (p1 < 0 ∨ 625 ≤ p1.toNatClampNeg) then none else
    some (g_t_distance p1.toNatClampNeg)
def f_X7_isFound (g_t_distance : Nat → Int32) (p1 : Int32) : Option (Int32) :=
  (f_X7_distanceOf g_t_distance p1).bind fun q1 =>
  if q1 = (-1 : Int32) then
    some (0 : Int32)
  else
    some (1 : Int32)
def f_X7_find (v_t_queued : Int32) (g_t_distance : Nat → Int32) (g_t_before : Nat → Int32) (g_t_lastScribe : Nat → Int32) (g_t_queue : Nat → Int32) (p1 : Int32) (p2 : Int32) (p3 : Int32) (p4 : Int32) : Option (Int32 × (Nat → Int32) × (Nat → Int32) × (Nat → Int32) × (Nat → Int32)) :=
  (f_X7_isBook p1).bind fun q1 =>
  if q1 = 0 then
    some (v_t_queued, g_t_distance, g_t_before, g_t_lastScribe, g_t_queue)
  else
    (f_X7_isFound g_t_distance p1).bind fun q3 =>
    if q3 = 0 then
      if v_t_queued < 0 then
        some (v_t_queued, g_t_distance, g_t_before, g_t_lastScribe, g_t_queue)
      else
        if (625 : Int32) ≤ v_t_queued then
          some (v_t_queued, g_t_distance, g_t_before, g_t_lastScribe, g_t_queue)
        else
          if (p1 < 0 ∨ 625 ≤ p1.toNatClampNeg) then none else
          if (p1 < 0 ∨ 625 ≤ p1.toNatClampNeg) then none else
          if (p1 < 0 ∨ 625 ≤ p1.toNatClampNeg) then none else
          if (v_t_queued < 0 ∨ 625 ≤ v_t_queued.toNatClampNeg) then none else
          some (v_t_queued + (1 : Int32), upd g_t_distance p1.toNatClampNeg p4, upd g_t_before p1.toNatClampNeg p2, upd g_t_lastScribe p1.toNatClampNeg p3, upd g_t_queue v_t_queued.toNatClampNeg p1)
    else
      some (v_t_queued, g_t_distance, g_t_before, g_t_lastScribe, g_t_queue)
def b_X7_search_79 (v_t_laws_scribes : Int32) (v_t_laws_books : Int32) (g_t_laws_made : Nat → Int32) (x2 : Int32) (x4 : Int32) (x5 : Int32) (z : Int32 × Int32 × (Nat → Int32) × (Nat → Int32) × (Nat → Int32) × (Nat → Int32)) : Option ((Int32 × Int32 × (Nat → Int32) × (Nat → Int32) × (Nat → Int32) × (Nat → Int32)) ⊕ ((Int32 × Int32 × (Nat → Int32) × (Nat → Int32) × (Nat → Int32) × (Nat → Int32)) ⊕ (Int32 × (Nat → Int32) × (Nat → Int32) × (Nat → Int32) × (Nat → Int32)))) :=
  if (6 : Int32) ≤ z.1 then
    some (.inr (.inl (x4 + (1 : Int32), z.2.1, z.2.2.1, z.2.2.2.1, z.2.2.2.2.1, z.2.2.2.2.2)))
  else
    if ((jshr x2 z.1) &&& (1 : Int32)) = (1 : Int32) then
      (f_X1_copyBy v_t_laws_scribes v_t_laws_books g_t_laws_made z.1 x5).bind fun q10 =>
      (f_X7_distanceOf z.2.2.1 x5).bind fun q11 =>
      (f_X7_find z.2.1 z.2.2.1 z.2.2.2.1 z.2.2.2.2.1 z.2.2.2.2.2 q10 x5 z.1 (q11 + (1 : Int32))).bind fun q12 =>
      some (.inl (z.1 + (1 : Int32), q12.1, q12.2.1, q12.2.2.1, q12.2.2.2.1, q12.2.2.2.2))
    else
      some (.inl (z.1 + (1 : Int32), z.2.1, z.2.2.1, z.2.2.2.1, z.2.2.2.2.1, z.2.2.2.2.2))
def b_X7_search_42 (v_t_laws_scribes : Int32) (v_t_laws_books : Int32) (g_t_laws_made : Nat → Int32) (x2 : Int32) (x3 : Int32) (z : Int32 × Int32 × (Nat → Int32) × (Nat → Int32) × (Nat → Int32) × (Nat → Int32)) : Option ((Int32 × Int32 × (Nat → Int32) × (Nat → Int32) × (Nat → Int32) × (Nat → Int32)) ⊕ (Int32 × (Nat → Int32) × (Nat → Int32) × (Nat → Int32) × (Nat → Int32))) :=
  if z.2.1 ≤ z.1 then
    some (.inr (z.2.1, z.2.2.1, z.2.2.2.1, z.2.2.2.2.1, z.2.2.2.2.2))
  else
    if (625 : Int32) ≤ z.1 then
      some (.inr (z.2.1, z.2.2.1, z.2.2.2.1, z.2.2.2.2.1, z.2.2.2.2.2))
    else
      (f_X7_isFound z.2.2.1 x3).bind fun q5 =>
      if q5 = 0 then
        if (z.1 < 0 ∨ 625 ≤ z.1.toNatClampNeg) then none else
        lpF (b_X7_search_79 v_t_laws_scribes v_t_laws_books g_t_laws_made x2 z.1 (z.2.2.2.2.2 z.1.toNatClampNeg)) FU ((0 : Int32), z.2.1, z.2.2.1, z.2.2.2.1, z.2.2.2.2.1, z.2.2.2.2.2)
      else
        some (.inr (z.2.1, z.2.2.1, z.2.2.2.1, z.2.2.2.2.1, z.2.2.2.2.2))
def b_X7_search_3 (v_t_laws_scribes : Int32) (v_t_laws_books : Int32) (g_t_laws_made : Nat → Int32) (g_t_before : Nat → Int32) (g_t_lastScribe : Nat → Int32) (g_t_queue : Nat → Int32) (x1 : Int32) (x2 : Int32) (x3 : Int32) (z : Int32 × (Nat → Int32)) : Option ((Int32 × (Nat → Int32)) ⊕ (Int32 × (Nat → Int32) × (Nat → Int32) × (Nat → Int32) × (Nat → Int32))) :=
  if (625 : Int32) ≤ z.1 then
    (f_X7_find (0 : Int32) z.2 g_t_before g_t_lastScribe g_t_queue x1 x1 (-9 : Int32) (0 : Int32)).bind fun q2 =>
    (lpF (b_X7_search_42 v_t_laws_scribes v_t_laws_books g_t_laws_made x2 x3) FU ((0 : Int32), q2.1, q2.2.1, q2.2.2.1, q2.2.2.2.1, q2.2.2.2.2)).bind (fun x => some (.inr x))
  else
    if (z.1 < 0 ∨ 625 ≤ z.1.toNatClampNeg) then none else
    some (.inl (z.1 + (1 : Int32), upd z.2 z.1.toNatClampNeg (-1 : Int32)))
def f_X7_search (v_t_laws_scribes : Int32) (v_t_laws_books : Int32) (g_t_laws_made : Nat → Int32) (g_t_distance : Nat → Int32) (g_t_before : Nat → Int32) (g_t_lastScribe : Nat → Int32) (g_t_queue : Nat → Int32) (p1 : Int32) (p2 : Int32) (p3 : Int32) : Option (Int32 × (Nat → Int32) × (Nat → Int32) × (Nat → Int32) × (Nat → Int32)) :=
  lpF (b_X7_search_3 v_t_laws_scribes v_t_laws_books g_t_laws_made g_t_before g_t_lastScribe g_t_queue p1 p2 p3) FU ((0 : Int32), g_t_distance)
def f_X7_fewestCopies (g_t_distance : Nat → Int32) (p1 : Int32) : Option (Int32) :=
  (f_X7_isFound g_t_distance p1).bind fun q1 =>
  if q1 = 0 then
    some (-9 : Int32)
  else
    (f_X7_distanceOf g_t_distance p1).bind fun q3 =>
    some q3
def b_X7_scribeOfCopy_21 (g_t_distance : Nat → Int32) (g_t_before : Nat → Int32) (g_t_lastScribe : Nat → Int32) (x2 : Int32) (z : Int32 × Int32) : Option ((Int32 × Int32) ⊕ (Int32)) :=
  if (625 : Int32) ≤ z.2 then
    (f_X7_isBook z.1).bind fun q5 =>
    if q5 = 0 then
      some (.inr (-9 : Int32))
    else
      if (z.1 < 0 ∨ 625 ≤ z.1.toNatClampNeg) then none else
      some (.inr (g_t_lastScribe z.1.toNatClampNeg))
  else
    (f_X7_isBook z.1).bind fun q8 =>
    if q8 = 0 then
      (f_X7_isBook z.1).bind fun q10 =>
      if q10 = 0 then
        some (.inr (-9 : Int32))
      else
        if (z.1 < 0 ∨ 625 ≤ z.1.toNatClampNeg) then none else
        some (.inr (g_t_lastScribe z.1.toNatClampNeg))
    else
      (f_X7_distanceOf g_t_distance z.1).bind fun q13 =>
      if q13 ≤ (x2 + (1 : Int32)) then
        (f_X7_isBook z.1).bind fun q15 =>
        if q15 = 0 then
          some (.inr (-9 : Int32))
        else
          if (z.1 < 0 ∨ 625 ≤ z.1.toNatClampNeg) then none else
          some (.inr (g_t_lastScribe z.1.toNatClampNeg))
      else
        if (z.1 < 0 ∨ 625 ≤ z.1.toNatClampNeg) then none else
        some (.inl (g_t_before z.1.toNatClampNeg, z.2 + (1 : Int32)))
def f_X7_scribeOfCopy (g_t_distance : Nat → Int32) (g_t_before : Nat → Int32) (g_t_lastScribe : Nat → Int32) (p1 : Int32) (p2 : Int32) : Option (Int32) :=
  if p2 < 0 then
    some (-9 : Int32)
  else
    (f_X7_distanceOf g_t_distance p1).bind fun q2 =>
    if p2 < q2 then
      lpF (b_X7_scribeOfCopy_21 g_t_distance g_t_before g_t_lastScribe p2) FU (p1, (0 : Int32))
    else
      some (-9 : Int32)
def b_X7_countBefore_5 (v_t_laws_scribes : Int32) (v_t_laws_books : Int32) (g_t_laws_made : Nat → Int32) (x1 : Int32) (x2 : Int32) (z : Int32 × Int32) : Option ((Int32 × Int32) ⊕ (Int32)) :=
  if v_t_laws_books ≤ z.2 then
    some (.inr z.1)
  else
    (f_X1_copyBy v_t_laws_scribes v_t_laws_books g_t_laws_made x1 z.2).bind fun q2 =>
    if q2 = x2 then
      some (.inl (z.1 + (1 : Int32), z.2 + (1 : Int32)))
    else
      some (.inl (z.1, z.2 + (1 : Int32)))
def f_X7_countBefore (v_t_laws_scribes : Int32) (v_t_laws_books : Int32) (g_t_laws_made : Nat → Int32) (p1 : Int32) (p2 : Int32) : Option (Int32) :=
  lpF (b_X7_countBefore_5 v_t_laws_scribes v_t_laws_books g_t_laws_made p1 p2) FU ((0 : Int32), (0 : Int32))
def b_X7_lastCopiers_4 (v_t_laws_scribes : Int32) (v_t_laws_books : Int32) (g_t_laws_made : Nat → Int32) (x1 : Int32) (z : Int32 × Int32) : Option ((Int32 × Int32) ⊕ (Int32)) :=
  if v_t_laws_scribes ≤ z.2 then
    some (.inr z.1)
  else
    (f_X7_countBefore v_t_laws_scribes v_t_laws_books g_t_laws_made z.2 x1).bind fun q2 =>
    if q2 ≤ 0 then
      some (.inl (z.1, z.2 + (1 : Int32)))
    else
      some (.inl (z.1 ||| (jshl (1 : Int32) z.2), z.2 + (1 : Int32)))
def f_X7_lastCopiers (v_t_laws_scribes : Int32) (v_t_laws_books : Int32) (g_t_laws_made : Nat → Int32) (p1 : Int32) : Option (Int32) :=
  lpF (b_X7_lastCopiers_4 v_t_laws_scribes v_t_laws_books g_t_laws_made p1) FU ((0 : Int32), (0 : Int32))
def b_X7_alikeLines_5 (v_p0_opinions : Int32) (v_p0_lines : Int32) (x1 : Int32) (x2 : Int32) (z : Int32 × Int32) : Option ((Int32 × Int32) ⊕ (Int32)) :=
  if v_p0_lines ≤ z.2 then
    some (.inr z.1)
  else
    (f_X0_lineOf v_p0_opinions v_p0_lines x1 z.2).bind fun q2 =>
    (f_X0_lineOf v_p0_opinions v_p0_lines x2 z.2).bind fun q3 =>
    if q2 = q3 then
      some (.inl (z.1 ||| (jshl (1 : Int32) z.2), z.2 + (1 : Int32)))
    else
      some (.inl (z.1, z.2 + (1 : Int32)))
def f_X7_alikeLines (v_p0_opinions : Int32) (v_p0_lines : Int32) (p1 : Int32) (p2 : Int32) : Option (Int32) :=
  lpF (b_X7_alikeLines_5 v_p0_opinions v_p0_lines p1 p2) FU ((0 : Int32), (0 : Int32))
def b_X7_sameLines_24 (v_t_laws_scribes : Int32) (v_t_laws_books : Int32) (g_t_laws_made : Nat → Int32) (v_p1_opinions : Int32) (v_p1_lines : Int32) (x2 : Int32) (x5 : Int32) (z : Int32 × Int32 × Int32) : Option ((Int32 × Int32 × Int32) ⊕ ((Int32 × Int32 × Int32) ⊕ (Int32))) :=
  if v_t_laws_books ≤ z.2.2 then
    some (.inr (.inl (z.1, z.2.1, x5 + (1 : Int32))))
  else
    (f_X1_copyBy v_t_laws_scribes v_t_laws_books g_t_laws_made x5 z.2.2).bind fun q3 =>
    if q3 = x2 then
      if z.1 = (-9 : Int32) then
        (f_X7_alikeLines v_p1_opinions v_p1_lines z.2.2 z.2.2).bind fun q7 =>
        some (.inl (z.2.2, ((jshl (1 : Int32) v_p1_lines) - (1 : Int32)) &&& q7, z.2.2 + (1 : Int32)))
      else
        (f_X7_alikeLines v_p1_opinions v_p1_lines z.1 z.2.2).bind fun q6 =>
        some (.inl (z.1, z.2.1 &&& q6, z.2.2 + (1 : Int32)))
    else
      some (.inl (z.1, z.2.1, z.2.2 + (1 : Int32)))
def b_X7_sameLines_9 (v_t_laws_scribes : Int32) (v_t_laws_books : Int32) (g_t_laws_made : Nat → Int32) (v_p1_opinions : Int32) (v_p1_lines : Int32) (x2 : Int32) (z : Int32 × Int32 × Int32) : Option ((Int32 × Int32 × Int32) ⊕ (Int32)) :=
  if v_t_laws_scribes ≤ z.2.2 then
    some (.inr z.2.1)
  else
    lpF (b_X7_sameLines_24 v_t_laws_scribes v_t_laws_books g_t_laws_made v_p1_opinions v_p1_lines x2 z.2.2) FU (z.1, z.2.1, (0 : Int32))
def f_X7_sameLines (v_t_laws_scribes : Int32) (v_t_laws_books : Int32) (g_t_laws_made : Nat → Int32) (v_p1_opinions : Int32) (v_p1_lines : Int32) (p2 : Int32) : Option (Int32) :=
  lpF (b_X7_sameLines_9 v_t_laws_scribes v_t_laws_books g_t_laws_made v_p1_opinions v_p1_lines p2) FU ((-9 : Int32), (0 : Int32), (0 : Int32))
