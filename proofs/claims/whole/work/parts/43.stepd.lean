/-! ===== 20 .. 27 ===== -/
theorem step_from {n L S d K : Nat} {t b : Nat → Nat} {op li sc ne tu be now made : Nat → Int32} {rows : Nat → Nat → Int32} (hM : MH n L S d t b op li sc ne tu be) (hm : LWT n L S d t b made) (hs : SD (n ^ L) S 0 K rows now) (p : Int32) : ∃ r, f_X8_from (nI S) (nI K) rows (nI S) (nI (n ^ L)) made p = some r ∧ f_X9_from op li sc tu be ne now p = some r := by
  obtain ⟨⟨g1, g2, g3, g4, g5, g6, g7⟩, h1, h2, h3, h4, h5⟩ := id hM
  obtain ⟨hK, k, c, r, k1, c1, r1, e1, e2, e3, e4, e5, e6, e7, e8⟩ := sd_get hs
  unfold f_X8_from f_X9_from
  rcases scr_cases g4 h3 p with ⟨s, hsS, rfl, a1, a2⟩ | ⟨a1, a2⟩
  · rw [a1, a2, bnd_some, bnd_some, if_neg one_ne, if_neg one_ne, bookAt hK, e1, bnd_some, countBefore_ok hM.1 hm hsS k1, bnd_some, mfromOf_ok hM hsS k1 e2, bnd_some]; exact ⟨_, rfl, rfl⟩
  · rw [a1, a2, bnd_some, bnd_some, if_pos rfl, if_pos rfl]; exact ⟨_, rfl, rfl⟩
theorem step_saw {n L S d q : Nat} {t b : Nat → Nat} {op li sc ne tu be : Nat → Int32} {mo ms : Nat → Nat} {fC gC fM gM : Nat → Int32} (hM : MH n L S d t b op li sc ne tu be) (hC : MG n q mo ms fC gC) (hMM : MG n q mo ms fM gM) (p o : Int32) : ∃ r q' mo' ms' fC' gC' fM' gM', f_X8_saw (nI n) (nI q) fC gC p o = some (r, nI q', fC', gC') ∧ f_X9_saw (nI q) op fM gM p o = some (r, nI q', fM', gM') ∧ MG n q' mo' ms' fC' gC' ∧ MG n q' mo' ms' fM' gM' := by
  obtain ⟨⟨g1, g2, g3, g4, g5, g6, g7⟩, h1, h2, h3, h4, h5⟩ := id hM
  unfold f_X8_saw f_X9_saw
  rcases opn_cases g2 h1 p with ⟨x, hx, rfl, a1, a2⟩ | ⟨a1, a2⟩
  · rcases opn_cases g2 h1 o with ⟨y, hy, rfl, b1, b2⟩ | ⟨b1, b2⟩
    · have hq := hC.1
      rw [a1, a2, bnd_some, bnd_some, if_neg one_ne, if_neg one_ne, b1, b2, bnd_some, bnd_some, if_neg one_ne, if_neg one_ne]
      unfold f_X2_add
      rw [if_neg (nI_pos (by omega))]
      by_cases e : q = 6
      · subst e
        rw [if_neg (by decide), bnd_some, if_pos rfl, if_pos (show nI 6 = (6 : Int32) from rfl)]
        exact ⟨_, 6, mo, ms, fC, gC, fM, gM, rfl, rfl, hC, hMM⟩
      · rw [if_pos (by rw [l6, nltI (by omega) (by omega)]; omega), if_neg (gN (by omega) (by decide)), if_neg (gN (by omega) (by decide)), bnd_some, if_neg one_ne, if_neg (by rw [l6, neqI (by omega) (by omega)]; exact e), if_neg (gN (by omega) (by decide)), if_neg (gN (by omega) (by decide)), n1, nI_clamp (by omega)]
        have key : ∀ {f g : Nat → Int32}, MG n q mo ms f g → MG n (q + 1) (uq mo q x) (uq ms q y) (upd f q (nI x)) (upd g q (nI y)) := by
          intro f g h
          refine ⟨by omega, fun k hk => ?_⟩
          by_cases ek : k = q
          · subst ek; rw [upd_eq, upd_eq, uq_eq, uq_eq]; exact ⟨rfl, rfl, hx, hy⟩
          · rw [upd_ne ek, upd_ne ek, uq_ne ek, uq_ne ek]; exact h.2 k (by omega)
        exact ⟨_, q + 1, uq mo q x, uq ms q y, _, _, _, _, rfl, rfl, key hC, key hMM⟩
    · rw [a1, a2, bnd_some, bnd_some, if_neg one_ne, if_neg one_ne, b1, b2, bnd_some, bnd_some, if_pos rfl, if_pos rfl]; exact ⟨_, q, mo, ms, fC, gC, fM, gM, rfl, rfl, hC, hMM⟩
  · rw [a1, a2, bnd_some, bnd_some, if_pos rfl, if_pos rfl]; exact ⟨_, q, mo, ms, fC, gC, fM, gM, rfl, rfl, hC, hMM⟩
theorem step_fit {n L S d q : Nat} {t b : Nat → Nat} {op li sc ne tu be : Nat → Int32} {mo ms : Nat → Nat} {fC gC fM gM : Nat → Int32} (hM : MH n L S d t b op li sc ne tu be) (hC : MG n q mo ms fC gC) (hMM : MG n q mo ms fM gM) (p : Int32) : ∃ r, f_X8_fit (nI n) (nI q) fC gC p = some r ∧ f_X9_fit (nI q) op fM gM p = some r := by
  obtain ⟨⟨g1, g2, g3, g4, g5, g6, g7⟩, h1, h2, h3, h4, h5⟩ := id hM
  have hu : ∃ u : Nat → Nat, ∀ x, x < n → ∃ m, orS (phi n q mo ms) (vlN n x) 0 (n * n) m ∧ u x = pc m := by
    refine ⟨fun x => if hx : x < n then pc (Classical.choose (answersTo_ok g1 g2 hC hx)) else 0, fun x hx => ?_⟩
    dsimp only
    rw [dif_pos hx]
    exact ⟨_, (Classical.choose_spec (answersTo_ok g1 g2 hC hx)).1, rfl⟩
  obtain ⟨u, hu⟩ := hu
  rcases rng 2 2 rfl (by decide) p with z | ⟨v, hv, rfl, z0, z2⟩ | ⟨z0, z⟩
  · have e0 : ¬ p = 0 := fun e => by rw [e] at z; exact absurd z (by decide)
    have e1 : ¬ p = 1 := fun e => by rw [e] at z; exact absurd z (by decide)
    have e2 : ¬ p = 2 := fun e => by rw [e] at z; exact absurd z (by decide)
    unfold f_X8_fit f_X9_fit
    rw [if_neg e0, if_neg e1, if_neg e2, in_l z, bnd_some, if_pos rfl]; exact ⟨_, rfl, rfl⟩
  · obtain ⟨X, x1, x2⟩ := mfit_ok g1 g2 h1 hMM hu (what := v) (by omega)
    obtain ⟨Y, y1, y2⟩ := mostTelling_ok g1 g2 hC hu
    rw [x2]
    unfold f_X8_fit
    rcases (show v = 0 ∨ v = 1 ∨ v = 2 by omega) with rfl | rfl | rfl
    · rw [if_pos (show nI 0 = (0 : Int32) from rfl), countFits_ok g1 g2 hC, bnd_some, if_pos rfl]; exact ⟨_, rfl, rfl⟩
    · rw [if_neg (show ¬ nI 1 = (0 : Int32) by decide), if_pos (show nI 1 = (1 : Int32) from rfl), firstFit_ok g1 g2 hC, bnd_some, if_neg (by decide), if_pos rfl]; exact ⟨_, rfl, rfl⟩
    · rw [if_neg (show ¬ nI 2 = (0 : Int32) by decide), if_neg (show ¬ nI 2 = (1 : Int32) by decide), if_pos (show nI 2 = (2 : Int32) from rfl), y2, bnd_some, if_neg (by decide), if_neg (by decide), isMax_uniq y1 x1]; exact ⟨_, rfl, rfl⟩
  · have e0 : ¬ p = 0 := fun e => by rw [e] at z; exact absurd z (by decide)
    have e1 : ¬ p = 1 := fun e => by rw [e] at z; exact absurd z (by decide)
    have e2 : ¬ p = 2 := fun e => by rw [e] at z; exact absurd z (by decide)
    unfold f_X8_fit f_X9_fit
    rw [if_neg e0, if_neg e1, if_neg e2, in_h z0 z, bnd_some, if_pos rfl]; exact ⟨_, rfl, rfl⟩
theorem ask0 (u t b ti c : Int32) (tr : Int64) : f_X3_ask 8 u t b ti c tr (nI 0) (0 : Int32) = some (u, tr + 1) := rfl
theorem ask1 (u t b ti c : Int32) (tr : Int64) : f_X3_ask 8 u t b ti c tr (nI 1) (0 : Int32) = some (u + t, tr + 10 + 1) := rfl
theorem ask2 (u t b ti c : Int32) (tr : Int64) : f_X3_ask 8 u t b ti c tr (nI 2) (0 : Int32) = some (u - ti, tr + 100 + 1) := rfl
theorem ask3 (u t b ti c : Int32) (tr : Int64) : f_X3_ask 8 u t b ti c tr (nI 3) (0 : Int32) = some ((u + t) * 2, tr + 1000 + 10 + 1) := rfl
theorem ask4 (u t b ti c : Int32) (tr : Int64) : f_X3_ask 8 u t b ti c tr (nI 4) (0 : Int32) = some (u - ti + b, tr + 10000 + 100 + 1) := rfl
theorem ask5 (u t b ti c : Int32) (tr : Int64) : f_X3_ask 8 u t b ti c tr (nI 5) (0 : Int32) = some (u + c, tr + 100000 + 1) := rfl
theorem step_mark {n L S d K : Nat} {t b : Nat → Nat} {op li sc ne tu be now tuC beC : Nat → Int32} {rows : Nat → Nat → Int32} (hC : CH n L S d t b tuC beC) (hM : MH n L S d t b op li sc ne tu be) (hs : SD (n ^ L) S 0 K rows now) (y1 y2 y3 y4 y5 : Int32) (tr : Int64) (p q : Int32) : ∃ r x1 x2 x3 x4 x5 tr', f_X8_mark (nI n) (nI L) (nI S) tuC beC (nI K) rows y1 y2 y3 y4 y5 tr p q = some (r, x1, x2, x3, x4, x5, tr') ∧ f_X9_mark tr op li sc tu be now p q = some (r, tr') := by
  obtain ⟨⟨g1, g2, g3, g4, g5, g6, g7⟩, h1, h2, h3, h4, h5⟩ := id hM
  obtain ⟨hK, k, c, r, k1, c1, r1, e1, e2, e3, e4, e5, e6, e7, e8⟩ := sd_get hs
  unfold f_X8_mark f_X9_mark f_X3_isKind
  rcases rng 5 5 rfl (by decide) p with z | ⟨v, hv, rfl, z0, z2⟩ | ⟨z0, z⟩
  · rw [if_pos z, bnd_some, in_l z, bnd_some, if_pos rfl, if_pos rfl]; exact ⟨_, _, _, _, _, _, _, rfl, rfl⟩
  · rw [if_neg z0, if_neg (show ¬ (6 : Int32) ≤ nI v by rw [l6, nleI (by omega) (by omega)]; omega), bnd_some, in_y z0 (i32_nlt z2), bnd_some, if_neg one_ne, if_neg one_ne]
    rcases scr_cases g4 h3 q with ⟨s, hsS, rfl, a1, a2⟩ | ⟨a1, a2⟩
    · have hd := dsN_lt (n := n) (f := sy n t b s) (k := k) g3
      rw [a1, a2, bnd_some, bnd_some, if_neg one_ne, if_neg one_ne, bookAt hK, e1, bnd_some, unlikeLines_ok hC hsS k1, bnd_some, bitCount_ok _ (by omega), bnd_some, turnOf_ok hsS g4 (hC.2 s hsS).1, bnd_some, bentOf_ok hsS g4 (hC.2 s hsS).2, bnd_some, timesAt hK (by omega), bnd_some, copiesAt hK, e3, bnd_some, show now (0 : Int32).toNatClampNeg = nI k from e2, mdisagrees_ok hM hsS k1, bnd_some, manyOf_ok _ (by omega), bnd_some, n2s, if_neg (gN (by omega) (by decide)), nI_clamp (n := 2 + s) (by omega), e8 s (by omega), show now (1 : Int32).toNatClampNeg = nI c from e4]
      rcases (show v = 0 ∨ v = 1 ∨ v = 2 ∨ v = 3 ∨ v = 4 ∨ v = 5 by omega) with rfl | rfl | rfl | rfl | rfl | rfl
      · rw [ask0, bnd_some, if_pos (show nI 0 = (0 : Int32) from rfl)]; exact ⟨_, _, _, _, _, _, _, rfl, rfl⟩
      · rw [ask1, bnd_some, if_neg (show ¬ nI 1 = (0 : Int32) by decide), if_pos (show nI 1 = (1 : Int32) from rfl), if_neg (gN (by omega) (by decide)), nI_clamp (by omega), (h5 s hsS).1, Int64.add_assoc]; exact ⟨_, _, _, _, _, _, _, rfl, rfl⟩
      · rw [ask2, bnd_some, if_neg (show ¬ nI 2 = (0 : Int32) by decide), if_neg (show ¬ nI 2 = (1 : Int32) by decide), if_pos (show nI 2 = (2 : Int32) from rfl), Int64.add_assoc]; exact ⟨_, _, _, _, _, _, _, rfl, rfl⟩
      · rw [ask3, bnd_some, if_neg (show ¬ nI 3 = (0 : Int32) by decide), if_neg (show ¬ nI 3 = (1 : Int32) by decide), if_neg (show ¬ nI 3 = (2 : Int32) by decide), if_pos (show nI 3 = (3 : Int32) from rfl), if_neg (gN (by omega) (by decide)), nI_clamp (by omega), (h5 s hsS).1, Int64.add_assoc, Int64.add_assoc, Int32.mul_comm]; exact ⟨_, _, _, _, _, _, _, rfl, rfl⟩
      · rw [ask4, bnd_some, if_neg (show ¬ nI 4 = (0 : Int32) by decide), if_neg (show ¬ nI 4 = (1 : Int32) by decide), if_neg (show ¬ nI 4 = (2 : Int32) by decide), if_neg (show ¬ nI 4 = (3 : Int32) by decide), if_pos (show nI 4 = (4 : Int32) from rfl), if_neg (gN (by omega) (by decide)), nI_clamp (by omega), (h5 s hsS).2, Int64.add_assoc, Int64.add_assoc]; exact ⟨_, _, _, _, _, _, _, rfl, rfl⟩
      · rw [ask5, bnd_some, if_neg (show ¬ nI 5 = (0 : Int32) by decide), if_neg (show ¬ nI 5 = (1 : Int32) by decide), if_neg (show ¬ nI 5 = (2 : Int32) by decide), if_neg (show ¬ nI 5 = (3 : Int32) by decide), if_neg (show ¬ nI 5 = (4 : Int32) by decide), Int64.add_assoc]; exact ⟨_, _, _, _, _, _, _, rfl, rfl⟩
    · rw [a1, a2, bnd_some, bnd_some, if_pos rfl, if_pos rfl]; exact ⟨_, _, _, _, _, _, _, rfl, rfl⟩
  · have h6 : (6 : Int32) ≤ p := by
      rw [Int32.lt_iff_toInt_lt] at z
      rw [Int32.le_iff_toInt_le]
      have a1 : ((5 : Int32)).toInt = 5 := by decide
      have a2 : ((6 : Int32)).toInt = 6 := by decide
      omega
    rw [if_neg z0, if_pos h6, bnd_some, in_h z0 z, bnd_some, if_pos rfl, if_pos rfl]; exact ⟨_, _, _, _, _, _, _, rfl, rfl⟩
/-- an image, if it was kept -/
def IM (B S o : Nat) (kept kn : Int32) (rows : Nat → Nat → Int32) (now : Nat → Int32) : Prop := kept = 0 ∨ ∃ K, kn = nI K ∧ SD B S o K rows now
theorem IM_stay {B S o : Nat} {kept kn : Int32} {rows : Nat → Nat → Int32} {now now' : Nat → Int32} (h : IM B S o kept kn rows now) (hn : ∀ x, x < 100 → now' (o + x) = now (o + x)) : IM B S o kept kn rows now' := by
  rcases h with h | ⟨K, h1, h2⟩
  · exact Or.inl h
  · exact Or.inr ⟨K, h1, SD_stay h2 hn⟩
theorem IM_hi {B S o : Nat} {kept kn : Int32} {rows : Nat → Nat → Int32} {now now' : Nat → Int32} (h : IM B S o kept kn rows now) (ho : 100 ≤ o) (hn : ∀ x, 100 ≤ x → now' x = now x) : IM B S o kept kn rows now' := IM_stay h (fun x _ => hn _ (by omega))
theorem nar1 : vp_nar .boolean (1 : Int32) = 1 := by decide
theorem step_keep {B S K : Nat} {kZ kO kn0 kn1 : Int32} {rows rows0 rows1 : Nat → Nat → Int32} {now ik : Nat → Int32} (hs : SD B S 0 K rows now) (h0 : ik 0 = kZ) (h1 : ik 1 = kO) (i0 : IM B S 100 kZ kn0 rows0 now) (i1 : IM B S 200 kO kn1 rows1 now) (p : Int32) : ∃ r kZ' kO' kn0' rows0' kn1' rows1' now' ik', f_X8_keep kZ kO (nI K) rows kn0 rows0 kn1 rows1 p = some (r, kZ', kO', kn0', rows0', kn1', rows1') ∧ f_X9_keep now ik p = some (r, now', ik') ∧ SD B S 0 K rows now' ∧ ik' 0 = kZ' ∧ ik' 1 = kO' ∧ IM B S 100 kZ' kn0' rows0' now' ∧ IM B S 200 kO' kn1' rows1' now' := by
  obtain ⟨hK, k, c, r, k1, c1, r1, e1, e2, e3, e4, e5, e6, e7, e8⟩ := sd_get hs
  unfold f_X8_keep f_X9_keep
  rcases rng 1 1 rfl (by decide) p with z | ⟨v, hv, rfl, z0, z2⟩ | ⟨z0, z⟩
  · have e0 : ¬ p = 0 := fun e => by rw [e] at z; exact absurd z (by decide)
    have e1 : ¬ p = 1 := fun e => by rw [e] at z; exact absurd z (by decide)
    rw [if_neg e0, if_neg e1, in_l z, bnd_some, if_pos rfl]; exact ⟨_, _, _, _, _, _, _, now, ik, rfl, rfl, hs, h0, h1, i0, i1⟩
  · rw [in_y z0 (i32_nlt z2), bnd_some, if_neg one_ne, keep13_ok (by omega), nar1, e4]
    rcases (show v = 0 ∨ v = 1 by omega) with rfl | rfl
    · obtain ⟨rows', u1, u2⟩ := become_ok (rows0 := rows0) hK
      rw [if_pos (show nI 0 = (0 : Int32) from rfl), u1, bnd_some, copiesAt hK, e3, bnd_some]
      refine ⟨_, _, _, _, rows', _, _, _, _, rfl, rfl, ?_, ?_, ?_, ?_, ?_⟩
      · exact SD_stay hs (fun x hx => kpF_o (by omega))
      · exact upd_eq
      · rw [upd_ne (by decide)]; exact h1
      · exact Or.inr ⟨K, rfl, SD_move hs u2 (fun x hx => by rw [Nat.zero_add]; exact kpF_i hx)⟩
      · exact IM_stay i1 (fun x hx => kpF_o (by omega))
    · obtain ⟨rows', u1, u2⟩ := become_ok (rows0 := rows1) hK
      rw [if_neg (show ¬ nI 1 = (0 : Int32) by decide), if_pos (show nI 1 = (1 : Int32) from rfl), u1, bnd_some, copiesAt hK, e3, bnd_some]
      refine ⟨_, _, _, _, _, _, rows', _, _, rfl, rfl, ?_, ?_, ?_, ?_, ?_⟩
      · exact SD_stay hs (fun x hx => kpF_o (by omega))
      · rw [upd_ne (by decide)]; exact h0
      · exact upd_eq
      · exact IM_stay i0 (fun x hx => kpF_o (by omega))
      · exact Or.inr ⟨K, rfl, SD_move hs u2 (fun x hx => by rw [Nat.zero_add]; exact kpF_i hx)⟩
  · have e0 : ¬ p = 0 := fun e => by rw [e] at z; exact absurd z (by decide)
    have e1 : ¬ p = 1 := fun e => by rw [e] at z; exact absurd z (by decide)
    rw [if_neg e0, if_neg e1, in_h z0 z, bnd_some, if_pos rfl]; exact ⟨_, _, _, _, _, _, _, now, ik, rfl, rfl, hs, h0, h1, i0, i1⟩
theorem step_back {B S K : Nat} {kZ kO kn0 kn1 : Int32} {rows rows0 rows1 : Nat → Nat → Int32} {now ik : Nat → Int32} (hs : SD B S 0 K rows now) (h0 : ik 0 = kZ) (h1 : ik 1 = kO) (i0 : IM B S 100 kZ kn0 rows0 now) (i1 : IM B S 200 kO kn1 rows1 now) (p : Int32) : ∃ r K' rows' now', f_X8_back kZ kO (nI K) rows kn0 rows0 kn1 rows1 p = some (r, nI K', rows') ∧ f_X9_back now ik p = some (r, now') ∧ SD B S 0 K' rows' now' ∧ ∀ x, 100 ≤ x → now' x = now x := by
  unfold f_X8_back f_X9_back
  have key : ∀ {o K0 : Nat} {rowsi : Nat → Nat → Int32}, SD B S o K0 rowsi now → ∃ rows', f_X6_become rows (nI K0) rowsi = some (nI K0, rows') ∧ f_X6_copiesNow (nI K0) rows' = some (now (o + 1)) ∧ SD B S 0 K0 rows' (bkF now o 100) := by
    intro o K0 rowsi h
    obtain ⟨rows', u1, u2⟩ := become_ok (rows0 := rows) h.2.1
    refine ⟨rows', u1, ?_, SD_move h u2 (fun x hx => by rw [Nat.zero_add]; exact bkF_i hx)⟩
    have := h.2.2.1 1 (by decide)
    rw [psi1] at this
    rw [copiesAt h.2.1, u2 K0 (Nat.le_refl _) 1 (by decide), this]
  rcases rng 1 1 rfl (by decide) p with z | ⟨v, hv, rfl, z0, z2⟩ | ⟨z0, z⟩
  · rw [if_pos z, in_l z, bnd_some, if_pos rfl]; exact ⟨_, K, rows, now, rfl, rfl, hs, fun _ _ => rfl⟩
  · rw [if_neg z0, if_pos z2, in_y z0 (i32_nlt z2), bnd_some, if_neg one_ne, if_neg (gN (by omega) (by decide)), nI_clamp (by omega), back25_ok (by omega)]
    rcases (show v = 0 ∨ v = 1 by omega) with rfl | rfl
    · rw [if_pos (show nI 0 = (0 : Int32) from rfl), h0]
      rcases i0 with i0 | ⟨K0, rfl, i0⟩
      · rw [if_pos i0, if_pos i0]; exact ⟨_, K, rows, now, rfl, rfl, hs, fun _ _ => rfl⟩
      · by_cases ez : kZ = 0
        · rw [if_pos ez, if_pos ez]; exact ⟨_, K, rows, now, rfl, rfl, hs, fun _ _ => rfl⟩
        · obtain ⟨rows', u1, u2, u3⟩ := key i0
          rw [if_neg ez, if_neg ez, if_pos (show nI 0 = (0 : Int32) from rfl), u1, bnd_some]
          dsimp only
          rw [u2, bnd_some]
          exact ⟨_, K0, rows', _, rfl, rfl, u3, fun x hx => bkF_o hx⟩
    · rw [if_neg (show ¬ nI 1 = (0 : Int32) by decide), h1]
      rcases i1 with i1 | ⟨K0, rfl, i1⟩
      · rw [if_pos i1, if_pos i1]; exact ⟨_, K, rows, now, rfl, rfl, hs, fun _ _ => rfl⟩
      · by_cases ez : kO = 0
        · rw [if_pos ez, if_pos ez]; exact ⟨_, K, rows, now, rfl, rfl, hs, fun _ _ => rfl⟩
        · obtain ⟨rows', u1, u2, u3⟩ := key i1
          rw [if_neg ez, if_neg ez, if_neg (show ¬ nI 1 = (0 : Int32) by decide), u1, bnd_some]
          dsimp only
          rw [u2, bnd_some]
          exact ⟨_, K0, rows', _, rfl, rfl, u3, fun x hx => bkF_o hx⟩
  · rw [if_neg z0, if_neg (i32_nle z), in_h z0 z, bnd_some, if_pos rfl]; exact ⟨_, K, rows, now, rfl, rfl, hs, fun _ _ => rfl⟩
theorem step_count {n L S d K q len : Nat} {t b : Nat → Nat} {op li sc ne tu be now : Nat → Int32} {rows : Nat → Nat → Int32} (hM : MH n L S d t b op li sc ne tu be) (hs : SD (n ^ L) S 0 K rows now) (p : Int32) : ∃ r, f_X8_count (nI n) (nI L) (nI S) (nI d) (nI len) (nI K) (nI q) p = some r ∧ f_X9_count (nI len) (nI q) op li sc ne now p = some r := by
  obtain ⟨-, h1, h2, h3, h4, h5⟩ := id hM
  obtain ⟨hK, k, c, r, k1, c1, r1, e1, e2, e3, e4, e5, e6, e7, e8⟩ := sd_get hs
  unfold f_X8_count f_X9_count
  rw [show op (0 : Int32).toNatClampNeg = nI n from h1, show li (0 : Int32).toNatClampNeg = nI L from h2, show sc (0 : Int32).toNatClampNeg = nI S from h3, show ne (0 : Int32).toNatClampNeg = nI d from h4, show now (9 : Int32).toNatClampNeg = nI K from e7]
  by_cases q0 : p = 0
  · rw [if_pos q0]; exact ⟨_, rfl, rfl⟩
  rw [if_neg q0]
  by_cases q1 : p = 1
  · rw [if_pos q1]; exact ⟨_, rfl, rfl⟩
  rw [if_neg q1]
  by_cases q2 : p = 2
  · rw [if_pos q2]; exact ⟨_, rfl, rfl⟩
  rw [if_neg q2]
  by_cases q3 : p = 3
  · rw [if_pos q3]; exact ⟨_, rfl, rfl⟩
  rw [if_neg q3]
  by_cases q4 : p = 4
  · rw [if_pos q4]; exact ⟨_, rfl, rfl⟩
  rw [if_neg q4]
  by_cases q5 : p = 5
  · rw [if_pos q5]; exact ⟨_, rfl, rfl⟩
  rw [if_neg q5]
  by_cases q6 : p = 6
  · rw [if_pos q6]; exact ⟨_, rfl, rfl⟩
  rw [if_neg q6]
  exact ⟨_, rfl, rfl⟩
