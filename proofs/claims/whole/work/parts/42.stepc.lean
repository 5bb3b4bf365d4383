/-! ===== 14 .. 18: rounds ===== -/
theorem step_behind {n L S d K : Nat} {t b : Nat → Nat} {op li sc ne tu be now made : Nat → Int32} {rows : Nat → Nat → Int32} (hM : MH n L S d t b op li sc ne tu be) (hm : LWT n L S d t b made) (hs : SD (n ^ L) S 0 K rows now) (y1 y2 y3 y4 v1 v2 v3 : Int32) (p q : Int32) : ∃ r x1 x2 x3 x4 u1 u2 u3, f_X8_behind (nI n) (nI L) (nI S) (nI K) rows y1 y2 y3 y4 (nI S) (nI (n ^ L)) made p q = some (r, x1, x2, x3, x4) ∧ f_X9_behind v1 v2 v3 op li sc tu be ne now p q = some (r, u1, u2, u3) := by
  obtain ⟨⟨g1, g2, g3, g4, g5, g6, g7⟩, h1, h2, h3, h4, h5⟩ := id hM
  obtain ⟨hK, k, c, r, k1, c1, r1, e1, e2, e3, e4, e5, e6, e7, e8⟩ := sd_get hs
  unfold f_X8_behind f_X9_behind
  rcases rng 99 99 rfl (by decide) p with z | ⟨v, hv, rfl, z0, z2⟩ | ⟨z0, z⟩
  · rw [if_pos z, in_l z, bnd_some, if_pos rfl]; exact ⟨_, _, _, _, _, _, _, _, rfl, rfl⟩
  · rw [if_neg z0, if_neg (i32_nlt z2), in_y z0 (i32_nlt z2), bnd_some, if_neg one_ne]
    rcases lin_cases g3 h2 q with ⟨l, hl, rfl, a1, a2⟩ | ⟨a1, a2⟩
    · have hb := RN_book (w := 2 ^ S - 1 - r) hM.1 v (nb (2 ^ S - 1 - r) 0) k k1
      rw [a1, a2, bnd_some, bnd_some, if_neg one_ne, if_neg one_ne, bookAt hK, e1, bnd_some, bought_ok g4 hK r1 e5, bnd_some, run_ok hM.1 hm (wok_ok g4 r1) k1 (by omega), bnd_some, mbought_ok g4 r1 h3 e6, bnd_some, show now (0 : Int32).toNatClampNeg = nI k from e2, go_ok hM (wok_ok g4 r1) k1 (by omega), bnd_some]
      dsimp only
      rw [lineOf_ok g1 g2 g3 hl hb, bnd_some, mlineOf_ok g1 g2 g3 h1 h2 hl hb, bnd_some]
      exact ⟨_, _, _, _, _, _, _, _, rfl, rfl⟩
    · rw [a1, a2, bnd_some, bnd_some, if_pos rfl, if_pos rfl]; exact ⟨_, _, _, _, _, _, _, _, rfl, rfl⟩
  · rw [if_neg z0, if_pos z, in_h z0 z, bnd_some, if_pos rfl]; exact ⟨_, _, _, _, _, _, _, _, rfl, rfl⟩
theorem l4000 : (4000 : Int32) = nI 4000 := rfl
theorem step_ends {n L S d K : Nat} {t b : Nat → Nat} {op li sc ne tu be now made : Nat → Int32} {rows : Nat → Nat → Int32} (hM : MH n L S d t b op li sc ne tu be) (hm : LWT n L S d t b made) (hs : SD (n ^ L) S 0 K rows now) (y1 y2 y3 y4 v1 v2 v3 : Int32) (p : Int32) : ∃ r x1 x2 x3 x4 u1 u2 u3, f_X8_ends (nI S) (nI K) rows y1 y2 y3 y4 (nI S) (nI (n ^ L)) made p = some (r, x1, x2, x3, x4) ∧ f_X9_ends v1 v2 v3 op li sc tu be ne now p = some (r, u1, u2, u3) := by
  obtain ⟨⟨g1, g2, g3, g4, g5, g6, g7⟩, h1, h2, h3, h4, h5⟩ := id hM
  obtain ⟨hK, k, c, r, k1, c1, r1, e1, e2, e3, e4, e5, e6, e7, e8⟩ := sd_get hs
  unfold f_X8_ends f_X9_ends
  rcases rng 1 1 rfl (by decide) p with z | ⟨v, hv, rfl, z0, z2⟩ | ⟨z0, z⟩
  · rw [if_pos z, in_l z, bnd_some, if_pos rfl]; exact ⟨_, _, _, _, _, _, _, _, rfl, rfl⟩
  · have hle := nS_le hM.1
    rw [if_neg z0, if_pos z2, in_y z0 (i32_nlt z2), bnd_some, if_neg one_ne, bookAt hK, e1, bnd_some, bought_ok g4 hK r1 e5, bnd_some, runToEnd_ok hM.1 hm (wok_ok g4 r1) k1, bnd_some, mbought_ok g4 r1 h3 e6, bnd_some, show now (0 : Int32).toNatClampNeg = nI k from e2, l4000, go_ok hM (wok_ok g4 r1) k1 (by omega), bnd_some]
    have hwk := wok_ok (S := S) g4 r1
    generalize 2 ^ S - 1 - r = w at hwk ⊢
    dsimp only
    by_cases w0 : w = 0
    · subst w0
      have hn0 : nb 0 0 = none := by decide
      rw [hn0, RN_n, RN_n]
      unfold goesI
      by_cases ev : nI v = (0 : Int32)
      · rw [if_pos ev, if_pos ev]; exact ⟨_, _, _, _, _, _, _, _, rfl, rfl⟩
      · rw [if_neg ev, if_neg ev]; exact ⟨nI 0, _, _, _, _, _, _, _, rfl, rfl⟩
    · rcases end_cases hM.1 hwk w0 k1 with ⟨s, i, q, f1, f2, f3, f4, f5⟩ | ⟨q, q', f1, f2, f3⟩
      · rw [f4, f5]
        unfold goesI
        by_cases ev : nI v = (0 : Int32)
        · rw [if_pos ev, if_pos ev]; exact ⟨_, _, _, _, _, _, _, _, rfl, rfl⟩
        · rw [if_neg ev, if_neg ev, if_neg (show ¬ nI i = nI 4000 by rw [neqI (by omega) (by omega)]; omega)]
          exact ⟨nI i, _, _, _, _, _, _, _, rfl, rfl⟩
      · rw [f2, f3]
        unfold goesI
        by_cases ev : nI v = (0 : Int32)
        · rw [if_pos ev, if_pos ev]; exact ⟨_, _, _, _, _, _, _, _, rfl, rfl⟩
        · rw [if_neg ev, if_neg ev, if_pos (show nI 4000 = nI 4000 from rfl)]
          have hgo : (if (Option.isSome (none : Option Nat) || w == 0) = true then (0 : Int32) else 1) = 1 := by
            rw [if_neg (by simp [w0])]
          dsimp only
          rw [hgo, if_neg one_ne]
          exact ⟨_, _, _, _, _, _, _, _, rfl, rfl⟩
  · rw [if_neg z0, if_neg (i32_nle z), in_h z0 z, bnd_some, if_pos rfl]; exact ⟨_, _, _, _, _, _, _, _, rfl, rfl⟩
theorem step_lasts {n L S d K : Nat} {t b : Nat → Nat} {op li sc ne tu be now made : Nat → Int32} {rows : Nat → Nat → Int32} (hM : MH n L S d t b op li sc ne tu be) (hm : LWT n L S d t b made) (hs : SD (n ^ L) S 0 K rows now) (y1 y2 y3 y4 v1 v2 v3 : Int32) (p : Int32) : ∃ r x1 x2 x3 x4 u1 u2 u3, f_X8_lasts (nI L) (nI S) (nI K) rows y1 y2 y3 y4 (nI S) (nI (n ^ L)) made p = some (r, x1, x2, x3, x4) ∧ f_X9_lasts v1 v2 v3 op li sc tu be ne now p = some (r, u1, u2, u3) := by
  obtain ⟨⟨g1, g2, g3, g4, g5, g6, g7⟩, h1, h2, h3, h4, h5⟩ := id hM
  obtain ⟨hK, k, c, r, k1, c1, r1, e1, e2, e3, e4, e5, e6, e7, e8⟩ := sd_get hs
  have hB := npow_le (n := n) (L := L) g2 g3
  have hpos : 0 < n ^ L := npow_pos g1
  unfold f_X8_lasts f_X9_lasts
  rcases rng 1 1 rfl (by decide) p with z | ⟨v, hv, rfl, z0, z2⟩ | ⟨z0, z⟩
  · rw [if_pos z, in_l z, bnd_some, if_pos rfl]; exact ⟨_, _, _, _, _, _, _, _, rfl, rfl⟩
  · rw [if_neg z0, if_pos z2, in_y z0 (i32_nlt z2), bnd_some, if_neg one_ne, show li (0 : Int32).toNatClampNeg = nI L from h2]
    by_cases eL : nI L = (0 : Int32)
    · rw [if_pos eL, if_pos eL]; exact ⟨_, _, _, _, _, _, _, _, rfl, rfl⟩
    · have hwk := wok_ok (S := S) g4 r1
      have hbm := mbought_ok g4 r1 h3 e6
      rw [if_neg eL, if_neg eL, bought_ok g4 hK r1 e5, bnd_some, bnd_some, hbm, bnd_some]
      generalize 2 ^ S - 1 - r = w at hwk hbm ⊢
      have hw64 := hwk.1
      by_cases w0 : w = 0
      · subst w0
        rw [if_pos (show nI 0 = (0 : Int32) from rfl), if_pos (show nI 0 = (0 : Int32) from rfl)]; exact ⟨_, _, _, _, _, _, _, _, rfl, rfl⟩
      · have w0' : ¬ nI w = (0 : Int32) := by rw [l0, neqI (by omega) (by omega)]; exact w0
        obtain ⟨x1, x2, x3, x4, f1⟩ := longest_ok hM.1 hm hwk w0 y1 y2 y3 y4
        obtain ⟨u1, u2, u3, f2⟩ := mlasts_ok (what := v) hM hwk w0 hbm (by omega) v1 v2 v3
        rw [if_neg w0', if_neg w0', f1, bnd_some, f2]
        cases hl : lsN (cntN n L S d t b w) (n ^ L) 0 none with
        | none =>
          rw [if_pos (by rfl)]
          exact ⟨-9, _, _, _, _, _, _, _, rfl, rfl⟩
        | some fin =>
          obtain ⟨o1, o2⟩ := lsN_ok (cnt := cntN n L S d t b w) (B := n ^ L) okB_none (by omega) hl
          have o2 := o2 (Or.inr hpos)
          cases fin with
          | none => exact absurd rfl o2
          | some am =>
            obtain ⟨a, m⟩ := am
            obtain ⟨o3, o4⟩ := o1 a m rfl
            show ∃ r x1 x2 x3 x4 u1 u2 u3, (if nI a = (-9 : Int32) then _ else _) = some (r, x1, x2, x3, x4) ∧ some ((if v = 0 then nI a else nI m), _, _, _) = some (r, u1, u2, u3)
            rw [if_neg (n9ne (by omega))]
            by_cases ev : v = 0
            · subst ev
              rw [if_pos (show nI 0 = (0 : Int32) from rfl), if_pos rfl]
              exact ⟨_, _, _, _, _, _, _, _, rfl, rfl⟩
            · rw [if_neg (show ¬ nI v = (0 : Int32) by rw [l0, neqI (by omega) (by omega)]; exact ev), if_neg ev, bnd_some]
              dsimp only
              rw [show ((some (some (a, m)) : Option (Option (Nat × Nat))).elim (-9 : Int32) bA) = nI a from rfl, runToEnd_ok hM.1 hm hwk o3, bnd_some]
              rcases cnt_cases hM.1 hwk w0 o3 with ⟨s, i, q, j1, j2, j3, j4, j5⟩ | ⟨q, q', m', j1, j2, j3⟩
              · rw [o4] at j2
                cases j2
                rw [j4]
                exact ⟨_, _, _, _, _, _, _, _, rfl, rfl⟩
              · rw [o4] at j1; cases j1
  · rw [if_neg z0, if_neg (i32_nle z), in_h z0 z, bnd_some, if_pos rfl]; exact ⟨_, _, _, _, _, _, _, _, rfl, rfl⟩
theorem step_buy {n L S d K : Nat} {t b : Nat → Nat} {op li sc ne tu be now made : Nat → Int32} {rows : Nat → Nat → Int32} (hM : MH n L S d t b op li sc ne tu be) (hm : LWT n L S d t b made) (hs : SD (n ^ L) S 0 K rows now) (y1 y2 y3 y4 v1 v2 v3 : Int32) (p : Int32) : ∃ r x1 x2 x3 x4 u1 u2 u3, f_X8_buy (nI S) (nI K) rows y1 y2 y3 y4 (nI S) (nI (n ^ L)) made p = some (r, x1, x2, x3, x4) ∧ f_X9_buy v1 v2 v3 op li sc tu be ne now p = some (r, u1, u2, u3) := by
  obtain ⟨⟨g1, g2, g3, g4, g5, g6, g7⟩, h1, h2, h3, h4, h5⟩ := id hM
  obtain ⟨hK, k, c, r, k1, c1, r1, e1, e2, e3, e4, e5, e6, e7, e8⟩ := sd_get hs
  have h64 := p2_le g4
  unfold f_X8_buy f_X9_buy
  by_cases z : p < (1 : Int32)
  · rw [if_pos z, in_l z, bnd_some, if_pos rfl]; exact ⟨_, _, _, _, _, _, _, _, rfl, rfl⟩
  · by_cases z2 : p ≤ (99 : Int32)
    · have hp0 : ¬ p < 0 := fun e => z (by
        rw [Int32.lt_iff_toInt_lt] at e ⊢
        have a1 : ((0 : Int32)).toInt = 0 := by decide
        have a2 : ((1 : Int32)).toInt = 1 := by decide
        omega)
      obtain ⟨v, hv, rfl⟩ := nI_of hp0
      have hv99 : v ≤ 99 := (nI_leI hv (b := 99) (by decide)).mp z2
      have hwo : ∀ x, x < 64 → x &&& r = x → WOK S (2 ^ S - 1 - r ||| x) := fun x hx h => wok_or g4 r1 hx h
      obtain ⟨X, x1, x2, x3, x4, f1, f2⟩ := fewest_ok hM.1 hm (show r < 64 by omega) hwo k1 (show v < 29000 by omega) y1 y2 y3 y4
      obtain ⟨Y, u1, u2, u3, f3, f4⟩ := mbuy_ok hM (show r < 64 by omega) hwo k1 hv99 (mbought_ok g4 r1 h3 e6) e2 e6 v1 v2 v3
      rw [if_neg z, if_pos z2, in_y z (i32_nlt z2), bnd_some, if_neg one_ne, bookAt hK, e1, bnd_some, bought_ok g4 hK r1 e5, bnd_some, relAt hK, e5, bnd_some, f2, bnd_some, f4, isBest_uniq f1 f3]
      exact ⟨_, _, _, _, _, _, _, _, rfl, rfl⟩
    · rw [if_neg z, if_neg z2, in_h z (i32_lt z2), bnd_some, if_pos rfl]; exact ⟨_, _, _, _, _, _, _, _, rfl, rfl⟩
theorem step_odds {n L S d K : Nat} {t b : Nat → Nat} {op li sc ne tu be now made : Nat → Int32} {rows : Nat → Nat → Int32} (hM : MH n L S d t b op li sc ne tu be) (hm : LWT n L S d t b made) (hs : SD (n ^ L) S 0 K rows now) (y1 y2 y3 y4 v1 v2 v3 : Int32) (p q o : Int32) : ∃ r x1 x2 x3 x4 u1 u2 u3, f_X8_odds (nI S) (nI K) rows y1 y2 y3 y4 (nI S) (nI (n ^ L)) made p q o = some (r, x1, x2, x3, x4) ∧ f_X9_odds v1 v2 v3 op li sc tu be ne now p q o = some (r, u1, u2, u3) := by
  obtain ⟨⟨g1, g2, g3, g4, g5, g6, g7⟩, h1, h2, h3, h4, h5⟩ := id hM
  obtain ⟨hK, k, c, r, k1, c1, r1, e1, e2, e3, e4, e5, e6, e7, e8⟩ := sd_get hs
  unfold f_X8_odds f_X9_odds
  rcases rng 10 10 rfl (by decide) p with z | ⟨x, hx, rfl, z0, z2⟩ | ⟨z0, z⟩
  · rw [if_pos z, in_l z, bnd_some, if_pos rfl]; exact ⟨_, _, _, _, _, _, _, _, rfl, rfl⟩
  · rw [if_neg z0, if_neg (i32_nlt z2), in_y z0 (i32_nlt z2), bnd_some, if_neg one_ne]
    rcases rng 9 9 rfl (by decide) q with a | ⟨m, hmm, rfl, a0, a2⟩ | ⟨a0, a⟩
    · rw [if_pos a, in_l a, bnd_some, if_pos rfl]; exact ⟨_, _, _, _, _, _, _, _, rfl, rfl⟩
    · rw [if_neg a0, if_neg (i32_nlt a2), in_y a0 (i32_nlt a2), bnd_some, if_neg one_ne]
      rcases rng 1 1 rfl (by decide) o with b | ⟨v, hv, rfl, b0, b2⟩ | ⟨b0, b⟩
      · rw [if_pos b, in_l b, bnd_some, if_pos rfl]; exact ⟨_, _, _, _, _, _, _, _, rfl, rfl⟩
      · obtain ⟨x1, x2, x3, x4, f1⟩ := reaches_ok hM.1 hm (wok_ok g4 r1) k1 (show m < 29000 by omega)
        have hh := RN_had (n := n) (L := L) (d := d) (t := t) (b := b) (w := 2 ^ S - 1 - r) m (nb (2 ^ S - 1 - r) 0) k
        rw [if_neg b0, if_pos b2, in_y b0 (i32_nlt b2), bnd_some, if_neg one_ne, bookAt hK, e1, bnd_some, bought_ok g4 hK r1 e5, bnd_some, f1, bnd_some, mbought_ok g4 r1 h3 e6, bnd_some, show now (0 : Int32).toNatClampNeg = nI k from e2, go_ok hM (wok_ok g4 r1) k1 (by omega), bnd_some]
        dsimp only
        generalize RN n L d t b (2 ^ S - 1 - r) m (nb (2 ^ S - 1 - r) 0) k = R at hh ⊢
        by_cases eR : R.2.1 = m
        · obtain ⟨q1, q2⟩ := odds_yes x (by omega) m (by omega) v (by omega)
          rw [if_pos (show nI R.2.1 = nI m by rw [eR]), odds67_map, show bI (decide (R.2.1 = m)) = 1 by rw [decide_eq_true eR]; rfl, if_neg one_ne]
          rw [← q1] at q1
          cases hF : lpF (b_X9_odds_67 0 0 0 (nI x) (nI m) (nI v)) FU ((1 : Int32), (1 : Int32), (0 : Int32)) with
          | none =>
            have := (odds_yes x (by omega) m (by omega) v (by omega)).1
            rw [hF] at this
            rw [this] at q2; cases q2
          | some F =>
            have q3 := (odds_yes x (by omega) m (by omega) v (by omega)).1
            rw [hF] at q3
            have q3 : oddC x m v = some F.1 := q3
            unfold oddC at q3
            cases hcd : f_X8_commonDivisor (10 : Int32) ((10 : Int32) - nI x) with
            | none => rw [hcd] at q3; cases q3
            | some cd =>
              rw [hcd, bnd_some] at q3
              rw [bnd_some]
              by_cases ec : (1 : Int32) ≤ cd
              · rw [if_pos ec] at q3 ⊢
                by_cases ev : nI v = 0
                · rw [if_pos ev] at q3 ⊢
                  by_cases e0 : cd = 0
                  · rw [if_pos e0] at q3; cases q3
                  · rw [if_neg e0] at q3 ⊢
                    rw [q3, bnd_some]
                    exact ⟨F.1, _, _, _, _, _, _, _, rfl, rfl⟩
                · rw [if_neg ev] at q3 ⊢
                  by_cases e0 : cd = 0
                  · rw [if_pos e0] at q3; cases q3
                  · rw [if_neg e0] at q3 ⊢
                    rw [q3, bnd_some]
                    exact ⟨F.1, _, _, _, _, _, _, _, rfl, rfl⟩
              · rw [if_neg ec] at q3 ⊢
                have q4 : (-1 : Int32) = F.1 := Option.some.inj q3
                exact ⟨F.1, _, _, _, _, _, _, _, by rw [q4], rfl⟩
        · have q1 := odds_no x (by omega) m (by omega) v (by omega)
          rw [if_neg (show ¬ nI R.2.1 = nI m by rw [neqI (by omega) (by omega)]; exact eR), odds67_map, show bI (decide (R.2.1 = m)) = 0 by rw [decide_eq_false eR]; rfl, if_pos rfl]
          cases hF : lpF (b_X9_odds_67 0 0 0 (nI x) (nI m) (nI v)) FU ((0 : Int32), (1 : Int32), (0 : Int32)) with
          | none => rw [hF] at q1; cases q1
          | some F =>
            rw [hF] at q1
            obtain ⟨F0, F'⟩ := F
            have q2 : F0 = (if v = 0 then (0 : Int32) else 1) := Option.some.inj q1
            by_cases ev : v = 0
            · subst ev
              rw [if_pos rfl] at q2
              rw [if_pos (show nI 0 = (0 : Int32) from rfl)]
              subst q2
              exact ⟨0, _, _, _, _, _, _, _, rfl, rfl⟩
            · rw [if_neg ev] at q2
              rw [if_neg (show ¬ nI v = (0 : Int32) by rw [l0, neqI (by omega) (by omega)]; exact ev)]
              subst q2
              exact ⟨1, _, _, _, _, _, _, _, rfl, rfl⟩
      · rw [if_neg b0, if_neg (i32_nle b), in_h b0 b, bnd_some, if_pos rfl]; exact ⟨_, _, _, _, _, _, _, _, rfl, rfl⟩
    · rw [if_neg a0, if_pos a, in_h a0 a, bnd_some, if_pos rfl]; exact ⟨_, _, _, _, _, _, _, _, rfl, rfl⟩
  · rw [if_neg z0, if_pos z, in_h z0 z, bnd_some, if_pos rfl]; exact ⟨_, _, _, _, _, _, _, _, rfl, rfl⟩
