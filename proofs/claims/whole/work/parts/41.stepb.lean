/-! ===== 8 .. 13: what is done ===== -/
theorem psi0 : psi 0 = 0 := rfl
theorem psi1 : psi 1 = 1 := rfl
theorem psi2 : psi 2 = 8 := rfl
theorem psi3 {s : Nat} : psi (3 + s) = 2 + s := by
  unfold psi
  rw [if_neg (by omega), if_neg (by omega)]
  omega
theorem va_up2 {f : Nat → Nat → Int32} {k : Nat} {x y : Nat → Int32} : va_up (va_up f k x) k y = va_up f k y := by
  funext j
  by_cases e : j = k
  · subst e; rw [vaup_eq, vaup_eq]
  · rw [vaup_ne e, vaup_ne e, vaup_ne e]
theorem copied_ok {B S K s k' c : Nat} {rows : Nat → Nat → Int32} {now : Nat → Int32} (h : SD B S 0 K rows now) (hs : s < 6) (hk : k' < B) (hc : rows K 1 = nI c) (hc9 : c + 1 ≤ 999) : ∃ rows', f_X6_copied (nI K) rows (nI s) (nI k') = some rows' ∧ rows' K 1 = nI (c + 1) ∧ SD B S 0 K rows' (upd (upd (upd now 0 (nI k')) 1 (nI (c + 1))) (2 + s) (now (2 + s) + 1)) := by
  have hK := h.2.1
  have hrow := h.2.2.2.2 K (Nat.le_refl _)
  have s1 := SD_put (j := 0) (v := nI k') h (by decide) (RW_book hrow hk)
  have r1 := s1.2.2.2.2 K (Nat.le_refl _)
  have s2 := SD_put (j := 1) (v := nI (c + 1)) s1 (by decide) (RW_copies r1 hc9)
  have r2 := s2.2.2.2.2 K (Nat.le_refl _)
  have s3 := SD_put (j := 3 + s) (v := rows K (3 + s) + 1) s2 (by omega) (RW_times r2)
  rw [psi0, psi1, psi3] at s3
  have hnow : now (2 + s) = rows K (3 + s) := by
    have := h.2.2.1 (3 + s) (by omega)
    rw [psi3, Nat.zero_add] at this
    exact this
  have eb : va_up (va_up rows K (upd (rows K) 0 (nI k'))) K (upd (va_up rows K (upd (rows K) 0 (nI k')) K) 1 (nI (c + 1))) K = upd (upd (rows K) 0 (nI k')) 1 (nI (c + 1)) := by rw [vaup_eq, vaup_eq]
  refine ⟨_, ?_, ?_, by rw [hnow]; exact s3⟩
  · unfold f_X6_copied
    rw [l0, put_ok hK (by decide), bnd_some, copiesAt hK, bnd_some, vaup_eq, upd_ne (show (1 : Nat) ≠ 0 by decide), hc, n1, l1, put_ok hK (by decide), bnd_some, timesAt hK hs, bnd_some, n3s, put_ok hK (by omega), bnd_some, vaup_eq, vaup_eq, upd_ne (show 3 + s ≠ 1 by omega), upd_ne (show 3 + s ≠ 0 by omega)]
  · rw [vaup_eq, upd_ne (show 1 ≠ 3 + s by omega), vaup_eq, upd_eq]
theorem step_copies {n L S d K : Nat} {t b : Nat → Nat} {op li sc ne tu be now tuC beC : Nat → Int32} {rows : Nat → Nat → Int32} (hC : CH n L S d t b tuC beC) (hM : MH n L S d t b op li sc ne tu be) (hs : SD (n ^ L) S 0 K rows now) (p : Int32) : ∃ r K' rows' now', f_X8_copies (nI n) (nI L) (nI S) (nI d) tuC beC (nI K) rows p = some (r, nI K', rows') ∧ f_X9_copies op li sc tu be ne now p = some (r, now') ∧ SD (n ^ L) S 0 K' rows' now' ∧ ∀ x, 100 ≤ x → now' x = now x := by
  obtain ⟨⟨g1, g2, g3, g4, g5, g6, g7⟩, h1, h2, h3, h4, h5⟩ := id hM
  obtain ⟨hK, k, c, r, k1, c1, r1, e1, e2, e3, e4, e5, e6, e7, e8⟩ := sd_get hs
  unfold f_X8_copies f_X9_copies
  rcases scr_cases g4 h3 p with ⟨s, hsS, rfl, a1, a2⟩ | ⟨a1, a2⟩
  · rw [a1, a2, bnd_some, bnd_some, if_neg one_ne, if_neg one_ne, bookAt hK, e1, bnd_some, isRel_ok g4 hK r1 hsS e5, bnd_some, mrel_ok g4 r1 hsS e6]
    cases btN r s with
    | true =>
      rw [if_neg (show ¬ bI true = 0 by decide), if_pos (show bI true = 1 from rfl)]
      exact ⟨_, K, rows, now, rfl, rfl, hs, fun _ _ => rfl⟩
    | false =>
      rw [if_pos bIf, if_neg (show ¬ bI false = 1 by decide), isConvinced_ok hC hsS k1, bnd_some, show now (0 : Int32).toNatClampNeg = nI k from e2, misConvinced_ok hM hsS k1, bnd_some]
      cases cvN n L d (sy n t b s) k with
      | true =>
        rw [if_neg (show ¬ bI true = 0 by decide), if_neg (show ¬ bI true = 0 by decide)]
        exact ⟨_, K, rows, now, rfl, rfl, hs, fun _ _ => rfl⟩
      | false =>
        rw [if_pos bIf, if_pos bIf, copiesAt hK, e3, bnd_some, show now (1 : Int32).toNatClampNeg = nI c from e4]
        by_cases e9 : c = 999
        · subst e9
          rw [if_neg (by decide), if_pos (by rfl)]
          exact ⟨_, K, rows, now, rfl, rfl, hs, fun _ _ => rfl⟩
        · have hcp : cpN n (sy n t b s) L k < n ^ L := cpN_lt (fun x => sy_lt g1) L k
          obtain ⟨K', rows', now', q1, q2, q3, q4, q5⟩ := know_ok hs
          obtain ⟨hK', k', c', r', k1', c1', r1', e1', e2', e3', e4', e5', e6', e7', e8'⟩ := sd_get q3
          have ek : now' 0 = nI k := by
            have := q3.2.2.1 0 (by decide)
            rw [psi0] at this
            rw [show now' 0 = now' (0 + 0) from rfl, this, q4 0 (by decide), e1]
          have ec : rows' K' 1 = nI c := by rw [q4 1 (by decide), e3]
          have ecn : now' 1 = nI c := by
            have := q3.2.2.1 1 (by decide)
            rw [psi1, Nat.zero_add] at this
            rw [this, ec]
          obtain ⟨rows'', u1, u2, u3⟩ := copied_ok q3 (show s < 6 by omega) hcp ec (by omega)
          rw [if_pos (by rw [l999, nltI (by omega) (by omega)]; omega), q1, bnd_some, if_neg (by rw [l999, neqI (by omega) (by omega)]; exact e9), q2, bnd_some, becomes_ok hC hsS k1, bnd_some, u1, bnd_some, copiesAt hK', bnd_some, u2, show now' (0 : Int32).toNatClampNeg = nI k from ek, mcopyOf_ok hM hsS k1, bnd_some, n2s, if_neg (gN (by omega) (by decide)), if_neg (gN (by omega) (by decide)), nI_clamp (by omega)]
          refine ⟨_, K', rows'', upd (upd (upd now' 0 (nI (cpN n (sy n t b s) L k))) 1 (nI (c + 1))) (2 + s) (now' (2 + s) + 1), rfl, ?_, u3, fun x hx => ?_⟩
          · show some (upd (upd (upd now' 0 (nI (cpN n (sy n t b s) L k))) 1 (upd now' 0 (nI (cpN n (sy n t b s) L k)) 1 + 1)) (2 + s) (upd (upd now' 0 (nI (cpN n (sy n t b s) L k))) 1 (upd now' 0 (nI (cpN n (sy n t b s) L k)) 1 + 1) (2 + s) + 1) 1, upd (upd (upd now' 0 (nI (cpN n (sy n t b s) L k))) 1 (upd now' 0 (nI (cpN n (sy n t b s) L k)) 1 + 1)) (2 + s) (upd (upd now' 0 (nI (cpN n (sy n t b s) L k))) 1 (upd now' 0 (nI (cpN n (sy n t b s) L k)) 1 + 1) (2 + s) + 1)) = _
            rw [upd_ne (f := now') (show (1 : Nat) ≠ 0 by decide), ecn, n1, upd_ne (show 1 ≠ 2 + s by omega), upd_eq, upd_ne (show 2 + s ≠ 1 by omega), upd_ne (show 2 + s ≠ 0 by omega)]
          · rw [upd_ne (by omega), upd_ne (by omega), upd_ne (by omega)]
            exact q5 x hx
  · rw [a1, a2, bnd_some, bnd_some, if_pos rfl, if_pos rfl]; exact ⟨_, K, rows, now, rfl, rfl, hs, fun _ _ => rfl⟩
theorem step_errs {n L S d K : Nat} {t b : Nat → Nat} {op li sc ne tu be now : Nat → Int32} {rows : Nat → Nat → Int32} (hM : MH n L S d t b op li sc ne tu be) (hs : SD (n ^ L) S 0 K rows now) (p q : Int32) : ∃ r K' rows' now', f_X8_errs (nI n) (nI L) (nI K) rows p q = some (r, nI K', rows') ∧ f_X9_errs op li now p q = some (r, now') ∧ SD (n ^ L) S 0 K' rows' now' ∧ ∀ x, 100 ≤ x → now' x = now x := by
  obtain ⟨⟨g1, g2, g3, g4, g5, g6, g7⟩, h1, h2, h3, h4, h5⟩ := id hM
  obtain ⟨hK, k, c, r, k1, c1, r1, e1, e2, e3, e4, e5, e6, e7, e8⟩ := sd_get hs
  unfold f_X8_errs f_X9_errs
  rcases lin_cases g3 h2 p with ⟨l, hl, rfl, a1, a2⟩ | ⟨a1, a2⟩
  · rcases opn_cases g2 h1 q with ⟨x, hx, rfl, b1, b2⟩ | ⟨b1, b2⟩
    · rw [a1, a2, bnd_some, bnd_some, if_neg one_ne, if_neg one_ne, b1, b2, bnd_some, bnd_some, if_neg one_ne, if_neg one_ne, bookAt hK, e1, bnd_some, lineOf_ok g1 g2 g3 hl k1, bnd_some, show now (0 : Int32).toNatClampNeg = nI k from e2, mlineOf_ok g1 g2 g3 h1 h2 hl k1, bnd_some]
      by_cases ex : nI (dgt n L k l) = nI x
      · rw [if_pos ex, if_pos ex]
        exact ⟨_, K, rows, now, rfl, rfl, hs, fun _ _ => rfl⟩
      · obtain ⟨K', rows', now', q1, q2, q3, q4, q5⟩ := know_ok hs
        have hK' := q3.2.1
        have ek : now' 0 = nI k := by
          have := q3.2.2.1 0 (by decide)
          rw [psi0] at this
          rw [show now' 0 = now' (0 + 0) from rfl, this, q4 0 (by decide), e1]
        have hput := putN_lt (n := n) (L := L) (k := k) (l := l) g1 hx
        have s1 := SD_put (j := 0) (v := nI (putN n L k l x)) q3 (by decide) (RW_book (q3.2.2.2.2 K' (Nat.le_refl _)) hput)
        rw [if_neg ex, if_neg ex, q1, bnd_some, q2, bnd_some, withLine_ok g1 g2 g3 hl k1 hx, bnd_some, show now' (0 : Int32).toNatClampNeg = nI k from ek, mput_ok hM hl k1 hx, bnd_some]
        unfold f_X6_setBook
        rw [l0, put_ok hK' (by decide), bnd_some, bnd_some]
        refine ⟨_, K', _, _, rfl, rfl, s1, fun y hy => ?_⟩
        show upd now' 0 (nI (putN n L k l x)) y = now y
        rw [upd_ne (by omega)]
        exact q5 y hy
    · rw [a1, a2, bnd_some, bnd_some, if_neg one_ne, if_neg one_ne, b1, b2, bnd_some, bnd_some, if_pos rfl, if_pos rfl]; exact ⟨_, K, rows, now, rfl, rfl, hs, fun _ _ => rfl⟩
  · rw [a1, a2, bnd_some, bnd_some, if_pos rfl, if_pos rfl]; exact ⟨_, K, rows, now, rfl, rfl, hs, fun _ _ => rfl⟩
theorem xor_dec : ∀ S, S < 7 → ∀ r, r < 2 ^ S → ∀ s, s < S → (nI r ^^^ jshl (1 : Int32) (nI s)) = nI (r ^^^ 2 ^ s) ∧ (r ^^^ 2 ^ s) < 2 ^ S := by decide +kernel
theorem step_releases {n L S d K : Nat} {t b : Nat → Nat} {op li sc ne tu be now : Nat → Int32} {rows : Nat → Nat → Int32} (hM : MH n L S d t b op li sc ne tu be) (hs : SD (n ^ L) S 0 K rows now) (p q : Int32) : ∃ r K' rows' now', f_X8_releases (nI S) (nI K) rows p q = some (r, nI K', rows') ∧ f_X9_releases sc now p q = some (r, now') ∧ SD (n ^ L) S 0 K' rows' now' ∧ ∀ x, 100 ≤ x → now' x = now x := by
  obtain ⟨⟨g1, g2, g3, g4, g5, g6, g7⟩, h1, h2, h3, h4, h5⟩ := id hM
  obtain ⟨hK, k, c, r, k1, c1, r1, e1, e2, e3, e4, e5, e6, e7, e8⟩ := sd_get hs
  have h64 := p2_le g4
  unfold f_X8_releases f_X9_releases
  rcases scr_cases g4 h3 p with ⟨s, hsS, rfl, a1, a2⟩ | ⟨a1, a2⟩
  · rw [a1, a2, bnd_some, bnd_some, if_neg one_ne, if_neg one_ne]
    rcases rng 1 1 rfl (by decide) q with z | ⟨v, hv, rfl, z0, z2⟩ | ⟨z0, z⟩
    · rw [if_pos z, in_l z, bnd_some, if_pos rfl]; exact ⟨_, K, rows, now, rfl, rfl, hs, fun _ _ => rfl⟩
    · obtain ⟨K', rows', now', q1, q2, q3, q4, q5⟩ := know_ok hs
      have hK' := q3.2.1
      have er : rows' K' 2 = nI r := by rw [q4 2 (by decide), e5]
      have ern : now' 8 = nI r := by
        have := q3.2.2.1 2 (by decide)
        rw [psi2, Nat.zero_add] at this
        rw [this, er]
      obtain ⟨x1, x2⟩ := xor_dec S (by omega) r r1 s hsS
      have s1 := SD_put (j := 2) (v := nI (r ^^^ 2 ^ s)) q3 (by decide) (RW_rel (q3.2.2.2.2 K' (Nat.le_refl _)) x2)
      have htr : f_X6_turnReleased (nI K') rows' (nI s) = some (va_up rows' K' (upd (rows' K') 2 (nI (r ^^^ 2 ^ s)))) := by
        unfold f_X6_turnReleased
        rw [relAt hK', bnd_some, er, x1, l2, put_ok hK' (by decide), bnd_some]
      have hrl : f_X6_released (nI K') (va_up rows' K' (upd (rows' K') 2 (nI (r ^^^ 2 ^ s)))) = some (nI (r ^^^ 2 ^ s)) := by
        rw [relAt hK', vaup_eq, upd_eq]
      have hmany : f_X9_manyOf (upd now' 8 (nI (r ^^^ 2 ^ s)) 8) = some (nI (pc (r ^^^ 2 ^ s))) := by
        rw [upd_eq]; exact manyOf_ok _ (by omega)
      have hfin : ∀ x, 100 ≤ x → upd now' 8 (nI (r ^^^ 2 ^ s)) x = now x := fun x hx => by
        rw [upd_ne (by omega)]; exact q5 x hx
      have emn : (do let q6 ← f_X9_know now; let q7 ← f_X9_manyOf (upd q6 (8 : Int32).toNatClampNeg (q6 (8 : Int32).toNatClampNeg ^^^ jshl (1 : Int32) (nI s)) (8 : Int32).toNatClampNeg); some (q7, upd q6 (8 : Int32).toNatClampNeg (q6 (8 : Int32).toNatClampNeg ^^^ jshl (1 : Int32) (nI s)))) = some (nI (pc (r ^^^ 2 ^ s)), upd now' 8 (nI (r ^^^ 2 ^ s))) := by
        show (f_X9_know now).bind _ = _
        rw [q2, bnd_some]
        show ((f_X9_manyOf (upd now' 8 (now' 8 ^^^ jshl (1 : Int32) (nI s)) 8)).bind fun q7 => some (q7, upd now' 8 (now' 8 ^^^ jshl (1 : Int32) (nI s)))) = _
        rw [ern, x1, hmany, bnd_some]
      have emn' : ((f_X9_know now).bind fun q6 => (f_X9_manyOf (upd q6 (8 : Int32).toNatClampNeg (q6 (8 : Int32).toNatClampNeg ^^^ jshl (1 : Int32) (nI s)) (8 : Int32).toNatClampNeg)).bind fun q7 => some (q7, upd q6 (8 : Int32).toNatClampNeg (q6 (8 : Int32).toNatClampNeg ^^^ jshl (1 : Int32) (nI s)))) = some (nI (pc (r ^^^ 2 ^ s)), upd now' 8 (nI (r ^^^ 2 ^ s))) := emn
      rw [if_neg z0, if_pos z2, in_y z0 (i32_nlt z2), bnd_some, if_neg one_ne, isRel_ok g4 hK r1 hsS e5, bnd_some, mrel_ok g4 r1 hsS e6, emn', q1, bnd_some, htr, bnd_some, hrl, bnd_some, bitCount_ok _ (by omega), bnd_some]
      rcases (show v = 0 ∨ v = 1 by omega) with rfl | rfl
      · rw [if_neg (show ¬ nI 0 = 1 by decide)]
        cases btN r s with
        | true => rw [if_neg (show ¬ bI true = 0 by decide), if_neg (show ¬ bI true = nI 0 by decide)]; exact ⟨_, K', _, _, rfl, rfl, s1, hfin⟩
        | false => rw [if_pos (show bI false = 0 from rfl), if_pos (show bI false = nI 0 from rfl)]; exact ⟨_, K, rows, now, rfl, rfl, hs, fun _ _ => rfl⟩
      · rw [if_pos (show nI 1 = 1 from rfl)]
        cases btN r s with
        | true => rw [if_pos (show bI true = 1 from rfl), if_pos (show bI true = nI 1 from rfl)]; exact ⟨_, K, rows, now, rfl, rfl, hs, fun _ _ => rfl⟩
        | false => rw [if_neg (show ¬ bI false = 1 by decide), if_neg (show ¬ bI false = nI 1 by decide)]; exact ⟨_, K', _, _, rfl, rfl, s1, hfin⟩
    · rw [if_neg z0, if_neg (i32_nle z), in_h z0 z, bnd_some, if_pos rfl]; exact ⟨_, K, rows, now, rfl, rfl, hs, fun _ _ => rfl⟩
  · rw [a1, a2, bnd_some, bnd_some, if_pos rfl, if_pos rfl]; exact ⟨_, K, rows, now, rfl, rfl, hs, fun _ _ => rfl⟩
theorem step_aims {n L S d T : Nat} {t b : Nat → Nat} {op li sc ne tu be : Nat → Int32} (hM : MH n L S d t b op li sc ne tu be) (hT : T < n ^ L) (p q : Int32) : ∃ r T', f_X8_aims (nI T) (nI n) (nI L) p q = some (r, nI T') ∧ f_X9_aims (nI T) op li p q = some (r, nI T') ∧ T' < n ^ L := by
  obtain ⟨⟨g1, g2, g3, g4, g5, g6, g7⟩, h1, h2, h3, h4, h5⟩ := id hM
  unfold f_X8_aims f_X9_aims
  rcases lin_cases g3 h2 p with ⟨l, hl, rfl, a1, a2⟩ | ⟨a1, a2⟩
  · rcases opn_cases g2 h1 q with ⟨x, hx, rfl, b1, b2⟩ | ⟨b1, b2⟩
    · rw [a1, a2, bnd_some, bnd_some, if_neg one_ne, if_neg one_ne, b1, b2, bnd_some, bnd_some, if_neg one_ne, if_neg one_ne, lineOf_ok g1 g2 g3 hl hT, bnd_some, withLine_ok g1 g2 g3 hl hT hx, bnd_some, mlineOf_ok g1 g2 g3 h1 h2 hl hT, bnd_some, mput_ok hM hl hT hx, bnd_some]
      exact ⟨_, _, rfl, rfl, putN_lt g1 hx⟩
    · rw [a1, a2, bnd_some, bnd_some, if_neg one_ne, if_neg one_ne, b1, b2, bnd_some, bnd_some, if_pos rfl, if_pos rfl]; exact ⟨_, T, rfl, rfl, hT⟩
  · rw [a1, a2, bnd_some, bnd_some, if_pos rfl, if_pos rfl]; exact ⟨_, T, rfl, rfl, hT⟩
theorem step_now {n L S d K q : Nat} {t b : Nat → Nat} {op li sc ne tu be now tuC beC made : Nat → Int32} {rows : Nat → Nat → Int32} {mo ms : Nat → Nat} {fC gC fM gM : Nat → Int32} (hC : CH n L S d t b tuC beC) (hM : MH n L S d t b op li sc ne tu be) (hm : LWT n L S d t b made) (hs : SD (n ^ L) S 0 K rows now) (hgC : MG n q mo ms fC gC) (hgM : MG n q mo ms fM gM) (p : Int32) : ∃ r, f_X8_now (nI n) (nI L) (nI S) (nI d) tuC beC (nI K) rows (nI S) (nI (n ^ L)) made (nI q) fC gC p = some r ∧ f_X9_now (nI q) op li sc tu be ne now fM gM p = some r := by
  obtain ⟨hK, k, c, r, k1, c1, r1, e1, e2, e3, e4, e5, e6, e7, e8⟩ := sd_get hs
  unfold f_X8_now f_X9_now
  have hbk : f_X6_book (nI K) rows = some (nI k) := by rw [bookAt hK, e1]
  by_cases q0 : p = 0
  · rw [if_pos q0, if_pos q0, copiesAt hK, e3, bnd_some, show now (1 : Int32).toNatClampNeg = nI c from e4]; exact ⟨_, rfl, rfl⟩
  rw [if_neg q0, if_neg q0]
  by_cases q1 : p = 1
  · rw [if_pos q1, if_pos q1, relAt hK, e5, bnd_some, show now (8 : Int32).toNatClampNeg = nI r from e6]; exact ⟨_, rfl, rfl⟩
  rw [if_neg q1, if_neg q1]
  by_cases q2 : p = 2
  · rw [if_pos q2, if_pos q2, convinced_ok hC k1 hbk, bnd_some, mnow2_ok hM k1 e2]; exact ⟨_, rfl, rfl⟩
  rw [if_neg q2, if_neg q2]
  by_cases q3 : p = 3
  · rw [if_pos q3, if_pos q3, hbk, bnd_some, lastCopiers_ok hM.1 hm k1, bnd_some, mnow3_ok hM k1 e2]; exact ⟨_, rfl, rfl⟩
  rw [if_neg q3, if_neg q3]
  by_cases q4 : p = 4
  · obtain ⟨X, m, u1, u2⟩ := sameLines_ok hM.1 hm k1
    obtain ⟨X', m', v1, v2⟩ := msame_ok hM k1 e2
    rw [if_pos q4, if_pos q4, hbk, bnd_some, u2, bnd_some, v2, bnd_some, smI_uniq u1 v1]; exact ⟨_, rfl, rfl⟩
  rw [if_neg q4, if_neg q4]
  by_cases q5 : p = 5
  · rw [if_pos q5, if_pos q5, fittingScribes_ok hC hgC, bnd_some, mnow5_ok hM hgM]; exact ⟨_, rfl, rfl⟩
  rw [if_neg q5, if_neg q5]
  exact ⟨_, rfl, rfl⟩
