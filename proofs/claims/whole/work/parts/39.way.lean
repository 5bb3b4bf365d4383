/-! ===== the way: both sides ===== -/
theorem SQ_mono {w : Nat} {cv : Nat → Nat → Bool} {cp : Nat → Nat → Nat} {B k0 K m : Nat} {q f u : Nat → Nat} (h : SQ w cv cp B k0 K m q f u) {p p' : Nat} (hp : 1 ≤ p) (hpp : p ≤ p') (hp' : p' < m) : 6 * f p + u p ≤ 6 * f p' + u p' := by
  by_cases e : p = p'
  · subst e; exact Nat.le_refl _
  · exact Nat.le_of_lt (h.2.2.1 p p' hp (by omega) hp')
/-- back along the queue -/
theorem anc_ok {w : Nat} {cv : Nat → Nat → Bool} {cp : Nat → Nat → Nat} {B k0 K m pT : Nat} {q f u dp : Nat → Nat} {dist bef lst que : Nat → Int32} (h : SQ w cv cp B k0 K m q f u) (hr : SR m q f u dp dist bef lst que) (hp : pT < m) : ∀ c, c ≤ dp pT → itr f c pT < m ∧ dp (itr f c pT) + c = dp pT ∧ (c < dp pT → 1 ≤ itr f c pT)
  | 0, _ => by
    refine ⟨hp, rfl, fun c => ?_⟩
    show 1 ≤ pT
    apply Nat.pos_of_ne_zero
    intro e
    rw [e, hr.2.2.2.2.1] at c
    omega
  | c + 1, hc => by
    obtain ⟨a1, a2, a3⟩ := anc_ok h hr hp c (by omega)
    have a3 := a3 (by omega)
    have b1 := (h.2.1 _ a3 a1).1
    have b2 := hr.2.2.2.2.2.1 _ a3 a1
    show f (itr f c pT) < m ∧ dp (f (itr f c pT)) + (c + 1) = dp pT ∧ _
    refine ⟨by omega, by omega, fun e => ?_⟩
    apply Nat.pos_of_ne_zero
    intro e0
    have e0 : f (itr f c pT) = 0 := e0
    rw [e0, hr.2.2.2.2.1] at b2
    omega
theorem anc_claim {w : Nat} {cv : Nat → Nat → Bool} {cp : Nat → Nat → Nat} {B k0 i m pT T : Nat} {q f u dp : Nat → Nat} {dist bef lst que : Nat → Int32} (h : SQ w cv cp B k0 (6 * i) m q f u) (hr : SR m q f u dp dist bef lst que) (hp : pT < m) (hT : q pT = T) : ∀ j, j ≤ dp pT → ∀ p, p < m → lvl w cv cp T j (q p) → itr f j pT ≤ p
  | 0, _, p, hpm, hl => by
    have hl : q p = T := hl
    show pT ≤ p
    rw [h.1.2.2.2 p pT hpm hp (by rw [hl, hT])]
    exact Nat.le_refl _
  | j + 1, hj, p, hpm, hl => by
    obtain ⟨a1, a2, a3⟩ := anc_ok h hr hp j (by omega)
    have a3 := a3 (by omega)
    obtain ⟨s, s1, s2, s3, s4⟩ := hl
    obtain ⟨b1, b2, b3, -⟩ := h.2.1 _ a3 a1
    apply Nat.le_of_not_lt
    intro c
    have c : p < f (itr f j pT) := c
    obtain ⟨p2, c1, c2, c3⟩ := h.2.2.2 p s hpm s1 (by omega) s2 s3
    rw [← c2] at s4
    have ih := anc_claim h hr hp hT j (by omega) p2 c1 s4
    rcases c3 with c3 | c3
    · omega
    · have hm := SQ_mono h a3 ih c1
      have := (h.2.1 p2 (by omega) c1).2.1
      omega
theorem anc_lvl {w : Nat} {cv : Nat → Nat → Bool} {cp : Nat → Nat → Nat} {B k0 i m pT T : Nat} {q f u dp : Nat → Nat} {dist bef lst que : Nat → Int32} (h : SQ w cv cp B k0 (6 * i) m q f u) (hr : SR m q f u dp dist bef lst que) (hp : pT < m) (hT : q pT = T) : ∀ j, j ≤ dp pT → lvl w cv cp T j (q (itr f j pT))
  | 0, _ => hT
  | j + 1, hj => by
    obtain ⟨a1, a2, a3⟩ := anc_ok h hr hp j (by omega)
    obtain ⟨b1, b2, b3, b4, b5, b6⟩ := h.2.1 _ (a3 (by omega)) a1
    refine ⟨u (itr f j pT), b2, b4, b5, ?_⟩
    show lvl w cv cp T j (cp (u (itr f j pT)) (q (f (itr f j pT))))
    rw [b6]
    exact anc_lvl h hr hp hT j (by omega)
theorem anc_dec {w : Nat} {cv : Nat → Nat → Bool} {cp : Nat → Nat → Nat} {B k0 i m pT : Nat} {q f u dp : Nat → Nat} {dist bef lst que : Nat → Int32} (h : SQ w cv cp B k0 (6 * i) m q f u) (hr : SR m q f u dp dist bef lst que) (hp : pT < m) {a : Nat} : ∀ c, a + (c + 1) ≤ dp pT → itr f (a + (c + 1)) pT < itr f a pT
  | 0, hc => by
    obtain ⟨a1, a2, a3⟩ := anc_ok h hr hp a (by omega)
    exact (h.2.1 _ (a3 (by omega)) a1).1
  | c + 1, hc => by
    have ih := anc_dec h hr hp (a := a) c (by omega)
    obtain ⟨a1, a2, a3⟩ := anc_ok h hr hp (a + (c + 1)) (by omega)
    have := (h.2.1 _ (a3 (by omega)) a1).1
    show f (itr f (a + (c + 1)) pT) < _
    omega
theorem anc_xct {w : Nat} {cv : Nat → Nat → Bool} {cp : Nat → Nat → Nat} {B k0 i m pT T : Nat} {q f u dp : Nat → Nat} {dist bef lst que : Nat → Int32} (h : SQ w cv cp B k0 (6 * i) m q f u) (hr : SR m q f u dp dist bef lst que) (hp : pT < m) (hT : q pT = T) {j : Nat} (hj : j ≤ dp pT) : xct w cv cp T j (q (itr f j pT)) := by
  refine ⟨anc_lvl h hr hp hT j hj, fun a ha hl => ?_⟩
  obtain ⟨a1, a2, a3⟩ := anc_ok h hr hp j hj
  have h1 := anc_claim h hr hp hT a (by omega) _ a1 hl
  have h2 := anc_dec h hr hp (a := a) (j - a - 1) (by omega)
  rw [show a + (j - a - 1 + 1) = j by omega] at h2
  omega
theorem no_way {w : Nat} {cv : Nat → Nat → Bool} {cp : Nat → Nat → Nat} {B k0 m T : Nat} {q f u : Nat → Nat} (h : SQ w cv cp B k0 (6 * m) m q f u) (hn : ∀ p, p < m → q p ≠ T) : ∀ j p, p < m → ¬ lvl w cv cp T j (q p)
  | 0, p, hp, hl => hn p hp hl
  | j + 1, p, hp, hl => by
    obtain ⟨s, s1, s2, s3, s4⟩ := hl
    obtain ⟨p2, c1, c2, c3⟩ := h.2.2.2 p s hp s1 (by omega) s2 s3
    rw [← c2] at s4
    exact no_way h hn j p2 c1 s4
theorem far_x {w : Nat} {cv : Nat → Nat → Bool} {cp : Nat → Nat → Nat} {T B m k : Nat} {far : Nat → Int32} (h : FAR w cv cp T B far) (hk : k < B) (hx : xct w cv cp T m k) : far k = nI m := by
  rcases h k hk with ⟨a, a1, a2, a3⟩ | ⟨a1, a2⟩
  · rw [a2, xct_uniq a3 hx]
  · exact absurd hx.1 (a2 m)
theorem far_l {w : Nat} {cv : Nat → Nat → Bool} {cp : Nat → Nat → Nat} {T B m k : Nat} {far : Nat → Int32} (h : FAR w cv cp T B far) (hB : B ≤ 625) (hm : m < 2 ^ 20) (hk : k < B) (e : far k = nI m) : lvl w cv cp T m k := by
  rcases h k hk with ⟨a, a1, a2, a3⟩ | ⟨a1, a2⟩
  · rw [e] at a2
    rw [(nI_eq (by omega) (by omega)).mp a2]
    exact a3.1
  · rw [e] at a1
    exact absurd a1 (n9ne (by omega))
/-- the class tells the scribe of the i-th copy -/
theorem soc_ok {w : Nat} {cv : Nat → Nat → Bool} {cp : Nat → Nat → Nat} {B k0 I m pT T i : Nat} {q f u dp : Nat → Nat} {dist bef lst que : Nat → Int32} (h : SQ w cv cp B k0 (6 * I) m q f u) (hr : SR m q f u dp dist bef lst que) (hB : B ≤ 625) (hp : pT < m) (hT : q pT = T) (hi : i < dp pT) : f_X7_scribeOfCopy dist bef lst (nI T) (nI i) = some (nI (u (itr f (dp pT - (i + 1)) pT))) := by
  have hmB := SQ_m h
  have hdp : dp pT ≤ pT := hr.2.2.2.2.2.2 pT hp
  have hTB : T < 625 := by have := h.1.2.2.1 pT hp; omega
  unfold f_X7_scribeOfCopy
  rw [if_neg (nI_pos (by omega)), distOf_ok hTB, bnd_some, ← hT, hr.2.1 pT hp, if_pos (by rw [nltI (by omega) (by omega)]; exact hi)]
  have hin : ∀ c, c ≤ dp pT → q (itr f c pT) < 625 := fun c hc => by
    have := h.1.2.2.1 _ (anc_ok h hr hp c hc).1
    omega
  refine lp_run0 (st := fun c => (nI (q (itr f c pT)), nI c)) (dp pT - (i + 1)) _ (by omega) (fun c hc => ?_) ?_
  · obtain ⟨a1, a2, a3⟩ := anc_ok h hr hp c (by omega)
    have h625 := hin c (by omega)
    unfold b_X7_scribeOfCopy_21
    dsimp only
    rw [if_neg (by rw [l625, nleI (by omega) (by omega)]; omega), isBook_in h625, bnd_some, if_neg (by decide), distOf_ok h625, bnd_some, hr.2.1 _ a1, n1, n1, if_neg (by rw [nleI (by omega) (by omega)]; omega), if_neg (gN h625 (by decide)), nI_clamp (by omega), (hr.2.2.2.1 _ (a3 (by omega)) a1).1]
    rfl
  · obtain ⟨a1, a2, a3⟩ := anc_ok h hr hp (dp pT - (i + 1)) (by omega)
    have h625 := hin (dp pT - (i + 1)) (by omega)
    unfold b_X7_scribeOfCopy_21
    dsimp only
    rw [if_neg (by rw [l625, nleI (by omega) (by omega)]; omega), isBook_in h625, bnd_some, if_neg (by decide), distOf_ok h625, bnd_some, hr.2.1 _ a1, n1, if_pos (by rw [nleI (by omega) (by omega)]; omega), bnd_some, if_neg (by decide), if_neg (gN h625 (by decide)), nI_clamp (by omega), (hr.2.2.2.1 _ (a3 (by omega)) a1).2]
/-- and so does the reference -/
theorem mway_ok {n L S d : Nat} {t b : Nat → Nat} {op li sc ne tu be now : Nat → Int32} (hh : MH n L S d t b op li sc ne tu be) {w k0 I m pT T i : Nat} {q f u dp : Nat → Nat} {dist bef lst que far : Nat → Int32} (hw : WOK S w) (hbw : f_X9_boughtIn sc now = some (nI w)) (h : SQ w (CV n L d t b) (CP n L t b) (n ^ L) k0 (6 * I) m q f u) (hr : SR m q f u dp dist bef lst que) (hf : FAR w (CV n L d t b) (CP n L t b) T (n ^ L) far) (hp : pT < m) (hT : q pT = T) (hi : i < dp pT) :
    lpF (b_X9_way_59 op li sc tu be ne now far (nI i) (nI (dp pT))) FU (nI k0, (-9 : Int32), (0 : Int32)) = some (nI (u (itr f (dp pT - (i + 1)) pT)), far) := by
  obtain ⟨⟨g1, g2, g3, g4, g5, g6, g7⟩, h1, h2, h3, h4, h5⟩ := id hh
  have hB := npow_le (n := n) (L := L) g2 g3
  have hmB := SQ_m h
  have hdp : dp pT ≤ pT := hr.2.2.2.2.2.2 pT hp
  have hst : (nI k0, (-9 : Int32), (0 : Int32)) = (fun k => (nI (q (itr f (dp pT - k) pT)), (if k = 0 then (-9 : Int32) else nI (u (itr f (dp pT - k) pT))), nI k)) 0 := by
    obtain ⟨a1, a2, a3⟩ := anc_ok h hr hp (dp pT) (Nat.le_refl _)
    have hz : itr f (dp pT) pT = 0 := by
      apply Nat.eq_zero_of_not_pos
      intro c
      have := hr.2.2.2.2.2.1 _ c a1
      omega
    dsimp only
    rw [Nat.sub_zero, hz, h.1.2.1, if_pos rfl]
    rfl
  rw [hst]
  refine lp_run0 (st := fun k => (nI (q (itr f (dp pT - k) pT)), (if k = 0 then (-9 : Int32) else nI (u (itr f (dp pT - k) pT))), nI k)) (i + 1) _ (by omega) (fun k hk => ?_) ?_
  · obtain ⟨a1, a2, a3⟩ := anc_ok h hr hp (dp pT - k) (by omega)
    obtain ⟨y1, y2, y3⟩ := anc_ok h hr hp (dp pT - (k + 1)) (by omega)
    have y3 := y3 (by omega)
    have hfy : f (itr f (dp pT - (k + 1)) pT) = itr f (dp pT - k) pT := by
      rw [show dp pT - k = dp pT - (k + 1) + 1 by omega]
      rfl
    have hclaim := anc_claim h hr hp hT (dp pT - (k + 1)) (by omega)
    have hxy := anc_xct h hr hp hT (j := dp pT - (k + 1)) (by omega)
    obtain ⟨b1, b2, b3, b4, b5, b6⟩ := h.2.1 _ y3 y1
    rw [hfy] at b1 b3 b5 b6
    unfold b_X9_way_59
    dsimp only
    rw [if_neg (by rw [nltI (by omega) (by omega)]; omega), if_neg (by omega)]
    generalize itr f (dp pT - k) pT = x at *
    generalize itr f (dp pT - (k + 1)) pT = y at *
    have hqx : q x < n ^ L := h.1.2.2.1 x a1
    have hqy : q y < n ^ L := h.1.2.2.1 y y1
    have hsub : (nI (dp pT) - nI k) - (1 : Int32) = nI (dp pT - (k + 1)) := by
      rw [l1, pk_sub (by omega), pk_sub (by omega)]
      congr 1
    refine lp_run0 (st := fun s => nI s) (u y) _ (by omega) (fun s hs => ?_) ?_
    · unfold b_X9_way_68
      rw [hbw, bnd_some, n1, hsub]
      cases hb : btN w s with
      | false => rw [bit_n hw.1 (by omega) hb, if_pos rfl]
      | true =>
        have hsS : s < S := hw.2 s (by omega) hb
        rw [bit_y hw.1 (by omega) hb, if_neg (by decide), misConvinced_ok hh hsS hqx, bnd_some]
        cases hv : cvN n L d (sy n t b s) (q x) with
        | true => rw [if_neg (by decide)]
        | false =>
          have hc : cpN n (sy n t b s) L (q x) < n ^ L := cpN_lt (fun x => sy_lt g1) L (q x)
          rw [if_pos bIf, mcopyOf_ok hh hsS hqx, bnd_some, if_neg (gN (by omega) (by decide)), nI_clamp (by omega), if_neg]
          intro e
          have hl := far_l hf hB (by omega) hc e
          obtain ⟨p2, c1, c2, c3⟩ := h.2.2.2 x s a1 (by omega) (by omega) hb hv
          have hl : lvl w (CV n L d t b) (CP n L t b) T (dp pT - (k + 1)) (CP n L t b s (q x)) := hl
          rw [← c2] at hl
          have hyp := hclaim p2 c1 hl
          have := SQ_mono h y3 hyp c1
          rw [hfy] at this
          rcases c3 with c3 | c3 <;> omega
    · have hsS : u y < S := hw.2 _ b2 b4
      have b5' : cvN n L d (sy n t b (u y)) (q x) = false := b5
      have b6' : cpN n (sy n t b (u y)) L (q x) = q y := b6
      unfold b_X9_way_68
      rw [hbw, bnd_some, hsub, bit_y hw.1 (by omega) b4, if_neg (by decide), misConvinced_ok hh hsS hqx, bnd_some, b5', if_pos bIf, mcopyOf_ok hh hsS hqx, bnd_some, b6', if_neg (gN (by omega) (by decide)), nI_clamp (by omega), if_pos (far_x hf hqy hxy), bnd_some, n1]
  · unfold b_X9_way_59
    dsimp only
    rw [if_pos (by rw [nltI (by omega) (by omega)]; omega), if_neg (by omega)]
theorem way_ok {n L S d : Nat} {t b : Nat → Nat} {op li sc ne tu be now : Nat → Int32} (hh : MH n L S d t b op li sc ne tu be) {made : Nat → Int32} (hm : LWT n L S d t b made) {w k0 T K : Nat} {kn : Int32} {rows : Nat → Nat → Int32} (hw : WOK S w) (hbw : f_X9_boughtIn sc now = some (nI w)) (hbc : f_X8_bought (nI S) kn rows = some (nI w)) (hbk : f_X6_book kn rows = some (nI k0)) (h0 : now 0 = nI k0) (hk : k0 < n ^ L) (hT : T < n ^ L) (far dist0 bef0 lst0 que0 : Nat → Int32) (qd0 : Int32) (p : Int32) :
    ∃ r x1 x2 x3 x4 x5 far', f_X8_way (nI T) (nI S) kn rows qd0 (nI S) (nI (n ^ L)) made dist0 bef0 lst0 que0 p = some (r, x1, x2, x3, x4, x5) ∧ f_X9_way (nI T) op li sc tu be ne now far p = some (r, far') := by
  obtain ⟨⟨g1, g2, g3, g4, g5, g6, g7⟩, h1, h2, h3, h4, h5⟩ := id hh
  have hB := npow_le (n := n) (L := L) g2 g3
  unfold f_X8_way f_X9_way
  by_cases c : (-1 : Int32) ≤ p
  · rw [if_pos c, if_pos c, hbk, bnd_some, hbc, bnd_some]
    obtain ⟨⟨qd, dist, bef, lst, que⟩, I, m, q, f, u, dp, e1, ⟨e2, hQ, hR⟩, e3⟩ := search_ok hh.1 hm hw hk hT dist0 bef0 lst0 que0
    have hR : SR m q f u dp dist bef lst que := hR
    obtain ⟨fr, e4, hF⟩ := measure_ok hh (T := T) far hw hbw hT
    have hmB := SQ_m hQ
    rw [e1, bnd_some, e4, bnd_some, show now (0 : Int32).toNatClampNeg = nI k0 from h0, if_neg (gN (by omega) (by decide)), nI_clamp (by omega)]
    dsimp only
    by_cases hfd : ∃ pT, pT < m ∧ q pT = T
    · obtain ⟨pT, p1, p2⟩ := hfd
      have hdp : dp pT ≤ pT := hR.2.2.2.2.2.2 pT p1
      have hx := anc_xct hQ hR p1 p2 (j := dp pT) (Nat.le_refl _)
      have hz : itr f (dp pT) pT = 0 := by
        obtain ⟨a1, a2, a3⟩ := anc_ok hQ hR p1 (dp pT) (Nat.le_refl _)
        apply Nat.eq_zero_of_not_pos
        intro c
        have := hR.2.2.2.2.2.1 _ c a1
        omega
      rw [hz, hQ.1.2.1] at hx
      have hfk : fr k0 = nI (dp pT) := far_x hF hk hx
      have hdT : dist T = nI (dp pT) := by rw [← p2]; exact hR.2.1 pT p1
      by_cases cm : p = (-1 : Int32)
      · rw [if_pos cm, if_pos cm, if_pos cm, hfk]
        have : f_X7_fewestCopies dist (nI T) = some (nI (dp pT)) := by
          unfold f_X7_fewestCopies
          rw [isFound_y (by omega) (by omega) hdT, bnd_some, if_neg (by decide), distOf_ok (by omega), bnd_some, hdT]
        rw [this, bnd_some]
        exact ⟨_, _, _, _, _, _, _, rfl, rfl⟩
      · rw [if_neg cm, if_neg cm, if_neg cm, hfk]
        have hp0 : ¬ p < 0 := by
          intro c0
          apply cm
          apply Int32.toInt_inj.mp
          rw [Int32.le_iff_toInt_le] at c
          rw [Int32.lt_iff_toInt_lt] at c0
          have z1 : ((-1 : Int32)).toInt = -1 := by decide
          have z2 : ((0 : Int32)).toInt = 0 := by decide
          omega
        obtain ⟨i, hi, rfl⟩ := nI_of hp0
        by_cases ci : i < dp pT
        · rw [if_pos (by rw [nltI hi (by omega)]; exact ci), soc_ok hQ hR hB p1 p2 ci, bnd_some, mway_ok hh hw hbw hQ hR hF p1 p2 ci]
          exact ⟨_, _, _, _, _, _, _, rfl, rfl⟩
        · rw [if_neg (by rw [nltI hi (by omega)]; exact ci)]
          have : f_X7_scribeOfCopy dist bef lst (nI T) (nI i) = some (-9) := by
            unfold f_X7_scribeOfCopy
            rw [if_neg hp0, distOf_ok (by omega), bnd_some, hdT, if_neg (by rw [nltI hi (by omega)]; exact ci)]
          rw [this, bnd_some]
          exact ⟨_, _, _, _, _, _, _, rfl, rfl⟩
    · obtain ⟨rfl, hn⟩ : I = m ∧ ∀ p, p < m → q p ≠ T := by
        rcases e3 with e3 | e3
        · exact absurd e3 hfd
        · exact e3
      have hnw : ∀ j, ¬ lvl w (CV n L d t b) (CP n L t b) T j k0 := fun j hl => no_way hQ hn j 0 hQ.1.1 (by rw [hQ.1.2.1]; exact hl)
      have hfk : fr k0 = -9 := by
        rcases hF k0 hk with ⟨a, a1, a2, a3⟩ | ⟨a1, a2⟩
        · exact absurd a3.1 (hnw a)
        · exact a1
      have hdT : dist T = -1 := hR.2.2.1 T (by omega) hn
      by_cases cm : p = (-1 : Int32)
      · rw [if_pos cm, if_pos cm, if_pos cm, hfk]
        have : f_X7_fewestCopies dist (nI T) = some (-9) := by
          unfold f_X7_fewestCopies
          rw [isFound_n (by omega) hdT, bnd_some, if_pos rfl]
        rw [this, bnd_some]
        exact ⟨_, _, _, _, _, _, _, rfl, rfl⟩
      · rw [if_neg cm, if_neg cm, if_neg cm, hfk]
        have hp0 : ¬ p < 0 := by
          intro c0
          apply cm
          apply Int32.toInt_inj.mp
          rw [Int32.le_iff_toInt_le] at c
          rw [Int32.lt_iff_toInt_lt] at c0
          have z1 : ((-1 : Int32)).toInt = -1 := by decide
          have z2 : ((0 : Int32)).toInt = 0 := by decide
          omega
        obtain ⟨i, hi, rfl⟩ := nI_of hp0
        have hng : ∀ x : Int32, x.toInt < 0 → ¬ nI i < x := fun x hx e => by
          rw [Int32.lt_iff_toInt_lt, nI_toInt hi] at e
          omega
        rw [if_neg (hng (-9) (by decide))]
        have : f_X7_scribeOfCopy dist bef lst (nI T) (nI i) = some (-9) := by
          unfold f_X7_scribeOfCopy
          rw [if_neg hp0, distOf_ok (by omega), bnd_some, hdT, if_neg (hng (-1) (by decide))]
        rw [this, bnd_some]
        exact ⟨_, _, _, _, _, _, _, rfl, rfl⟩
  · rw [if_neg c, if_neg c]
    exact ⟨_, _, _, _, _, _, _, rfl, rfl⟩
