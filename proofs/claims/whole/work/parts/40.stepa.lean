/-! ===== a call on both sides: what is asked of numbers ===== -/
theorem i32_nle {a b : Int32} (h : a < b) : ¬ b ≤ a := fun e => by
  rw [Int32.lt_iff_toInt_lt] at h
  rw [Int32.le_iff_toInt_le] at e
  omega
theorem i32_nlt {a b : Int32} (h : a ≤ b) : ¬ b < a := fun e => i32_nle e h
theorem i32_lt {a b : Int32} (h : ¬ a ≤ b) : b < a := by
  rw [Int32.le_iff_toInt_le] at h
  rw [Int32.lt_iff_toInt_lt]
  omega
theorem in_l {x lo hi : Int32} (h : x < lo) : f_X9_in x lo hi = some 0 := by unfold f_X9_in; rw [if_pos h]
theorem in_h {x lo hi : Int32} (h0 : ¬ x < lo) (h : hi < x) : f_X9_in x lo hi = some 0 := by unfold f_X9_in; rw [if_neg h0, if_pos h]
theorem in_y {x lo hi : Int32} (h0 : ¬ x < lo) (h : ¬ hi < x) : f_X9_in x lo hi = some 1 := by unfold f_X9_in; rw [if_neg h0, if_neg h]
/-- a number below 0, of 0 .. hi, above -/
theorem rng (H : Int32) (hi : Nat) (eH : H = nI hi) (hh : hi < 2 ^ 30) (p : Int32) : p < 0 ∨ (∃ j, j ≤ hi ∧ p = nI j ∧ ¬ p < 0 ∧ p ≤ H) ∨ (¬ p < 0 ∧ H < p) := by
  subst eH
  by_cases h : p < 0
  · exact Or.inl h
  · by_cases h2 : p ≤ nI hi
    · obtain ⟨j, hj, rfl⟩ := nI_of h
      exact Or.inr (Or.inl ⟨j, (nI_leI hj (by omega)).mp h2, rfl, h, h2⟩)
    · exact Or.inr (Or.inr ⟨h, i32_lt h2⟩)
theorem has_cases {N : Nat} (hN : N ≤ 6) (p : Int32) : (∃ s, s < N ∧ p = nI s ∧ ¬ p < 0 ∧ ¬ nI N ≤ p ∧ ¬ nI N - (1 : Int32) < p) ∨ p < 0 ∨ (¬ p < 0 ∧ nI N ≤ p ∧ nI N - (1 : Int32) < p) := by
  by_cases h : p < 0
  · exact Or.inr (Or.inl h)
  · obtain ⟨j, hj, rfl⟩ := nI_of h
    by_cases e : j < N
    · refine Or.inl ⟨j, e, rfl, h, by rw [nleI (by omega) (by omega)]; omega, ?_⟩
      rw [l1, pk_sub (by omega), nltI (by omega) (by omega)]
      omega
    · refine Or.inr (Or.inr ⟨h, by rw [nleI (by omega) (by omega)]; omega, ?_⟩)
      by_cases e0 : N = 0
      · subst e0
        rw [Int32.lt_iff_toInt_lt, nI_toInt hj, show (nI 0 - (1 : Int32)).toInt = -1 by decide]
        omega
      · rw [l1, pk_sub (by omega), nltI (by omega) (by omega)]
        omega
theorem scr_cases {S : Nat} {sc : Nat → Int32} (hS : S ≤ 6) (h3 : sc 0 = nI S) (p : Int32) : (∃ s, s < S ∧ p = nI s ∧ f_X0_hasScribe (nI S) p = some 1 ∧ f_X9_isScribe sc p = some 1) ∨ (f_X0_hasScribe (nI S) p = some 0 ∧ f_X9_isScribe sc p = some 0) := by
  unfold f_X0_hasScribe f_X9_isScribe
  rw [show sc (0 : Int32).toNatClampNeg = nI S from h3]
  rcases has_cases hS p with ⟨s, hs, rfl, h1, h2, h3⟩ | h1 | ⟨h1, h2, h3⟩
  · refine Or.inl ⟨s, hs, rfl, by rw [if_neg h1, if_neg h2, if_neg (by rw [l6, nleI (by omega) (by omega)]; omega)], ?_⟩
    rw [in_y h1 h3]; rfl
  · refine Or.inr ⟨by rw [if_pos h1], ?_⟩
    rw [in_l h1]; rfl
  · refine Or.inr ⟨by rw [if_neg h1, if_pos h2], ?_⟩
    rw [in_h h1 h3]; rfl
theorem lin_cases {L : Nat} {li : Nat → Int32} (hL : L ≤ 4) (h3 : li 0 = nI L) (p : Int32) : (∃ s, s < L ∧ p = nI s ∧ f_X0_hasLine (nI L) p = some 1 ∧ f_X9_isLine li p = some 1) ∨ (f_X0_hasLine (nI L) p = some 0 ∧ f_X9_isLine li p = some 0) := by
  unfold f_X0_hasLine f_X9_isLine
  rw [show li (0 : Int32).toNatClampNeg = nI L from h3]
  rcases has_cases (N := L) (by omega) p with ⟨s, hs, rfl, h1, h2, h3⟩ | h1 | ⟨h1, h2, h3⟩
  · refine Or.inl ⟨s, hs, rfl, by rw [if_neg h1, if_neg h2], ?_⟩
    rw [in_y h1 h3]; rfl
  · refine Or.inr ⟨by rw [if_pos h1], ?_⟩
    rw [in_l h1]; rfl
  · refine Or.inr ⟨by rw [if_neg h1, if_pos h2], ?_⟩
    rw [in_h h1 h3]; rfl
theorem opn_cases {n : Nat} {op : Nat → Int32} (hn : n ≤ 5) (h3 : op 0 = nI n) (p : Int32) : (∃ s, s < n ∧ p = nI s ∧ f_X0_hasOpinion (nI n) p = some 1 ∧ f_X9_isOpinion op p = some 1) ∨ (f_X0_hasOpinion (nI n) p = some 0 ∧ f_X9_isOpinion op p = some 0) := by
  unfold f_X0_hasOpinion f_X9_isOpinion
  rw [show op (0 : Int32).toNatClampNeg = nI n from h3]
  rcases has_cases (N := n) (by omega) p with ⟨s, hs, rfl, h1, h2, h3⟩ | h1 | ⟨h1, h2, h3⟩
  · refine Or.inl ⟨s, hs, rfl, by rw [if_neg h1, if_neg h2], ?_⟩
    rw [in_y h1 h3]; rfl
  · refine Or.inr ⟨by rw [if_pos h1], ?_⟩
    rw [in_l h1]; rfl
  · refine Or.inr ⟨by rw [if_neg h1, if_pos h2], ?_⟩
    rw [in_h h1 h3]; rfl
/-- what NOW holds, on both sides -/
theorem sd_get {B S K : Nat} {rows : Nat → Nat → Int32} {now : Nat → Int32} (h : SD B S 0 K rows now) : K ≤ 10 ∧ ∃ k c r, k < B ∧ c ≤ 999 ∧ r < 2 ^ S ∧ rows K 0 = nI k ∧ now 0 = nI k ∧ rows K 1 = nI c ∧ now 1 = nI c ∧ rows K 2 = nI r ∧ now 8 = nI r ∧ now 9 = nI K ∧ ∀ s, s < 6 → now (2 + s) = rows K (3 + s) := by
  obtain ⟨h1, h2, h3, h4, h5⟩ := h
  obtain ⟨⟨k, k1, k2⟩, ⟨c, c1, c2⟩, r, r1, r2⟩ := h5 K (Nat.le_refl _)
  refine ⟨h2, k, c, r, k2, c2, r2, k1, ?_, c1, ?_, r1, ?_, ?_, fun s hs => ?_⟩
  · have := h3 0 (by decide); rw [← k1, ← this]; rfl
  · have := h3 1 (by decide); rw [← c1, ← this]; rfl
  · have := h3 2 (by decide); rw [← r1, ← this]; rfl
  · rw [← h1]
  · have := h3 (3 + s) (by omega)
    rw [← this]
    unfold psi
    rw [if_neg (by omega), if_neg (by omega)]
    congr 1
    omega
theorem p2_le {S : Nat} (hS : S ≤ 6) : 2 ^ S ≤ 64 := Nat.le_trans (Nat.pow_le_pow_right (by decide) hS) (by decide)
theorem bought_dec : ∀ S, S < 7 → ∀ r, r < 2 ^ S → ((jshl (1 : Int32) (nI S) - (1 : Int32)) &&& (nI r ^^^ (-1 : Int32))) = nI (2 ^ S - 1 - r) := by decide +kernel
theorem bought_wok : ∀ S, S < 7 → ∀ r, r < 2 ^ S → ∀ s, s < 6 → btN (2 ^ S - 1 - r) s = true → s < S := by decide +kernel
theorem bought_or : ∀ S, S < 7 → ∀ r, r < 2 ^ S → ∀ x, x < 64 → (¬ (x &&& r = x)) ∨ (∀ s, s < 6 → (btN (2 ^ S - 1 - r ||| x) s = false ∨ s < S)) := by decide +kernel
theorem wok_or {S r x : Nat} (hS : S ≤ 6) (hr : r < 2 ^ S) (hx : x < 64) (h : x &&& r = x) : WOK S (2 ^ S - 1 - r ||| x) := by
  have h64 : 2 ^ S ≤ 64 := Nat.le_trans (Nat.pow_le_pow_right (by decide) hS) (by decide)
  refine ⟨Nat.or_lt_two_pow (n := 6) (by omega) (by omega), fun s hs hb => ?_⟩
  rcases bought_or S (by omega) r hr x hx with c | c
  · exact absurd h c
  · rcases c s hs with c | c
    · rw [hb] at c; cases c
    · exact c
theorem bought_ok {S K r : Nat} {rows : Nat → Nat → Int32} (hS : S ≤ 6) (hK : K ≤ 10) (hr : r < 2 ^ S) (h : rows K 2 = nI r) : f_X8_bought (nI S) (nI K) rows = some (nI (2 ^ S - 1 - r)) := by
  unfold f_X8_bought f_X0_allScribes
  rw [bnd_some, relAt hK, bnd_some, h, bought_dec S (by omega) r hr]
theorem mbought_ok {S r : Nat} {sc now : Nat → Int32} (hS : S ≤ 6) (hr : r < 2 ^ S) (h3 : sc 0 = nI S) (h : now 8 = nI r) : f_X9_boughtIn sc now = some (nI (2 ^ S - 1 - r)) := by
  unfold f_X9_boughtIn
  rw [show sc (0 : Int32).toNatClampNeg = nI S from h3, show now (8 : Int32).toNatClampNeg = nI r from h, bought_dec S (by omega) r hr]
theorem wok_ok {S r : Nat} (hS : S ≤ 6) (hr : r < 2 ^ S) : WOK S (2 ^ S - 1 - r) := ⟨by have := p2_le hS; omega, bought_wok S (by omega) r hr⟩
/-! ===== 2 .. 7: the text, reads ===== -/
theorem byte_dec : ∀ v, v < 256 → (vp_nar .byte (nI v).toInt8.toInt32) &&& (255 : Int32) = nI v := by decide +kernel
theorem step_type {len : Nat} {tx : Nat → Nat} {rt text : Nat → Int32} (hc : TXC len tx rt) (hm : TXM len tx text) (p : Int32) : ∃ r len' tx' rt' text', f_X8_type (nI len) rt p = some (r, nI len', rt') ∧ f_X9_type (nI len) text p = some (r, nI len', text') ∧ TXC len' tx' rt' ∧ TXM len' tx' text' := by
  unfold f_X8_type f_X9_type
  rcases rng 255 255 rfl (by decide) p with h | ⟨v, hv, rfl, h0, h2⟩ | ⟨h0, h⟩
  · rw [if_pos h, in_l h, bnd_some, if_pos rfl]
    exact ⟨_, len, tx, rt, text, rfl, rfl, hc, hm⟩
  · rw [if_neg h0, if_pos h2, in_y h0 (i32_nlt h2), bnd_some, if_neg one_ne]
    have hl := hc.1
    unfold f_X4_add
    rw [if_neg (nI_pos (by omega))]
    by_cases e : len = 120
    · subst e
      rw [if_neg (by decide), bnd_some, if_pos rfl, if_pos (show nI 120 = (120 : Int32) from rfl)]
      exact ⟨_, 120, tx, rt, text, rfl, rfl, hc, hm⟩
    · rw [if_pos (by rw [l120, nltI (by omega) (by omega)]; omega), if_neg (gN (by omega) (by decide)), bnd_some, if_neg one_ne, if_neg (by rw [l120, neqI (by omega) (by omega)]; exact e), if_neg (gN (by omega) (by decide)), n1, nI_clamp (by omega)]
      refine ⟨_, len + 1, uq tx len v, upd rt len (nI v), _, rfl, rfl, ⟨by omega, fun i hi => ?_⟩, ⟨by omega, fun i hi => ?_⟩⟩
      · by_cases ei : i = len
        · subst ei; rw [uq_eq, upd_eq]; exact ⟨by omega, rfl⟩
        · rw [uq_ne ei, upd_ne ei]; exact hc.2 i (by omega)
      · by_cases ei : i = len
        · subst ei; rw [uq_eq, upd_eq]; exact ⟨by omega, byte_dec v (by omega)⟩
        · rw [uq_ne ei, upd_ne ei]; exact hm.2 i (by omega)
  · rw [if_neg h0, if_neg (i32_nle h), in_h h0 h, bnd_some, if_pos rfl]
    exact ⟨_, len, tx, rt, text, rfl, rfl, hc, hm⟩
theorem step_line {n L S d K T : Nat} {t b : Nat → Nat} {op li sc ne tu be now : Nat → Int32} {rows : Nat → Nat → Int32} (hM : MH n L S d t b op li sc ne tu be) (hs : SD (n ^ L) S 0 K rows now) (hT : T < n ^ L) (p q : Int32) : ∃ r, f_X8_line (nI T) (nI n) (nI L) (nI K) rows p q = some r ∧ f_X9_line (nI T) op li now p q = some r := by
  obtain ⟨⟨g1, g2, g3, g4, g5, g6, g7⟩, h1, h2, h3, h4, h5⟩ := id hM
  obtain ⟨hK, k, c, r, k1, c1, r1, e1, e2, e3, e4, e5, e6, e7, e8⟩ := sd_get hs
  unfold f_X8_line f_X9_line
  rcases lin_cases g3 h2 p with ⟨l, hl, rfl, a1, a2⟩ | ⟨a1, a2⟩
  · rw [a1, a2, bnd_some, bnd_some, if_neg one_ne, if_neg one_ne]
    rcases rng 1 1 rfl (by decide) q with h | ⟨v, hv, rfl, z0, z2⟩ | ⟨z0, z⟩
    · rw [if_pos h, in_l h, bnd_some, if_pos rfl]; exact ⟨_, rfl, rfl⟩
    · rw [if_neg z0, if_pos z2, in_y z0 (i32_nlt z2), bnd_some, if_neg one_ne, bookAt hK, e1, bnd_some, lineOf_ok g1 g2 g3 hl k1, lineOf_ok g1 g2 g3 hl hT, show now (0 : Int32).toNatClampNeg = nI k from e2, mlineOf_ok g1 g2 g3 h1 h2 hl k1, mlineOf_ok g1 g2 g3 h1 h2 hl hT]
      by_cases ev : nI v = (0 : Int32)
      · simp only [if_pos ev]; exact ⟨_, rfl, rfl⟩
      · simp only [if_neg ev]; exact ⟨_, rfl, rfl⟩
    · rw [if_neg z0, if_neg (i32_nle z), in_h z0 z, bnd_some, if_pos rfl]; exact ⟨_, rfl, rfl⟩
  · rw [a1, a2, bnd_some, bnd_some, if_pos rfl, if_pos rfl]; exact ⟨_, rfl, rfl⟩
theorem n2s {s : Nat} : (2 : Int32) + nI s = nI (2 + s) := nI_add 2 s
theorem n3s {s : Nat} : (3 : Int32) + nI s = nI (3 + s) := nI_add 3 s
theorem isRel_ok {S K r s : Nat} {rows : Nat → Nat → Int32} (hS : S ≤ 6) (hK : K ≤ 10) (hr : r < 2 ^ S) (hs : s < S) (h : rows K 2 = nI r) : f_X6_isReleased (nI K) rows (nI s) = some (bI (btN r s)) := by
  have := p2_le hS
  unfold f_X6_isReleased
  rw [relAt hK, bnd_some, h]
  cases hb : btN r s with
  | true => rw [bit_y (by omega) (by omega) hb, if_pos rfl]; rfl
  | false => rw [bit_n (by omega) (by omega) hb, if_neg (by decide)]; rfl
theorem mrel_ok {S r s : Nat} {now : Nat → Int32} (hS : S ≤ 6) (hr : r < 2 ^ S) (hs : s < S) (h : now 8 = nI r) : (jshr (now (8 : Int32).toNatClampNeg) (nI s) &&& (1 : Int32)) = bI (btN r s) := by
  have := p2_le hS
  rw [show now (8 : Int32).toNatClampNeg = nI r from h]
  cases hb : btN r s with
  | true => rw [bit_y (by omega) (by omega) hb]; rfl
  | false => rw [bit_n (by omega) (by omega) hb]; rfl
theorem step_scribe {n L S d K : Nat} {t b : Nat → Nat} {op li sc ne tu be now tuC beC : Nat → Int32} {rows : Nat → Nat → Int32} (hC : CH n L S d t b tuC beC) (hM : MH n L S d t b op li sc ne tu be) (hs : SD (n ^ L) S 0 K rows now) (p q : Int32) : ∃ r, f_X8_scribe (nI n) (nI L) (nI (n ^ L)) (nI S) (nI d) tuC beC (nI K) rows p q = some r ∧ f_X9_scribe op li sc tu be ne now p q = some r := by
  obtain ⟨⟨g1, g2, g3, g4, g5, g6, g7⟩, h1, h2, h3, h4, h5⟩ := id hM
  obtain ⟨hK, k, c, r, k1, c1, r1, e1, e2, e3, e4, e5, e6, e7, e8⟩ := sd_get hs
  unfold f_X8_scribe f_X9_scribe
  rcases scr_cases g4 h3 p with ⟨s, hs, rfl, a1, a2⟩ | ⟨a1, a2⟩
  · rw [a1, a2, bnd_some, bnd_some, if_neg one_ne, if_neg one_ne, bookAt hK, e1, bnd_some, show now (0 : Int32).toNatClampNeg = nI k from e2]
    by_cases q0 : q = 0
    · rw [if_pos q0, if_pos q0, turnOf_ok hs g4 (hC.2 s hs).1, bnd_some, if_neg (gN (by omega) (by decide)), nI_clamp (by omega), (h5 s hs).1]; exact ⟨_, rfl, rfl⟩
    rw [if_neg q0, if_neg q0]
    by_cases q1 : q = 1
    · rw [if_pos q1, if_pos q1, bentOf_ok hs g4 (hC.2 s hs).2, bnd_some, if_neg (gN (by omega) (by decide)), nI_clamp (by omega), (h5 s hs).2]; exact ⟨_, rfl, rfl⟩
    rw [if_neg q1, if_neg q1]
    by_cases q2 : q = 2
    · rw [if_pos q2, if_pos q2, isRel_ok g4 hK r1 hs e5, bnd_some, mrel_ok g4 r1 hs e6]
      cases btN r s with
      | true => exact ⟨1, rfl, rfl⟩
      | false => exact ⟨0, rfl, rfl⟩
    rw [if_neg q2, if_neg q2]
    by_cases q3 : q = 3
    · rw [if_pos q3, if_pos q3, timesAt hK (by omega), bnd_some, n2s, if_neg (gN (by omega) (by decide)), nI_clamp (by omega), e8 s (by omega)]; exact ⟨_, rfl, rfl⟩
    rw [if_neg q3, if_neg q3]
    by_cases q4 : q = 4
    · rw [if_pos q4, if_pos q4, unlikeLines_ok hC hs k1, bnd_some, mdisagrees_ok hM hs k1, bnd_some]; exact ⟨_, rfl, rfl⟩
    rw [if_neg q4, if_neg q4]
    by_cases q5 : q = 5
    · rw [if_pos q5, if_pos q5, isConvinced_ok hC hs k1, bnd_some, misConvinced_ok hM hs k1, bnd_some]
      cases cvN n L d (sy n t b s) k with
      | true => rw [if_neg (by decide)]; exact ⟨_, rfl, rfl⟩
      | false => rw [if_pos bIf]; exact ⟨_, rfl, rfl⟩
    rw [if_neg q5, if_neg q5]
    by_cases q6 : q = 6
    · rw [if_pos q6, if_pos q6, comesRound_ok hC hs k1, bnd_some, mcomes_ok hM hs k1 e2, bnd_some]; exact ⟨_, rfl, rfl⟩
    rw [if_neg q6, if_neg q6]
    exact ⟨_, rfl, rfl⟩
  · rw [a1, a2, bnd_some, bnd_some, if_pos rfl, if_pos rfl]; exact ⟨_, rfl, rfl⟩
theorem step_says {n L S d : Nat} {t b : Nat → Nat} {op li sc ne tu be tuC beC : Nat → Int32} (hC : CH n L S d t b tuC beC) (hM : MH n L S d t b op li sc ne tu be) (p q : Int32) : ∃ r, f_X8_says (nI n) (nI S) tuC beC p q = some r ∧ f_X9_says op sc tu be p q = some r := by
  obtain ⟨⟨g1, g2, g3, g4, g5, g6, g7⟩, h1, h2, h3, h4, h5⟩ := id hM
  unfold f_X8_says f_X9_says
  rcases scr_cases g4 h3 p with ⟨s, hs, rfl, a1, a2⟩ | ⟨a1, a2⟩
  · rw [a1, a2, bnd_some, bnd_some, if_neg one_ne, if_neg one_ne]
    rcases opn_cases g2 h1 q with ⟨x, hx, rfl, b1, b2⟩ | ⟨b1, b2⟩
    · rw [b1, b2, bnd_some, bnd_some, if_neg one_ne, if_neg one_ne, saidBy_ok hC hs hx, bnd_some, msaysOf_ok hM hs hx, bnd_some]; exact ⟨_, rfl, rfl⟩
    · rw [b1, b2, bnd_some, bnd_some, if_pos rfl, if_pos rfl]; exact ⟨_, rfl, rfl⟩
  · rw [a1, a2, bnd_some, bnd_some, if_pos rfl, if_pos rfl]; exact ⟨_, rfl, rfl⟩
