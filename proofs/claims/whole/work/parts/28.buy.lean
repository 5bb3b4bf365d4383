/-! ===== whom to buy in ===== -/
def isBest (cand : Nat → Bool) (N : Nat) (X : Option Nat) : Prop := match X with
  | none => ∀ a, a < N → cand a = false
  | some x => x < N ∧ cand x = true ∧ ∀ a, a < N → cand a = true → pc x < pc a ∨ (pc x = pc a ∧ x ≤ a)
theorem isBest_uniq {cand : Nat → Bool} {N : Nat} {X Y : Option Nat} (hX : isBest cand N X) (hY : isBest cand N Y) : X = Y := by
  cases X with
  | none =>
    cases Y with
    | none => rfl
    | some y => exact absurd (hX y hY.1) (by rw [hY.2.1]; decide)
  | some x =>
    cases Y with
    | none => exact absurd (hY x hX.1) (by rw [hX.2.1]; decide)
    | some y =>
      obtain ⟨a1, a2, a3⟩ := hX
      obtain ⟨b1, b2, b3⟩ := hY
      rcases a3 y b1 b2 with h | h <;> rcases b3 x a1 a2 with g | g
      · omega
      · omega
      · omega
      · rw [show x = y by omega]
theorem sub_ok : ∀ rel, rel < 64 → ∀ x, x < 64 → ((nI x &&& (nI rel ^^^ (-1 : Int32))) = 0 ↔ x &&& rel = x) := by decide +kernel
def canB (n L d : Nat) (t b : Nat → Nat) (w rel k m x : Nat) : Bool := (x &&& rel == x) && decide ((RN n L d t b (w ||| x) m (nb (w ||| x) 0) k).2.1 = m)
/-- the class's search within one number of scribes -/
theorem buy13_ok {n L S d : Nat} {t b : Nat → Nat} {made : Nat → Int32} (h : HOK n L S d t b) (hm : LWT n L S d t b made) {w rel k m few : Nat} (hrel : rel < 64) (hw : ∀ x, x < 64 → x &&& rel = x → WOK S (w ||| x)) (hk : k < n ^ L) (hmm : m < 29000) (hf : few < 7) (y1 y2 y3 y4 : Int32) : ∃ r, lpF (b_X5_fewestToBuy_13 (nI S) (nI (n ^ L)) made (nI k) (nI w) (nI rel) (nI m) (nI few)) FU ((0 : Int32), y1, y2, y3, y4) = some r ∧ ((∃ x x1 x2 x3 x4, r = .inr (nI x, x1, x2, x3, x4) ∧ x < 64 ∧ pc x = few ∧ canB n L d t b w rel k m x = true ∧ ∀ a, a < x → pc a = few → canB n L d t b w rel k m a = false) ∨ (∃ x1 x2 x3 x4, r = .inl (nI (few + 1), x1, x2, x3, x4) ∧ ∀ a, a < 64 → pc a = few → canB n L d t b w rel k m a = false)) := by
  have hB := npow_le (n := n) (L := L) h.2.1 h.2.2.1
  refine lp_IU (B := b_X5_fewestToBuy_13 (nI S) (nI (n ^ L)) made (nI k) (nI w) (nI rel) (nI m) (nI few)) (fun z => ∃ i y1 y2 y3 y4, i ≤ 64 ∧ z = (nI i, y1, y2, y3, y4) ∧ ∀ a, a < i → pc a = few → canB n L d t b w rel k m a = false) (fun z => 64 - z.1.toNatClampNeg) _ (fun z hz => ?_) _ ⟨0, y1, y2, y3, y4, Nat.zero_le _, rfl, fun a ha => by omega⟩ (by show 64 - _ < _; omega)
  obtain ⟨i, y1, y2, y3, y4, hi, rfl, hno⟩ := hz
  unfold b_X5_fewestToBuy_13
  dsimp only
  by_cases c : 64 ≤ i
  · right
    simp (disch := omega) only [↓km1, ↓km2, ↓km3, ↓km9, l0, l1, l2, l3, l4, l5, l6, l8, l9, l10, l64, l625, nlt0, nltI, nleI, neqI, njrem, ndiv, nI_add, pk_mul, pk_sub, nI_clamp, bnd_some, nne9, nne1, nm1, ↓reduceIte, Bool.false_eq_true, reduceCtorEq, Option.elim, oI_none, oI_some]
    rw [if_pos c]
    exact ⟨_, rfl, Or.inr ⟨_, _, _, _, rfl, fun a ha => hno a (by omega)⟩⟩
  · have hpc := pc_le (x := i)
    rw [bitCount_ok i (by omega)]
    have hsub := sub_ok rel hrel i (by omega)
    have next : ∀ y1 y2 y3 y4 : Int32, (pc i = few → canB n L d t b w rel k m i = false) → (∃ i' y1' y2' y3' y4', i' ≤ 64 ∧ (nI (i + 1), y1, y2, y3, y4) = (nI i', y1', y2', y3', y4') ∧ ∀ a, a < i' → pc a = few → canB n L d t b w rel k m a = false) ∧ 64 - (nI (i + 1)).toNatClampNeg < 64 - (nI i).toNatClampNeg := by
      intro y1 y2 y3 y4 hcc
      refine ⟨⟨i + 1, y1, y2, y3, y4, by omega, rfl, fun a ha hp => ?_⟩, ?_⟩
      · by_cases e : a = i
        · subst e; exact hcc hp
        · exact hno a (by omega) hp
      · rw [nI_clamp (by omega), nI_clamp (by omega)]
        omega
    by_cases e : pc i = few
    · by_cases s : i &&& rel = i
      · obtain ⟨x1, x2, x3, x4, hr⟩ := reaches_ok (m := m) h hm (hw i (by omega) s) hk hmm
        rw [nor, hr]
        rw [if_neg (show ¬ (64 : Int32) ≤ nI i by rw [l64, nleI (by omega) (by omega)]; exact c), bnd_some, if_pos (show nI (pc i) = nI few by rw [e]), if_pos (hsub.mpr s), bnd_some]
        by_cases q : (RN n L d t b (w ||| i) m (nb (w ||| i) 0) k).2.1 = m
        · right
          rw [decide_eq_true q, if_neg (show ¬ bI true = 0 by decide)]
          exact ⟨_, rfl, Or.inl ⟨i, _, _, _, _, rfl, by omega, e, by unfold canB; simp [s, q], hno⟩⟩
        · left
          rw [decide_eq_false q, if_pos (show bI false = 0 by rfl)]
          obtain ⟨n1, n2⟩ := next x1 x2 x3 x4 (fun _ => by unfold canB; simp [q])
          exact ⟨(nI (i + 1), x1, x2, x3, x4), by rw [show nI i + (1 : Int32) = nI (i + 1) from nI_1 i], n1, n2⟩
      · left
        rw [if_neg (show ¬ (64 : Int32) ≤ nI i by rw [l64, nleI (by omega) (by omega)]; exact c), bnd_some, if_pos (show nI (pc i) = nI few by rw [e]), if_neg (fun z => s (hsub.mp z))]
        obtain ⟨n1, n2⟩ := next y1 y2 y3 y4 (fun _ => by unfold canB; simp [s])
        exact ⟨(nI (i + 1), y1, y2, y3, y4), by rw [show nI i + (1 : Int32) = nI (i + 1) from nI_1 i], n1, n2⟩
    · left
      rw [if_neg (show ¬ (64 : Int32) ≤ nI i by rw [l64, nleI (by omega) (by omega)]; exact c), bnd_some, if_neg (show ¬ nI (pc i) = nI few by rw [neqI (by omega) (by omega)]; exact e)]
      obtain ⟨n1, n2⟩ := next y1 y2 y3 y4 (fun z => absurd z e)
      exact ⟨(nI (i + 1), y1, y2, y3, y4), by rw [show nI i + (1 : Int32) = nI (i + 1) from nI_1 i], n1, n2⟩
theorem fewest_ok {n L S d : Nat} {t b : Nat → Nat} {made : Nat → Int32} (h : HOK n L S d t b) (hm : LWT n L S d t b made) {w rel k m : Nat} (hrel : rel < 64) (hw : ∀ x, x < 64 → x &&& rel = x → WOK S (w ||| x)) (hk : k < n ^ L) (hmm : m < 29000) (y1 y2 y3 y4 : Int32) : ∃ X x1 x2 x3 x4, isBest (canB n L d t b w rel k m) 64 X ∧ f_X5_fewestToBuy y1 y2 y3 y4 (nI S) (nI (n ^ L)) made (nI k) (nI w) (nI rel) (nI m) = some (oI X, x1, x2, x3, x4) := by
  unfold f_X5_fewestToBuy
  obtain ⟨r, hr, X, x1, x2, x3, x4, hX, rfl⟩ := lp_IU (B := b_X5_fewestToBuy_3 (nI S) (nI (n ^ L)) made (nI k) (nI w) (nI rel) (nI m)) (fun z => ∃ i y1 y2 y3 y4, i ≤ 7 ∧ z = (nI i, y1, y2, y3, y4) ∧ ∀ a, a < 64 → pc a < i → canB n L d t b w rel k m a = false) (fun z => 7 - z.1.toNatClampNeg) (fun r => ∃ X x1 x2 x3 x4, isBest (canB n L d t b w rel k m) 64 X ∧ r = (oI X, x1, x2, x3, x4)) (fun z hz => by
    obtain ⟨i, y1, y2, y3, y4, hi, rfl, hno⟩ := hz
    unfold b_X5_fewestToBuy_3
    dsimp only
    by_cases c : 6 < i
    · right
      simp (disch := omega) only [↓km1, ↓km2, ↓km3, ↓km9, l0, l1, l2, l3, l4, l5, l6, l8, l9, l10, l64, l625, nlt0, nltI, nleI, neqI, njrem, ndiv, nI_add, pk_mul, pk_sub, nI_clamp, bnd_some, nne9, nne1, nm1, ↓reduceIte, Bool.false_eq_true, reduceCtorEq, Option.elim, oI_none, oI_some]
      rw [if_pos c]
      exact ⟨_, rfl, none, _, _, _, _, fun a ha => hno a ha (Nat.lt_of_le_of_lt pc_le c), rfl⟩
    · rw [if_neg (show ¬ (6 : Int32) < nI i by rw [l6, nltI (by omega) (by omega)]; exact c)]
      obtain ⟨r, h1, h2⟩ := buy13_ok (few := i) h hm hrel hw hk hmm (by omega) y1 y2 y3 y4
      rcases h2 with ⟨x, x1, x2, x3, x4, rfl, g1, g2, g3, g4⟩ | ⟨x1, x2, x3, x4, rfl, g1⟩
      · right
        refine ⟨_, h1, some x, _, _, _, _, ⟨g1, g3, fun a ha hc => ?_⟩, rfl⟩
        rcases Nat.lt_trichotomy (pc a) i with q | q | q
        · exact absurd (hno a ha q) (by rw [hc]; decide)
        · rcases Nat.lt_or_ge a x with z | z
          · exact absurd (g4 a z q) (by rw [hc]; decide)
          · exact Or.inr ⟨by omega, z⟩
        · exact Or.inl (by omega)
      · left
        refine ⟨_, h1, ⟨i + 1, x1, x2, x3, x4, by omega, rfl, fun a ha hp => ?_⟩, ?_⟩
        · rcases Nat.lt_or_ge (pc a) i with q | q
          · exact hno a ha q
          · exact g1 a ha (by omega)
        · dsimp only
          rw [nI_clamp (by omega), nI_clamp (by omega)]
          omega) ((0 : Int32), y1, y2, y3, y4) ⟨0, y1, y2, y3, y4, Nat.zero_le _, rfl, fun a _ ha => by omega⟩ (by show 7 - _ < _; omega)
  exact ⟨X, x1, x2, x3, x4, hX, hr⟩
theorem and_le {x rel : Nat} (h : x &&& rel = x) : x ≤ rel := by rw [← h]; exact Nat.and_le_right
theorem mbuy_ok {n L S d : Nat} {t b : Nat → Nat} {op li sc ne tu be now : Nat → Int32} (h : MH n L S d t b op li sc ne tu be) {w rel k m : Nat} (hrel : rel < 64) (hw : ∀ x, x < 64 → x &&& rel = x → WOK S (w ||| x)) (hk : k < n ^ L) (hmm : m ≤ 99) (hbw : f_X9_boughtIn sc now = some (nI w)) (h0 : now 0 = nI k) (h8 : now 8 = nI rel) (y1 y2 y3 : Int32) : ∃ X x1 x2 x3, isBest (canB n L d t b w rel k m) 64 X ∧ lpF (b_X9_buy_17 op li sc tu be ne now (nI m)) FU ((-9 : Int32), (0 : Int32), y1, y2, y3) = some (oI X, x1, x2, x3) := by
  obtain ⟨r, hr, X, x1, x2, x3, hX, rfl⟩ := lp_IU (B := b_X9_buy_17 op li sc tu be ne now (nI m)) (fun z => ∃ i X y1 y2 y3, i ≤ rel + 1 ∧ isBest (canB n L d t b w rel k m) i X ∧ z = (oI X, nI i, y1, y2, y3)) (fun z => rel + 1 - z.2.1.toNatClampNeg) (fun r => ∃ X x1 x2 x3, isBest (canB n L d t b w rel k m) 64 X ∧ r = (oI X, x1, x2, x3)) (fun z hz => by
    obtain ⟨i, X, y1, y2, y3, hi, hX, rfl⟩ := hz
    unfold b_X9_buy_17
    dsimp only
    rw [show now (8 : Int32).toNatClampNeg = nI rel from h8, show now (0 : Int32).toNatClampNeg = nI k from h0]
    have stay : canB n L d t b w rel k m i = false ∨ (∃ x, X = some x ∧ pc x ≤ pc i) → isBest (canB n L d t b w rel k m) (i + 1) X := by
      intro hc
      cases X with
      | none =>
        intro a ha
        by_cases e : a = i
        · subst e
          rcases hc with hc | ⟨x, e, -⟩
          · exact hc
          · cases e
        · exact hX a (by omega)
      | some x =>
        refine ⟨by have := hX.1; omega, hX.2.1, fun a ha hca => ?_⟩
        by_cases e : a = i
        · subst e
          rcases hc with hc | ⟨x', e, hp⟩
          · rw [hc] at hca; cases hca
          · cases e
            have := hX.1
            omega
        · exact hX.2.2 a (by omega) hca
    have take : canB n L d t b w rel k m i = true → (∀ x, X = some x → pc i < pc x) → isBest (canB n L d t b w rel k m) (i + 1) (some i) := by
      intro hc hp
      refine ⟨by omega, hc, fun a ha hca => ?_⟩
      by_cases e : a = i
      · subst e; exact Or.inr ⟨rfl, Nat.le_refl _⟩
      · cases X with
        | none => exact absurd (hX a (by omega)) (by rw [hca]; decide)
        | some x =>
          have := hp x rfl
          rcases hX.2.2 a (by omega) hca with q | q
          · exact Or.inl (by omega)
          · exact Or.inl (by omega)
    by_cases c : rel < i
    · right
      simp (disch := omega) only [↓km1, ↓km2, ↓km3, ↓km9, l0, l1, l2, l3, l4, l5, l6, l8, l9, l10, l64, l625, nlt0, nltI, nleI, neqI, njrem, ndiv, nI_add, pk_mul, pk_sub, nI_clamp, bnd_some, nne9, nne1, nm1, ↓reduceIte, Bool.false_eq_true, reduceCtorEq, Option.elim, oI_none, oI_some]
      rw [if_pos c]
      refine ⟨_, rfl, X, _, _, _, ?_, rfl⟩
      have out : ∀ a, i ≤ a → canB n L d t b w rel k m a = false := fun a ha => by
        cases q : canB n L d t b w rel k m a with
        | false => rfl
        | true =>
          unfold canB at q
          simp only [Bool.and_eq_true, beq_iff_eq] at q
          have := and_le q.1
          omega
      cases X with
      | none => exact fun a ha => if q : a < i then hX a q else out a (by omega)
      | some x => exact ⟨by have := hX.1; omega, hX.2.1, fun a ha hca => if q : a < i then hX.2.2 a q hca else absurd (out a (by omega)) (by rw [hca]; decide)⟩
    · left
      have hi6 : i < 64 := by omega
      have hpc := pc_le (x := i)
      have hsub := sub_ok rel hrel i hi6
      rw [if_neg (show ¬ nI rel < nI i by rw [nltI (by omega) (by omega)]; exact c)]
      have meas : rel + 1 - (nI (i + 1)).toNatClampNeg < rel + 1 - (nI i).toNatClampNeg := by
        rw [nI_clamp (by omega), nI_clamp (by omega)]; omega
      by_cases s : i &&& rel = i
      · rw [if_pos (hsub.mpr s), hbw, bnd_some, nor, go_ok h (hw i hi6 s) hk (show m ≤ 4000 by omega)]
        have hh := RN_had (n := n) (L := L) (d := d) (t := t) (b := b) (w := w ||| i) m (nb (w ||| i) 0) k
        by_cases q : (RN n L d t b (w ||| i) m (nb (w ||| i) 0) k).2.1 = m
        · have hcan : canB n L d t b w rel k m i = true := by unfold canB; simp [s, q]
          cases X with
          | none =>
            refine ⟨(nI i, nI (i + 1), nI (RN n L d t b (w ||| i) m (nb (w ||| i) 0) k).1, oI (RN n L d t b (w ||| i) m (nb (w ||| i) 0) k).2.2, nI (RN n L d t b (w ||| i) m (nb (w ||| i) 0) k).2.1), ?_, ⟨i + 1, some i, _, _, _, by omega, take hcan (fun x e => by cases e), rfl⟩, meas⟩
            simp (disch := omega) only [↓km1, ↓km2, ↓km3, ↓km9, l0, l1, l2, l3, l4, l5, l6, l8, l9, l10, l64, l625, nlt0, nltI, nleI, neqI, njrem, ndiv, nI_add, pk_mul, pk_sub, nI_clamp, bnd_some, nne9, nne1, nm1, ↓reduceIte, Bool.false_eq_true, reduceCtorEq, Option.elim, oI_none, oI_some]
            rw [if_pos q]
          | some x =>
            have hx := hX.1
            have hpx := pc_le (x := x)
            rw [oI_some, manyOf_ok i hi6, manyOf_ok x (by omega)]
            by_cases p : pc x ≤ pc i
            · refine ⟨(nI x, nI (i + 1), y1, y2, y3), ?_, ⟨i + 1, some x, _, _, _, by omega, stay (Or.inr ⟨x, rfl, p⟩), rfl⟩, meas⟩
              simp (disch := omega) only [↓km1, ↓km2, ↓km3, ↓km9, l0, l1, l2, l3, l4, l5, l6, l8, l9, l10, l64, l625, nlt0, nltI, nleI, neqI, njrem, ndiv, nI_add, pk_mul, pk_sub, nI_clamp, bnd_some, nne9, nne1, nm1, ↓reduceIte, Bool.false_eq_true, reduceCtorEq, Option.elim, oI_none, oI_some]
              rw [if_pos p]
            · refine ⟨(nI i, nI (i + 1), nI (RN n L d t b (w ||| i) m (nb (w ||| i) 0) k).1, oI (RN n L d t b (w ||| i) m (nb (w ||| i) 0) k).2.2, nI (RN n L d t b (w ||| i) m (nb (w ||| i) 0) k).2.1), ?_, ⟨i + 1, some i, _, _, _, by omega, take hcan (fun z e => by cases e; omega), rfl⟩, meas⟩
              simp (disch := omega) only [↓km1, ↓km2, ↓km3, ↓km9, l0, l1, l2, l3, l4, l5, l6, l8, l9, l10, l64, l625, nlt0, nltI, nleI, neqI, njrem, ndiv, nI_add, pk_mul, pk_sub, nI_clamp, bnd_some, nne9, nne1, nm1, ↓reduceIte, Bool.false_eq_true, reduceCtorEq, Option.elim, oI_none, oI_some]
              rw [if_neg p, if_pos q]
        · have hcan : canB n L d t b w rel k m i = false := by unfold canB; simp [q]
          cases X with
          | none =>
            refine ⟨((-9 : Int32), nI (i + 1), nI (RN n L d t b (w ||| i) m (nb (w ||| i) 0) k).1, oI (RN n L d t b (w ||| i) m (nb (w ||| i) 0) k).2.2, nI (RN n L d t b (w ||| i) m (nb (w ||| i) 0) k).2.1), ?_, ⟨i + 1, none, _, _, _, by omega, stay (Or.inl hcan), rfl⟩, meas⟩
            simp (disch := omega) only [↓km1, ↓km2, ↓km3, ↓km9, l0, l1, l2, l3, l4, l5, l6, l8, l9, l10, l64, l625, nlt0, nltI, nleI, neqI, njrem, ndiv, nI_add, pk_mul, pk_sub, nI_clamp, bnd_some, nne9, nne1, nm1, ↓reduceIte, Bool.false_eq_true, reduceCtorEq, Option.elim, oI_none, oI_some]
            rw [if_neg q]
          | some x =>
            have hx := hX.1
            have hpx := pc_le (x := x)
            rw [oI_some, manyOf_ok i hi6, manyOf_ok x (by omega)]
            by_cases p : pc x ≤ pc i
            · refine ⟨(nI x, nI (i + 1), y1, y2, y3), ?_, ⟨i + 1, some x, _, _, _, by omega, stay (Or.inr ⟨x, rfl, p⟩), rfl⟩, meas⟩
              simp (disch := omega) only [↓km1, ↓km2, ↓km3, ↓km9, l0, l1, l2, l3, l4, l5, l6, l8, l9, l10, l64, l625, nlt0, nltI, nleI, neqI, njrem, ndiv, nI_add, pk_mul, pk_sub, nI_clamp, bnd_some, nne9, nne1, nm1, ↓reduceIte, Bool.false_eq_true, reduceCtorEq, Option.elim, oI_none, oI_some]
              rw [if_pos p]
            · refine ⟨(nI x, nI (i + 1), nI (RN n L d t b (w ||| i) m (nb (w ||| i) 0) k).1, oI (RN n L d t b (w ||| i) m (nb (w ||| i) 0) k).2.2, nI (RN n L d t b (w ||| i) m (nb (w ||| i) 0) k).2.1), ?_, ⟨i + 1, some x, _, _, _, by omega, stay (Or.inl hcan), rfl⟩, meas⟩
              simp (disch := omega) only [↓km1, ↓km2, ↓km3, ↓km9, l0, l1, l2, l3, l4, l5, l6, l8, l9, l10, l64, l625, nlt0, nltI, nleI, neqI, njrem, ndiv, nI_add, pk_mul, pk_sub, nI_clamp, bnd_some, nne9, nne1, nm1, ↓reduceIte, Bool.false_eq_true, reduceCtorEq, Option.elim, oI_none, oI_some]
              rw [if_neg p, if_neg q]
      · refine ⟨(oI X, nI (i + 1), y1, y2, y3), ?_, ⟨i + 1, X, _, _, _, by omega, stay (Or.inl (by unfold canB; simp [s])), rfl⟩, meas⟩
        rw [if_neg (fun z => s (hsub.mp z)), show nI i + (1 : Int32) = nI (i + 1) from nI_1 i]) ((-9 : Int32), (0 : Int32), y1, y2, y3) ⟨0, none, y1, y2, y3, Nat.zero_le _, fun a ha => by omega, rfl⟩ (by show rel + 1 - _ < _; omega)
  exact ⟨X, x1, x2, x3, hX, hr⟩
/-! ===== the odds ===== -/
theorem odds103_map (a b c x3 x4 x5 : Int32) : ∀ (N : Nat) (z : Int32 × Int32), lpF (b_X9_odds_103 a b c x3 x4 x5) N z = (lpF (b_X9_odds_103 0 0 0 x3 x4 x5) N z).map (fun r => (r.1, a, b, c))
  | 0, z => rfl
  | N + 1, z => by
    rw [lpF_s, lpF_s]
    unfold b_X9_odds_103
    by_cases c1 : z.2 = 0
    · rw [if_pos c1, if_pos c1]
      by_cases c2 : x3 = 0
      · rw [if_pos c2, if_pos c2]
        by_cases c3 : z.1 = 0
        · rw [if_pos c3, if_pos c3]; rfl
        · rw [if_neg c3, if_neg c3]; rfl
      · rw [if_neg c2, if_neg c2]
        by_cases c3 : z.1 = 0
        · rw [if_pos c3, if_pos c3]; rfl
        · rw [if_neg c3, if_neg c3]; rfl
    · simp only [if_neg c1]
      exact odds103_map a b c x3 x4 x5 N (z.2, jrem z.1 z.2)
theorem odds67_map (a b c x1 x2 x3 : Int32) : ∀ (N : Nat) (z : Int32 × Int32 × Int32), lpF (b_X9_odds_67 a b c x1 x2 x3) N z = (lpF (b_X9_odds_67 0 0 0 x1 x2 x3) N z).map (fun r => (r.1, a, b, c))
  | 0, z => rfl
  | N + 1, z => by
    rw [lpF_s, lpF_s]
    unfold b_X9_odds_67
    by_cases c1 : x2 ≤ z.2.2
    · rw [if_pos c1, if_pos c1, odds103_map a b c]
      cases lpF (b_X9_odds_103 0 0 0 x3 z.1 z.2.1) FU (z.1, z.2.1) with
      | none => rfl
      | some r => rfl
    · rw [if_neg c1, if_neg c1]
      exact odds67_map a b c x1 x2 x3 N _
/-- the class's fraction -/
def oddC (x n what : Nat) : Option Int32 := (f_X8_commonDivisor (10 : Int32) ((10 : Int32) - nI x)).bind fun q => if (1 : Int32) ≤ q then (if nI what = 0 then (if q = 0 then none else f_X8_power (((10 : Int32) - nI x) / q) (nI n)) else (if q = 0 then none else f_X8_power ((10 : Int32) / q) (nI n))) else some (-1 : Int32)
theorem odds_yes : ∀ x, x < 11 → ∀ n, n < 10 → ∀ what, what < 2 → oddC x n what = (lpF (b_X9_odds_67 0 0 0 (nI x) (nI n) (nI what)) FU ((1 : Int32), (1 : Int32), (0 : Int32))).map (·.1) ∧ (oddC x n what).isSome = true := by decide +kernel
theorem odds_no : ∀ x, x < 11 → ∀ n, n < 10 → ∀ what, what < 2 → (lpF (b_X9_odds_67 0 0 0 (nI x) (nI n) (nI what)) FU ((0 : Int32), (1 : Int32), (0 : Int32))).map (·.1) = some (if what = 0 then (0 : Int32) else 1) := by decide +kernel
