/-! ===== a house in numbers ===== -/
/-- what a scribe says of an opinion -/
def sy (n : Nat) (t b : Nat → Nat) (s x : Nat) : Nat := (t s * x + b s) % n
/-- each figure of a book put anew by f -/
def cpN (n : Nat) (f : Nat → Nat) : Nat → Nat → Nat
  | 0, _ => 0
  | L + 1, k => f (k % n) + n * cpN n f L (k / n)
/-- a book's line -/
def dgt (n L k l : Nat) : Nat := k / n ^ (L - 1 - l) % n
def msk (p : Nat → Bool) : Nat → Nat
  | 0 => 0
  | k + 1 => msk p k ||| (if p k then 2 ^ k else 0)
def dsN (n L : Nat) (f : Nat → Nat) (k : Nat) : Nat := msk (fun l => f (dgt n L k l) != dgt n L k l) L
def HOK (n L S d : Nat) (t b : Nat → Nat) : Prop := 2 ≤ n ∧ n ≤ 5 ∧ L ≤ 4 ∧ S ≤ 6 ∧ 1 ≤ d ∧ d ≤ 4 ∧ ∀ s, s < S → t s ≤ 6 ∧ b s ≤ 6
theorem npow_le {n L : Nat} (hn : n ≤ 5) (hL : L ≤ 4) : n ^ L ≤ 625 := Nat.le_trans (Nat.pow_le_pow_left hn L) (Nat.le_trans (Nat.pow_le_pow_right (by decide) hL) (by decide))
theorem npow_pos {n L : Nat} (hn : 2 ≤ n) : 0 < n ^ L := Nat.pow_pos (by omega)
theorem sy_lt {n : Nat} {t b : Nat → Nat} {s x : Nat} (hn : 2 ≤ n) : sy n t b s x < n := Nat.mod_lt _ (by omega)
theorem cpN_lt {n : Nat} {f : Nat → Nat} (hf : ∀ x, f x < n) : ∀ (L k : Nat), cpN n f L k < n ^ L
  | 0, _ => by simp [cpN]
  | L + 1, k => by
    have h1 := cpN_lt hf L (k / n)
    have h2 := hf (k % n)
    unfold cpN
    have h3 : n * cpN n f L (k / n) + n ≤ n * n ^ L := by
      have := Nat.mul_le_mul_left n (show cpN n f L (k / n) + 1 ≤ n ^ L from h1)
      rw [Nat.mul_add, Nat.mul_one] at this
      exact this
    rw [Nat.pow_succ, Nat.mul_comm (n ^ L) n]
    omega
theorem msk_bit (p : Nat → Bool) : ∀ (k j : Nat), (msk p k).testBit j = (decide (j < k) && p j)
  | 0, j => by simp [msk]
  | k + 1, j => by
    unfold msk
    rw [Nat.testBit_or, msk_bit p k j]
    by_cases h : p k
    · rw [if_pos h, Nat.testBit_two_pow]
      by_cases e : k = j
      · subst e; simp [h]
      · by_cases h2 : j < k
        · simp [e, h2, Nat.lt_succ_of_lt h2]
        · simp [e, h2, show ¬ j < k + 1 by omega]
    · rw [if_neg h]
      by_cases e : j = k
      · subst e; simp [h]
      · by_cases h2 : j < k
        · simp [h2, Nat.lt_succ_of_lt h2]
        · simp [h2, show ¬ j < k + 1 by omega]
theorem msk_lt (p : Nat → Bool) (k : Nat) : msk p k < 2 ^ k := by
  apply Nat.lt_pow_two_of_testBit
  intro j hj
  rw [msk_bit]
  simp [show ¬ j < k by omega]
/-! ===== the class's House ===== -/
theorem said_ok {a b x n : Nat} (hn : 2 ≤ n) (hn5 : n ≤ 5) (ha : a ≤ 6) (hb : b ≤ 6) (hx : x < n) : f_X0_said (nI a) (nI b) (nI x) (nI n) = some (nI ((a * x + b) % n)) := by
  have h1 : a * x ≤ 6 * 5 := Nat.mul_le_mul ha (by omega)
  unfold f_X0_said
  simp (disch := omega) only [↓km1, ↓km2, ↓km3, ↓km9, l0, l1, l2, l3, l4, l5, l6, l8, l9, l10, l64, l625, nlt0, nltI, nleI, neqI, njrem, ndiv, nI_add, pk_mul, pk_sub, nI_clamp, bnd_some, nne9, nne1, nm1]
  rw [if_pos (by omega), if_neg (by omega)]
theorem hasScribe_in {S s : Nat} (hs : s < S) (hS : S ≤ 6) : f_X0_hasScribe (nI S) (nI s) = some 1 := by
  unfold f_X0_hasScribe
  simp (disch := omega) only [↓km1, ↓km2, ↓km3, ↓km9, l0, l1, l2, l3, l4, l5, l6, l8, l9, l10, l64, l625, nlt0, nltI, nleI, neqI, njrem, ndiv, nI_add, pk_mul, pk_sub, nI_clamp, bnd_some, nne9, nne1, nm1]
  rw [if_neg (by omega), if_neg (by omega), if_neg (by omega)]
theorem turnOf_ok {S s v : Nat} {tu : Nat → Int32} (hs : s < S) (hS : S ≤ 6) (ht : tu s = nI v) : f_X0_turnOf (nI S) tu (nI s) = some (nI v) := by
  unfold f_X0_turnOf
  rw [hasScribe_in hs hS]
  simp (disch := omega) only [↓km1, ↓km2, ↓km3, ↓km9, l0, l1, l2, l3, l4, l5, l6, l8, l9, l10, l64, l625, nlt0, nltI, nleI, neqI, njrem, ndiv, nI_add, pk_mul, pk_sub, nI_clamp, bnd_some, nne9, nne1, nm1]
  rw [if_neg (by omega), if_neg (by omega), ht]
theorem bentOf_ok {S s v : Nat} {be : Nat → Int32} (hs : s < S) (hS : S ≤ 6) (ht : be s = nI v) : f_X0_bentOf (nI S) be (nI s) = some (nI v) := by
  unfold f_X0_bentOf
  rw [hasScribe_in hs hS]
  simp (disch := omega) only [↓km1, ↓km2, ↓km3, ↓km9, l0, l1, l2, l3, l4, l5, l6, l8, l9, l10, l64, l625, nlt0, nltI, nleI, neqI, njrem, ndiv, nI_add, pk_mul, pk_sub, nI_clamp, bnd_some, nne9, nne1, nm1]
  rw [if_neg (by omega), if_neg (by omega), ht]
/-- the class's house stands for these numbers -/
def CH (n L S d : Nat) (t b : Nat → Nat) (tu be : Nat → Int32) : Prop := HOK n L S d t b ∧ ∀ s, s < S → tu s = nI (t s) ∧ be s = nI (b s)
theorem saidBy_ok {n L S d : Nat} {t b : Nat → Nat} {tu be : Nat → Int32} (h : CH n L S d t b tu be) {s x : Nat} (hs : s < S) (hx : x < n) : f_X0_saidBy (nI n) (nI S) tu be (nI s) (nI x) = some (nI (sy n t b s x)) := by
  obtain ⟨⟨h1, h2, h3, h4, h5, h6, h7⟩, h8⟩ := h
  unfold f_X0_saidBy
  rw [turnOf_ok hs h4 (h8 s hs).1]
  show ((f_X0_bentOf (nI S) be (nI s)).bind _) = _
  rw [bentOf_ok hs h4 (h8 s hs).2]
  show ((f_X0_said _ _ _ _).bind _) = _
  rw [said_ok h1 h2 (h7 s hs).1 (h7 s hs).2 hx]
  rfl
theorem weightOf_ok {n L l : Nat} (hn : 2 ≤ n) (hn5 : n ≤ 5) (hL : L ≤ 4) (hl : l < L) : f_X0_weightOf (nI n) (nI L) (nI l) = some (nI (n ^ (L - 1 - l))) := by
  unfold f_X0_weightOf
  have e1 : nI l + (1 : Int32) = nI (l + 1) := nI_1 l
  rw [e1]
  have hp : ∀ i, i ≤ L - 1 - l → n ^ i ≤ 625 := fun i hi => npow_le hn5 (by omega)
  refine lp_run0 (st := fun i => (nI (n ^ i), nI (l + 1 + i))) (L - 1 - l) _ (by omega) (fun i hi => ?_) ?_
  · show b_X0_weightOf_6 _ _ _ = _
    unfold b_X0_weightOf_6
    have := hp i (by omega)
    simp (disch := omega) only [↓km1, ↓km2, ↓km3, ↓km9, l0, l1, l2, l3, l4, l5, l6, l8, l9, l10, l64, l625, nlt0, nltI, nleI, neqI, njrem, ndiv, nI_add, pk_mul, pk_sub, nI_clamp, bnd_some, nne9, nne1, nm1]
    rw [if_neg (by omega), Nat.pow_succ]
    rfl
  · show b_X0_weightOf_6 _ _ _ = _
    unfold b_X0_weightOf_6
    simp (disch := omega) only [↓km1, ↓km2, ↓km3, ↓km9, l0, l1, l2, l3, l4, l5, l6, l8, l9, l10, l64, l625, nlt0, nltI, nleI, neqI, njrem, ndiv, nI_add, pk_mul, pk_sub, nI_clamp, bnd_some, nne9, nne1, nm1]
    rw [if_pos (by omega)]
theorem dgt_lt {n L k l : Nat} (hn : 2 ≤ n) : dgt n L k l < n := Nat.mod_lt _ (by omega)
theorem lineOf_ok {n L k l : Nat} (hn : 2 ≤ n) (hn5 : n ≤ 5) (hL : L ≤ 4) (hl : l < L) (hk : k < n ^ L) : f_X0_lineOf (nI n) (nI L) (nI k) (nI l) = some (nI (dgt n L k l)) := by
  unfold f_X0_lineOf
  rw [weightOf_ok hn hn5 hL hl]
  have h1 := npow_le (n := n) (L := L) hn5 hL
  have h2 := npow_le (n := n) (L := L - 1 - l) hn5 (by omega)
  have h3 : 0 < n ^ (L - 1 - l) := npow_pos hn
  have h4 : k / n ^ (L - 1 - l) ≤ k := Nat.div_le_self _ _
  simp (disch := omega) only [↓km1, ↓km2, ↓km3, ↓km9, l0, l1, l2, l3, l4, l5, l6, l8, l9, l10, l64, l625, nlt0, nltI, nleI, neqI, njrem, ndiv, nI_add, pk_mul, pk_sub, nI_clamp, bnd_some, nne9, nne1, nm1]
  rw [if_neg (by omega), if_pos (by omega), if_neg (by omega), if_neg (by omega)]
  rfl
theorem cp_split {n : Nat} {f : Nat → Nat} {j k : Nat} : cpN n f (j + 1) k = f (k % n) + n * cpN n f j (k / n) := rfl
theorem becomes_ok {n L S d : Nat} {t b : Nat → Nat} {tu be : Nat → Int32} (h : CH n L S d t b tu be) {s k : Nat} (hs : s < S) (hk : k < n ^ L) : f_X0_becomes (nI n) (nI L) (nI S) tu be (nI s) (nI k) = some (nI (cpN n (sy n t b s) L k)) := by
  obtain ⟨⟨h1, h2, h3, h4, h5, h6, h7⟩, h8⟩ := id h
  have hB := npow_le (n := n) (L := L) h2 h3
  have hC : cpN n (sy n t b s) L k < n ^ L := cpN_lt (fun x => sy_lt h1) L k
  unfold f_X0_becomes
  refine lp_E (I := fun z => ∃ i made, i ≤ L ∧ z = (nI made, nI (k / n ^ i), nI (n ^ i), nI (L - i) - (1 : Int32)) ∧ made + n ^ i * cpN n (sy n t b s) (L - i) (k / n ^ i) = cpN n (sy n t b s) L k) (μ := fun z => (z.2.2.2 + 1).toNatClampNeg) _ _ ⟨0, 0, Nat.zero_le _, by simp [l0, l1], by simp⟩ ?_ (fun z hz => ?_)
  · dsimp only
    rw [Int32.sub_add_cancel, nI_clamp (by omega)]
    omega
  · obtain ⟨i, made, hi, rfl, hm⟩ := hz
    unfold b_X0_becomes_16
    by_cases e : i = L
    · right
      subst e
      rw [Nat.sub_self] at hm
      simp only [cpN, Nat.mul_zero, Nat.add_zero] at hm
      dsimp only
      rw [Nat.sub_self, if_pos (by decide), hm]
    · left
      obtain ⟨j, hj⟩ : ∃ j, L - i = j + 1 := ⟨L - i - 1, by omega⟩
      have e2 : nI (j + 1) - (1 : Int32) = nI j := nI_pred j
      have hq : k / n ^ i ≤ k := Nat.div_le_self _ _
      have hpi : n ^ i ≤ 625 := npow_le h2 (by omega)
      have hmod : k / n ^ i % n < n := Nat.mod_lt _ (by omega)
      have hsy : sy n t b s (k / n ^ i % n) < n := sy_lt h1
      have hmul : n ^ i * sy n t b s (k / n ^ i % n) ≤ 625 * 5 := Nat.mul_le_mul hpi (by omega)
      have hmul2 : n ^ i * n ≤ 625 * 5 := Nat.mul_le_mul hpi h2
      have hmade : made < 625 := by
        have : made ≤ cpN n (sy n t b s) L k := by rw [← hm]; exact Nat.le_add_right _ _
        omega
      refine ⟨(nI (made + n ^ i * sy n t b s (k / n ^ i % n)), nI (k / n ^ (i + 1)), nI (n ^ (i + 1)), nI (L - (i + 1)) - (1 : Int32)), ?_, ⟨i + 1, _, by omega, rfl, ?_⟩, ?_⟩
      · dsimp only
        rw [hj, e2]
        rw [show jrem (nI (k / n ^ i)) (nI n) = nI (k / n ^ i % n) from njrem (by omega) (by omega) (by omega)]
        rw [saidBy_ok h hs hmod]
        simp (disch := omega) only [↓km1, ↓km2, ↓km3, ↓km9, l0, l1, l2, l3, l4, l5, l6, l8, l9, l10, l64, l625, nlt0, nltI, nleI, neqI, njrem, ndiv, nI_add, pk_mul, pk_sub, nI_clamp, bnd_some, nne9, nne1, nm1]
        rw [if_neg (by omega), if_neg (by omega), if_neg (by omega), if_neg (by omega)]
        have e3 : L - (i + 1) = j := by omega
        rw [e3, Nat.div_div_eq_div_mul, ← Nat.pow_succ]
      · rw [← hm, hj, cp_split, show L - (i + 1) = j by omega, Nat.mul_add, Nat.div_div_eq_div_mul, ← Nat.pow_succ, Nat.pow_succ, Nat.mul_assoc, Nat.add_assoc]
      · dsimp only
        rw [hj, e2, show L - (i + 1) = j by omega, Int32.sub_add_cancel, nI_1, nI_clamp (by omega), nI_clamp (by omega)]
        omega
/-- the lines that a scribe disagrees with, from below -/
theorem low_msk {p : Nat → Bool} {L i : Nat} (hi : i ≤ L) {x : Nat} (hx : ∀ j, x.testBit j = (decide (L - i ≤ j) && (decide (j < L) && p j))) (h : i = L) : x = msk p L := by
  apply Nat.eq_of_testBit_eq
  intro j
  rw [hx j, msk_bit]
  subst h
  simp
theorem unlikeLines_ok {n L S d : Nat} {t b : Nat → Nat} {tu be : Nat → Int32} (h : CH n L S d t b tu be) {s k : Nat} (hs : s < S) (hk : k < n ^ L) : f_X0_unlikeLines (nI n) (nI L) (nI S) tu be (nI s) (nI k) = some (nI (dsN n L (sy n t b s) k)) := by
  obtain ⟨⟨h1, h2, h3, h4, h5, h6, h7⟩, h8⟩ := id h
  have hB := npow_le (n := n) (L := L) h2 h3
  unfold f_X0_unlikeLines
  refine lp_E (I := fun z => ∃ i x, i ≤ L ∧ z = (nI x, nI (k / n ^ i), nI (L - i) - (1 : Int32)) ∧ ∀ j, x.testBit j = (decide (L - i ≤ j) && (decide (j < L) && (sy n t b s (dgt n L k j) != dgt n L k j)))) (μ := fun z => (z.2.2 + 1).toNatClampNeg) _ _ ⟨0, 0, Nat.zero_le _, by simp [l0], fun j => ?_⟩ ?_ (fun z hz => ?_)
  · by_cases e : j < L
    · simp [show ¬ L ≤ j by omega]
    · simp [e]
  · dsimp only
    rw [Int32.sub_add_cancel, nI_clamp (by omega)]
    omega
  · obtain ⟨i, x, hi, rfl, hm⟩ := hz
    unfold b_X0_unlikeLines_13
    by_cases e : i = L
    · right
      dsimp only
      rw [low_msk hi hm e, e, Nat.sub_self, if_pos (by decide)]
      rfl
    · left
      obtain ⟨j, hj⟩ : ∃ j, L - i = j + 1 := ⟨L - i - 1, by omega⟩
      have e2 : nI (j + 1) - (1 : Int32) = nI j := nI_pred j
      have hq : k / n ^ i ≤ k := Nat.div_le_self _ _
      have hmod : k / n ^ i % n < n := Nat.mod_lt _ (by omega)
      have hsy : sy n t b s (k / n ^ i % n) < n := sy_lt h1
      have ed : dgt n L k j = k / n ^ i % n := by unfold dgt; rw [show L - 1 - j = i by omega]
      have hx : x < 2 ^ L := Nat.lt_pow_two_of_testBit _ (fun j hj => by rw [hm]; simp [show ¬ j < L by omega])
      have hxL : 2 ^ L ≤ 16 := Nat.pow_le_pow_right (by decide) h3
      have hb2 : (2 : Nat) ^ j < 2 ^ 31 := Nat.pow_lt_pow_right (by decide) (by omega)
      refine ⟨(nI (x ||| if sy n t b s (dgt n L k j) != dgt n L k j then 2 ^ j else 0), nI (k / n ^ (i + 1)), nI (L - (i + 1)) - (1 : Int32)), ?_, ⟨i + 1, _, by omega, rfl, fun a => ?_⟩, ?_⟩
      · dsimp only
        rw [hj, e2]
        rw [show jrem (nI (k / n ^ i)) (nI n) = nI (k / n ^ i % n) from njrem (by omega) (by omega) (by omega)]
        rw [saidBy_ok h hs hmod]
        rw [show jshl (1 : Int32) (nI j) = nI (2 ^ j) by rw [l1, njshl (by omega) (by omega), Nat.one_mul]]
        simp (disch := omega) only [↓km1, ↓km2, ↓km3, ↓km9, l0, l1, l2, l3, l4, l5, l6, l8, l9, l10, l64, l625, nlt0, nltI, nleI, neqI, njrem, ndiv, nI_add, pk_mul, pk_sub, nI_clamp, bnd_some, nne9, nne1, nm1]
        rw [if_neg (by omega), if_neg (by omega), if_neg (by omega), Nat.div_div_eq_div_mul, ← Nat.pow_succ, show L - (i + 1) = j by omega, ed]
        by_cases c : sy n t b s (k / n ^ i % n) = k / n ^ i % n
        · rw [if_pos c, if_neg (by omega), c]
          simp
        · rw [if_neg c, if_neg (by omega), if_pos (by simp [c]), nor]
      · rw [Nat.testBit_or, hm a]
        by_cases ea : a = j
        · subst ea
          rw [show decide (L - i ≤ a) = false by simp; omega, show decide (L - (i + 1) ≤ a) = true by simp; omega, show decide (a < L) = true by simp; omega]
          by_cases c : sy n t b s (dgt n L k a) != dgt n L k a
          · rw [if_pos c, Nat.testBit_two_pow_self]; simp [c]
          · rw [if_neg c]; simp at c; simp [c]
        · have e3 : (if sy n t b s (dgt n L k j) != dgt n L k j then 2 ^ j else 0).testBit a = false := by
            by_cases c : sy n t b s (dgt n L k j) != dgt n L k j
            · rw [if_pos c, Nat.testBit_two_pow_of_ne (Ne.symm ea)]
            · rw [if_neg c, Nat.zero_testBit]
          rw [e3, Bool.or_false, show decide (L - i ≤ a) = decide (L - (i + 1) ≤ a) by congr 1; apply propext; omega]
      · dsimp only
        rw [hj, e2, show L - (i + 1) = j by omega, Int32.sub_add_cancel, nI_1, nI_clamp (by omega), nI_clamp (by omega)]
        omega
theorem dsN_lt {n L : Nat} {f : Nat → Nat} {k : Nat} (hL : L ≤ 4) : dsN n L f k < 16 := Nat.lt_of_lt_of_le (msk_lt _ L) (Nat.le_trans (Nat.pow_le_pow_right (by decide) hL) (by decide))
/-- is a scribe convinced by a book -/
def cvN (n L d : Nat) (f : Nat → Nat) (k : Nat) : Bool := decide (pc (dsN n L f k) < d)
def bI (b : Bool) : Int32 := if b then 1 else 0
theorem isConvinced_ok {n L S d : Nat} {t b : Nat → Nat} {tu be : Nat → Int32} (h : CH n L S d t b tu be) {s k : Nat} (hs : s < S) (hk : k < n ^ L) : f_X0_isConvinced (nI n) (nI L) (nI S) (nI d) tu be (nI s) (nI k) = some (bI (cvN n L d (sy n t b s) k)) := by
  obtain ⟨⟨h1, h2, h3, h4, h5, h6, h7⟩, h8⟩ := id h
  have hd := dsN_lt (n := n) (f := sy n t b s) (k := k) h3
  have hp := pc_le (x := dsN n L (sy n t b s) k)
  unfold f_X0_isConvinced
  rw [unlikeLines_ok h hs hk, bnd_some, bitCount_ok _ (by omega), bnd_some]
  unfold bI cvN
  simp (disch := omega) only [↓km1, ↓km2, ↓km3, ↓km9, l0, l1, l2, l3, l4, l5, l6, l8, l9, l10, l64, l625, nlt0, nltI, nleI, neqI, njrem, ndiv, nI_add, pk_mul, pk_sub, nI_clamp, bnd_some, nne9, nne1, nm1]
  by_cases c : pc (dsN n L (sy n t b s) k) < d
  · rw [if_neg (by omega)]; simp [c]
  · rw [if_pos (by omega)]; simp [c]
