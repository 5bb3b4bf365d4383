/-! ===== the reference's house ===== -/
def MH (n L S d : Nat) (t b : Nat → Nat) (op li sc ne tu be : Nat → Int32) : Prop := HOK n L S d t b ∧ op 0 = nI n ∧ li 0 = nI L ∧ sc 0 = nI S ∧ ne 0 = nI d ∧ ∀ s, s < S → tu s = nI (t s) ∧ be s = nI (b s)
/-- lines put one behind another, line 0 the highest -/
def cmN (n : Nat) (g : Nat → Nat) : Nat → Nat
  | 0 => 0
  | l + 1 => cmN n g l * n + g l
theorem cmN_lt {n : Nat} {g : Nat → Nat} {L : Nat} (hg : ∀ l, l < L → g l < n) : ∀ j, j ≤ L → cmN n g j < n ^ j
  | 0, _ => by simp [cmN]
  | j + 1, h => by
    have h1 := cmN_lt hg j (by omega)
    have h2 := hg j (by omega)
    unfold cmN
    have h3 : cmN n g j * n + n ≤ n ^ j * n := by
      have := Nat.mul_le_mul_right n (show cmN n g j + 1 ≤ n ^ j from h1)
      rw [Nat.add_mul, Nat.one_mul] at this
      exact this
    rw [Nat.pow_succ]
    omega
theorem cmN_congr {n : Nat} {g g' : Nat → Nat} : ∀ {L : Nat}, (∀ l, l < L → g l = g' l) → cmN n g L = cmN n g' L
  | 0, _ => rfl
  | L + 1, h => by
    unfold cmN
    rw [cmN_congr (fun l hl => h l (by omega)), h L (by omega)]
theorem cm_cp {n L k : Nat} {f : Nat → Nat} (hn : 2 ≤ n) : ∀ j, j ≤ L → cmN n (fun l => f (dgt n L k l)) j = cpN n f j (k / n ^ (L - j))
  | 0, _ => rfl
  | j + 1, h => by
    unfold cmN
    rw [cm_cp hn j (by omega), cp_split, Nat.div_div_eq_div_mul, ← Nat.pow_succ, show Nat.succ (L - (j + 1)) = L - j by omega]
    unfold dgt
    rw [show L - 1 - j = L - (j + 1) by omega, Nat.mul_comm, Nat.add_comm]
theorem cm_id {n L k : Nat} (hn : 2 ≤ n) (hk : k < n ^ L) : ∀ j, j ≤ L → cmN n (dgt n L k) j = k / n ^ (L - j)
  | 0, _ => by
    show 0 = _
    rw [Nat.sub_zero, Nat.div_eq_of_lt hk]
  | j + 1, h => by
    unfold cmN
    rw [cm_id hn hk j (by omega)]
    unfold dgt
    rw [show L - 1 - j = L - (j + 1) by omega]
    have e : k / n ^ (L - j) = k / n ^ (L - (j + 1)) / n := by
      rw [Nat.div_div_eq_div_mul, ← Nat.pow_succ, show Nat.succ (L - (j + 1)) = L - j by omega]
    rw [e, Nat.mul_comm]
    exact Nat.div_add_mod _ _
theorem in_ok {x lo hi : Int32} : f_X9_in x lo hi = some (bI (decide (lo ≤ x) && decide (x ≤ hi))) := by
  unfold f_X9_in bI
  by_cases h1 : x < lo
  · rw [if_pos h1]; simp [Int32.not_le.mpr h1]
  · rw [if_neg h1]
    by_cases h2 : hi < x
    · rw [if_pos h2]; simp [Int32.not_le.mpr h2]
    · rw [if_neg h2]; simp [Int32.not_lt.mp h1, Int32.not_lt.mp h2]
theorem mbooks_ok {n L : Nat} {op li : Nat → Int32} (hn : 2 ≤ n) (hn5 : n ≤ 5) (hL : L ≤ 4) (h1 : op 0 = nI n) (h2 : li 0 = nI L) : f_X9_books op li = some (nI (n ^ L)) := by
  unfold f_X9_books
  have hp : ∀ i, i ≤ L → n ^ i ≤ 625 := fun i hi => npow_le hn5 (by omega)
  refine lp_run0 (st := fun i => (nI (n ^ i), nI i)) L _ (by omega) (fun i hi => ?_) ?_
  · show b_X9_books_4 _ _ _ = _
    unfold b_X9_books_4
    have := hp i (by omega)
    simp (disch := omega) only [↓km1, ↓km2, ↓km3, ↓km9, l0, l1, l2, l3, l4, l5, l6, l8, l9, l10, l64, l625, nlt0, nltI, nleI, neqI, njrem, ndiv, nI_add, pk_mul, pk_sub, nI_clamp, bnd_some, nne9, nne1, nm1, h1, h2]
    rw [if_neg (by omega), Nat.pow_succ]
  · show b_X9_books_4 _ _ _ = _
    unfold b_X9_books_4
    simp (disch := omega) only [↓km1, ↓km2, ↓km3, ↓km9, l0, l1, l2, l3, l4, l5, l6, l8, l9, l10, l64, l625, nlt0, nltI, nleI, neqI, njrem, ndiv, nI_add, pk_mul, pk_sub, nI_clamp, bnd_some, nne9, nne1, nm1, h1, h2]
    rw [if_pos (by omega)]
theorem mlineOf_ok {n L k l : Nat} {op li : Nat → Int32} (hn : 2 ≤ n) (hn5 : n ≤ 5) (hL : L ≤ 4) (h1 : op 0 = nI n) (h2 : li 0 = nI L) (hl : l < L) (hk : k < n ^ L) : f_X9_lineOf op li (nI k) (nI l) = some (nI (dgt n L k l)) := by
  unfold f_X9_lineOf
  have hB := npow_le (n := n) (L := L) hn5 hL
  have e0 : (nI k, li (0 : Int32).toNatClampNeg - (1 : Int32)) = (nI (k / n ^ 0), nI (L - 1 - 0)) := by
    simp (disch := omega) only [↓km1, ↓km2, ↓km3, ↓km9, l0, l1, l2, l3, l4, l5, l6, l8, l9, l10, l64, l625, nlt0, nltI, nleI, neqI, njrem, ndiv, nI_add, pk_mul, pk_sub, nI_clamp, bnd_some, nne9, nne1, nm1, h2]
    rw [Nat.pow_zero, Nat.div_one, Nat.sub_zero]
  rw [e0]
  refine lp_run0 (st := fun i => (nI (k / n ^ i), nI (L - 1 - i))) (L - 1 - l) _ (by omega) (fun i hi => ?_) ?_
  · show b_X9_lineOf_12 _ _ _ = _
    unfold b_X9_lineOf_12
    have hq : k / n ^ i ≤ k := Nat.div_le_self _ _
    simp (disch := omega) only [↓km1, ↓km2, ↓km3, ↓km9, l0, l1, l2, l3, l4, l5, l6, l8, l9, l10, l64, l625, nlt0, nltI, nleI, neqI, njrem, ndiv, nI_add, pk_mul, pk_sub, nI_clamp, bnd_some, nne9, nne1, nm1, h1, h2]
    rw [if_neg (by omega), if_neg (by omega), Nat.div_div_eq_div_mul, ← Nat.pow_succ, show L - 1 - i - 1 = L - 1 - (i + 1) by omega]
  · show b_X9_lineOf_12 _ _ _ = _
    unfold b_X9_lineOf_12
    have hq : k / n ^ (L - 1 - l) ≤ k := Nat.div_le_self _ _
    simp (disch := omega) only [↓km1, ↓km2, ↓km3, ↓km9, l0, l1, l2, l3, l4, l5, l6, l8, l9, l10, l64, l625, nlt0, nltI, nleI, neqI, njrem, ndiv, nI_add, pk_mul, pk_sub, nI_clamp, bnd_some, nne9, nne1, nm1, h1, h2]
    rw [if_pos (by omega), if_neg (by omega)]
    rfl
theorem msaysOf_ok {n L S d : Nat} {t b : Nat → Nat} {op li sc ne tu be : Nat → Int32} (h : MH n L S d t b op li sc ne tu be) {s x : Nat} (hs : s < S) (hx : x < n) : f_X9_saysOf op tu be (nI s) (nI x) = some (nI (sy n t b s x)) := by
  obtain ⟨⟨g1, g2, g3, g4, g5, g6, g7⟩, h1, h2, h3, h4, h5⟩ := h
  have ht := g7 s hs
  have e5 := h5 s hs
  have h6 : t s * x ≤ 6 * 5 := Nat.mul_le_mul ht.1 (by omega)
  unfold f_X9_saysOf
  simp (disch := omega) only [↓km1, ↓km2, ↓km3, ↓km9, l0, l1, l2, l3, l4, l5, l6, l8, l9, l10, l64, l625, nlt0, nltI, nleI, neqI, njrem, ndiv, nI_add, pk_mul, pk_sub, nI_clamp, bnd_some, nne9, nne1, nm1, h1, e5.1, e5.2]
  rw [if_neg (by omega), if_neg (by omega), if_neg (by omega)]
  rfl
theorem mcopyOf_ok {n L S d : Nat} {t b : Nat → Nat} {op li sc ne tu be : Nat → Int32} (h : MH n L S d t b op li sc ne tu be) {s k : Nat} (hs : s < S) (hk : k < n ^ L) : f_X9_copyOf op li tu be (nI s) (nI k) = some (nI (cpN n (sy n t b s) L k)) := by
  obtain ⟨⟨g1, g2, g3, g4, g5, g6, g7⟩, h1, h2, h3, h4, h5⟩ := id h
  unfold f_X9_copyOf
  have e := cm_cp (L := L) (k := k) (f := sy n t b s) g1 L (Nat.le_refl L)
  rw [Nat.sub_self, Nat.pow_zero, Nat.div_one] at e
  rw [← e]
  refine lp_run0 (st := fun i => (nI (cmN n (fun l => sy n t b s (dgt n L k l)) i), nI i)) L _ (by omega) (fun i hi => ?_) ?_
  · show b_X9_copyOf_5 _ _ _ _ _ _ _ = _
    unfold b_X9_copyOf_5
    have hc := cmN_lt (n := n) (g := fun l => sy n t b s (dgt n L k l)) (L := L) (fun l _ => sy_lt g1) i (by omega)
    have hp : n ^ i ≤ 625 := npow_le g2 (by omega)
    have hs2 : sy n t b s (dgt n L k i) < n := sy_lt g1
    have hmul : cmN n (fun l => sy n t b s (dgt n L k l)) i * n ≤ 625 * 5 := Nat.mul_le_mul (by omega) g2
    dsimp only
    rw [mlineOf_ok g1 g2 g3 h1 h2 hi hk, bnd_some, msaysOf_ok h hs (dgt_lt g1)]
    simp (disch := omega) only [↓km1, ↓km2, ↓km3, ↓km9, l0, l1, l2, l3, l4, l5, l6, l8, l9, l10, l64, l625, nlt0, nltI, nleI, neqI, njrem, ndiv, nI_add, pk_mul, pk_sub, nI_clamp, bnd_some, nne9, nne1, nm1, h1, h2]
    rw [if_neg (by omega)]
    rfl
  · show b_X9_copyOf_5 _ _ _ _ _ _ _ = _
    unfold b_X9_copyOf_5
    simp (disch := omega) only [↓km1, ↓km2, ↓km3, ↓km9, l0, l1, l2, l3, l4, l5, l6, l8, l9, l10, l64, l625, nlt0, nltI, nleI, neqI, njrem, ndiv, nI_add, pk_mul, pk_sub, nI_clamp, bnd_some, nne9, nne1, nm1, h1, h2]
    rw [if_pos (by omega)]
theorem mdisagrees_ok {n L S d : Nat} {t b : Nat → Nat} {op li sc ne tu be : Nat → Int32} (h : MH n L S d t b op li sc ne tu be) {s k : Nat} (hs : s < S) (hk : k < n ^ L) : f_X9_disagrees op li tu be (nI s) (nI k) = some (nI (dsN n L (sy n t b s) k)) := by
  obtain ⟨⟨g1, g2, g3, g4, g5, g6, g7⟩, h1, h2, h3, h4, h5⟩ := id h
  unfold f_X9_disagrees dsN
  refine lp_run0 (st := fun i => (nI (msk (fun l => sy n t b s (dgt n L k l) != dgt n L k l) i), nI i)) L _ (by omega) (fun i hi => ?_) ?_
  · show b_X9_disagrees_5 _ _ _ _ _ _ _ = _
    unfold b_X9_disagrees_5
    have hs2 : sy n t b s (dgt n L k i) < n := sy_lt g1
    have hd2 : dgt n L k i < n := dgt_lt g1
    have hb2 : (2 : Nat) ^ i < 2 ^ 31 := Nat.pow_lt_pow_right (by decide) (by omega)
    dsimp only
    rw [mlineOf_ok g1 g2 g3 h1 h2 hi hk, bnd_some, msaysOf_ok h hs (dgt_lt g1)]
    rw [show jshl (1 : Int32) (nI i) = nI (2 ^ i) by rw [l1, njshl (by omega) (by omega), Nat.one_mul]]
    simp (disch := omega) only [↓km1, ↓km2, ↓km3, ↓km9, l0, l1, l2, l3, l4, l5, l6, l8, l9, l10, l64, l625, nlt0, nltI, nleI, neqI, njrem, ndiv, nI_add, pk_mul, pk_sub, nI_clamp, bnd_some, nne9, nne1, nm1, h1, h2, nor]
    rw [if_neg (by omega)]
    by_cases c : sy n t b s (dgt n L k i) = dgt n L k i
    · rw [if_pos c]; simp [msk, c]
    · rw [if_neg c]; simp [msk, c]
  · show b_X9_disagrees_5 _ _ _ _ _ _ _ = _
    unfold b_X9_disagrees_5
    simp (disch := omega) only [↓km1, ↓km2, ↓km3, ↓km9, l0, l1, l2, l3, l4, l5, l6, l8, l9, l10, l64, l625, nlt0, nltI, nleI, neqI, njrem, ndiv, nI_add, pk_mul, pk_sub, nI_clamp, bnd_some, nne9, nne1, nm1, h1, h2]
    rw [if_pos (by omega)]
theorem misConvinced_ok {n L S d : Nat} {t b : Nat → Nat} {op li sc ne tu be : Nat → Int32} (h : MH n L S d t b op li sc ne tu be) {s k : Nat} (hs : s < S) (hk : k < n ^ L) : f_X9_isConvinced op li tu be ne (nI s) (nI k) = some (bI (cvN n L d (sy n t b s) k)) := by
  obtain ⟨⟨g1, g2, g3, g4, g5, g6, g7⟩, h1, h2, h3, h4, h5⟩ := id h
  have hd := dsN_lt (n := n) (f := sy n t b s) (k := k) g3
  have hp := pc_le (x := dsN n L (sy n t b s) k)
  unfold f_X9_isConvinced
  rw [mdisagrees_ok h hs hk, bnd_some, manyOf_ok _ (by omega), bnd_some]
  unfold bI cvN
  simp (disch := omega) only [↓km1, ↓km2, ↓km3, ↓km9, l0, l1, l2, l3, l4, l5, l6, l8, l9, l10, l64, l625, nlt0, nltI, nleI, neqI, njrem, ndiv, nI_add, pk_mul, pk_sub, nI_clamp, bnd_some, nne9, nne1, nm1, h4]
  by_cases c : pc (dsN n L (sy n t b s) k) < d
  · rw [if_neg (by omega)]; simp [c]
  · rw [if_pos (by omega)]; simp [c]
