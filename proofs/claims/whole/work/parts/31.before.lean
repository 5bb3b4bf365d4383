/-! ===== which books lead to a book ===== -/
def prN (n L d : Nat) (f : Nat → Nat) (k j : Nat) : Bool := !(cvN n L d f j) && (cpN n f L j == k)
theorem njshl1 {k : Nat} (hk : k < 31) : jshl (1 : Int32) (nI k) = nI (2 ^ k) := by
  have hb2 : (2 : Nat) ^ k < 2 ^ 31 := Nat.pow_lt_pow_right (by decide) hk
  rw [l1, njshl (by omega) (by omega), Nat.one_mul]
theorem m1ne {a : Nat} (h : a < 2 ^ 30) : ¬ (-1 : Int32) = nI a := fun e => by
  have : nI a = jm1 := e.symm
  rw [nne1 h] at this
  exact this
theorem n1 (k : Nat) : nI k + (1 : Int32) = nI (k + 1) := nI_1 k
theorem copyBy_c {n L S d : Nat} {t b : Nat → Nat} {made : Nat → Int32} (h : HOK n L S d t b) (hm : LWT n L S d t b made) {s k : Nat} (hs : s < S) (hk : k < n ^ L) (hc : cvN n L d (sy n t b s) k = true) : f_X1_copyBy (nI S) (nI (n ^ L)) made (nI s) (nI k) = some (-1 : Int32) := by rw [copyBy_ok h hm hs hk, hc]; rfl
theorem copyBy_n {n L S d : Nat} {t b : Nat → Nat} {made : Nat → Int32} (h : HOK n L S d t b) (hm : LWT n L S d t b made) {s k : Nat} (hs : s < S) (hk : k < n ^ L) (hc : cvN n L d (sy n t b s) k = false) : f_X1_copyBy (nI S) (nI (n ^ L)) made (nI s) (nI k) = some (nI (cpN n (sy n t b s) L k)) := by rw [copyBy_ok h hm hs hk, hc]; rfl
theorem prN_c {n L d : Nat} {f : Nat → Nat} {k j : Nat} (h : cvN n L d f j = true) : prN n L d f k j = false := by unfold prN; rw [h]; rfl
theorem prN_y {n L d : Nat} {f : Nat → Nat} {k j : Nat} (h : cvN n L d f j = false) (e : cpN n f L j = k) : prN n L d f k j = true := by unfold prN; rw [h, e]; simp
theorem prN_n {n L d : Nat} {f : Nat → Nat} {k j : Nat} (h : cvN n L d f j = false) (e : ¬ cpN n f L j = k) : prN n L d f k j = false := by unfold prN; rw [h]; simp [e]
theorem countBefore_ok {n L S d : Nat} {t b : Nat → Nat} {made : Nat → Int32} (h : HOK n L S d t b) (hm : LWT n L S d t b made) {s k : Nat} (hs : s < S) (hk : k < n ^ L) : f_X7_countBefore (nI S) (nI (n ^ L)) made (nI s) (nI k) = some (nI (cntU (prN n L d (sy n t b s) k) (n ^ L))) := by
  obtain ⟨h1, h2, h3, h4, h5, h6, h7⟩ := id h
  have hB := npow_le (n := n) (L := L) h2 h3
  unfold f_X7_countBefore
  refine lp_run0 (st := fun i => (nI (cntU (prN n L d (sy n t b s) k) i), nI i)) (n ^ L) _ (by omega) (fun i hi => ?_) ?_
  · unfold b_X7_countBefore_5
    dsimp only
    have hc : cpN n (sy n t b s) L i < n ^ L := cpN_lt (fun x => sy_lt h1) L i
    rw [if_neg (by rw [nleI (by omega) (by omega)]; omega), n1, n1]
    rw [show cntU (prN n L d (sy n t b s) k) (i + 1) = cntU (prN n L d (sy n t b s) k) i + (if prN n L d (sy n t b s) k i then 1 else 0) from rfl]
    cases cv : cvN n L d (sy n t b s) i with
    | true =>
      rw [copyBy_c h hm hs hi cv, bnd_some, if_neg (m1ne (by omega)), prN_c cv]
      rfl
    | false =>
      rw [copyBy_n h hm hs hi cv, bnd_some]
      by_cases e : cpN n (sy n t b s) L i = k
      · rw [if_pos (by rw [e]), prN_y cv e]; rfl
      · rw [if_neg (by rw [neqI (by omega) (by omega)]; exact e), prN_n cv e]; rfl
  · unfold b_X7_countBefore_5
    dsimp only
    rw [if_pos (by rw [nleI (by omega) (by omega)]; omega)]
theorem lastCopiers_ok {n L S d : Nat} {t b : Nat → Nat} {made : Nat → Int32} (h : HOK n L S d t b) (hm : LWT n L S d t b made) {k : Nat} (hk : k < n ^ L) : f_X7_lastCopiers (nI S) (nI (n ^ L)) made (nI k) = some (nI (msk (fun s => decide (0 < cntU (prN n L d (sy n t b s) k) (n ^ L))) S)) := by
  obtain ⟨h1, h2, h3, h4, h5, h6, h7⟩ := id h
  have hB := npow_le (n := n) (L := L) h2 h3
  unfold f_X7_lastCopiers
  refine lp_run0 (st := fun i => (nI (msk (fun s => decide (0 < cntU (prN n L d (sy n t b s) k) (n ^ L))) i), nI i)) S _ (by omega) (fun i hi => ?_) ?_
  · unfold b_X7_lastCopiers_4
    dsimp only
    have hc := cntU_le (prN n L d (sy n t b i) k) (n ^ L)
    rw [if_neg (by rw [nleI (by omega) (by omega)]; omega), countBefore_ok h hm hi hk, bnd_some, n1, njshl1 (by omega), nor]
    rw [show msk (fun s => decide (0 < cntU (prN n L d (sy n t b s) k) (n ^ L))) (i + 1) = msk (fun s => decide (0 < cntU (prN n L d (sy n t b s) k) (n ^ L))) i ||| (if decide (0 < cntU (prN n L d (sy n t b i) k) (n ^ L)) then 2 ^ i else 0) from rfl]
    by_cases e : 0 < cntU (prN n L d (sy n t b i) k) (n ^ L)
    · rw [if_neg (by rw [l0, nleI (by omega) (by omega)]; omega), if_pos (by simp [e])]
    · rw [if_pos (by rw [l0, nleI (by omega) (by omega)]; omega), if_neg (by simp [e]), Nat.or_zero]
  · unfold b_X7_lastCopiers_4
    dsimp only
    rw [if_pos (by rw [nleI (by omega) (by omega)]; omega)]
theorem mmayCome_ok {n L S d : Nat} {t b : Nat → Nat} {op li sc ne tu be now : Nat → Int32} (h : MH n L S d t b op li sc ne tu be) {s k j : Nat} (hs : s < S) (hk : k < n ^ L) (hj : j < n ^ L) (h0 : now 0 = nI k) : f_X9_mayCome op li tu be ne now (nI s) (nI j) = some (bI (prN n L d (sy n t b s) k j)) := by
  obtain ⟨⟨g1, g2, g3, g4, g5, g6, g7⟩, h1, h2, h3, h4, h5⟩ := id h
  have hB := npow_le (n := n) (L := L) g2 g3
  have hc : cpN n (sy n t b s) L j < n ^ L := cpN_lt (fun x => sy_lt g1) L j
  unfold f_X9_mayCome prN
  rw [misConvinced_ok h hs hj, bnd_some, mcopyOf_ok h hs hj, show now (0 : Int32).toNatClampNeg = nI k from h0, bnd_some]
  cases cvN n L d (sy n t b s) j with
  | true => rw [if_neg (by decide)]; rfl
  | false =>
    rw [if_pos bIf]
    by_cases e : cpN n (sy n t b s) L j = k
    · rw [if_pos (by rw [e])]; simp [e, bI]
    · rw [if_neg (by rw [neqI (by omega) (by omega)]; exact e)]; simp [e, bI]
theorem mfromOf_ok {n L S d : Nat} {t b : Nat → Nat} {op li sc ne tu be now : Nat → Int32} (h : MH n L S d t b op li sc ne tu be) {s k : Nat} (hs : s < S) (hk : k < n ^ L) (h0 : now 0 = nI k) : f_X9_fromOf op li tu be ne now (nI s) = some (nI (cntU (prN n L d (sy n t b s) k) (n ^ L))) := by
  obtain ⟨⟨g1, g2, g3, g4, g5, g6, g7⟩, h1, h2, h3, h4, h5⟩ := id h
  have hB := npow_le (n := n) (L := L) g2 g3
  unfold f_X9_fromOf
  refine lp_run0 (st := fun i => (nI (cntU (prN n L d (sy n t b s) k) i), nI i)) (n ^ L) _ (by omega) (fun i hi => ?_) ?_
  · unfold b_X9_fromOf_4
    dsimp only
    rw [mbooks_ok g1 g2 g3 h1 h2, bnd_some, if_neg (by rw [nleI (by omega) (by omega)]; omega), mmayCome_ok h hs hk hi h0, bnd_some, n1, n1]
    rw [show cntU (prN n L d (sy n t b s) k) (i + 1) = cntU (prN n L d (sy n t b s) k) i + (if prN n L d (sy n t b s) k i then 1 else 0) from rfl]
    cases prN n L d (sy n t b s) k i with
    | true => rw [if_neg (by decide)]; rfl
    | false => rw [if_pos bIf, show nI (cntU (prN n L d (sy n t b s) k) i) + (0 : Int32) = nI (cntU (prN n L d (sy n t b s) k) i) from Int32.add_zero _]; rfl
  · unfold b_X9_fromOf_4
    dsimp only
    rw [mbooks_ok g1 g2 g3 h1 h2, bnd_some, if_pos (by rw [nleI (by omega) (by omega)]; omega)]
theorem or0 (a : Nat) : nI a ||| (0 : Int32) = nI a := by rw [l0, nor, Nat.or_zero]
theorem mnow3_ok {n L S d : Nat} {t b : Nat → Nat} {op li sc ne tu be now : Nat → Int32} (h : MH n L S d t b op li sc ne tu be) {k : Nat} (hk : k < n ^ L) (h0 : now 0 = nI k) : lpF (b_X9_now_101 op li sc tu be ne now) FU ((0 : Int32), (0 : Int32)) = some (nI (msk (fun s => decide (0 < cntU (prN n L d (sy n t b s) k) (n ^ L))) S)) := by
  obtain ⟨⟨g1, g2, g3, g4, g5, g6, g7⟩, h1, h2, h3, h4, h5⟩ := id h
  have hB := npow_le (n := n) (L := L) g2 g3
  refine lp_run0 (st := fun i => (nI (msk (fun s => decide (0 < cntU (prN n L d (sy n t b s) k) (n ^ L))) i), nI i)) S _ (by omega) (fun i hi => ?_) ?_
  · unfold b_X9_now_101
    dsimp only
    have hc := cntU_le (prN n L d (sy n t b i) k) (n ^ L)
    rw [show sc (0 : Int32).toNatClampNeg = nI S from h3, if_neg (by rw [nleI (by omega) (by omega)]; omega), mfromOf_ok h hi hk h0, bnd_some, n1, njshl1 (by omega), nor, or0]
    rw [show msk (fun s => decide (0 < cntU (prN n L d (sy n t b s) k) (n ^ L))) (i + 1) = msk (fun s => decide (0 < cntU (prN n L d (sy n t b s) k) (n ^ L))) i ||| (if decide (0 < cntU (prN n L d (sy n t b i) k) (n ^ L)) then 2 ^ i else 0) from rfl]
    by_cases e : 0 < cntU (prN n L d (sy n t b i) k) (n ^ L)
    · rw [if_neg (by rw [l0, nleI (by omega) (by omega)]; omega), if_pos (by simp [e])]
    · rw [if_pos (by rw [l0, nleI (by omega) (by omega)]; omega), if_neg (by simp [e]), Nat.or_zero]
  · unfold b_X9_now_101
    dsimp only
    rw [show sc (0 : Int32).toNatClampNeg = nI S from h3, if_pos (by rw [nleI (by omega) (by omega)]; omega)]
theorem convinced_ok {n L S d : Nat} {t b : Nat → Nat} {tu be : Nat → Int32} (h : CH n L S d t b tu be) {k : Nat} (hk : k < n ^ L) {kn : Int32} {rows : Nat → Nat → Int32} (hb : f_X6_book kn rows = some (nI k)) : f_X8_convinced (nI n) (nI L) (nI S) (nI d) tu be kn rows = some (nI (msk (fun s => cvN n L d (sy n t b s) k) S)) := by
  obtain ⟨⟨h1, h2, h3, h4, h5, h6, h7⟩, h8⟩ := id h
  unfold f_X8_convinced
  refine lp_run0 (st := fun i => (nI (msk (fun s => cvN n L d (sy n t b s) k) i), nI i)) S _ (by omega) (fun i hi => ?_) ?_
  · unfold b_X8_convinced_4
    dsimp only
    rw [if_neg (by rw [nleI (by omega) (by omega)]; omega), hb, bnd_some, isConvinced_ok h hi hk, bnd_some, n1, njshl1 (by omega), nor]
    rw [show msk (fun s => cvN n L d (sy n t b s) k) (i + 1) = msk (fun s => cvN n L d (sy n t b s) k) i ||| (if cvN n L d (sy n t b i) k then 2 ^ i else 0) from rfl]
    cases cvN n L d (sy n t b i) k with
    | true => rw [if_neg (by decide), if_pos rfl]
    | false => rw [if_pos bIf, if_neg (by decide), Nat.or_zero]
  · unfold b_X8_convinced_4
    dsimp only
    rw [if_pos (by rw [nleI (by omega) (by omega)]; omega)]
theorem mnow2_ok {n L S d : Nat} {t b : Nat → Nat} {op li sc ne tu be now : Nat → Int32} (h : MH n L S d t b op li sc ne tu be) {k : Nat} (hk : k < n ^ L) (h0 : now 0 = nI k) : lpF (b_X9_now_57 op li sc tu be ne now) FU ((0 : Int32), (0 : Int32)) = some (nI (msk (fun s => cvN n L d (sy n t b s) k) S)) := by
  obtain ⟨⟨g1, g2, g3, g4, g5, g6, g7⟩, h1, h2, h3, h4, h5⟩ := id h
  refine lp_run0 (st := fun i => (nI (msk (fun s => cvN n L d (sy n t b s) k) i), nI i)) S _ (by omega) (fun i hi => ?_) ?_
  · unfold b_X9_now_57
    dsimp only
    rw [show sc (0 : Int32).toNatClampNeg = nI S from h3, show now (0 : Int32).toNatClampNeg = nI k from h0, if_neg (by rw [nleI (by omega) (by omega)]; omega), misConvinced_ok h hi hk, bnd_some, n1, njshl1 (by omega), nor, or0]
    rw [show msk (fun s => cvN n L d (sy n t b s) k) (i + 1) = msk (fun s => cvN n L d (sy n t b s) k) i ||| (if cvN n L d (sy n t b i) k then 2 ^ i else 0) from rfl]
    cases cvN n L d (sy n t b i) k with
    | true => rw [if_neg (by decide), if_pos rfl]
    | false => rw [if_pos bIf, if_neg (by decide), Nat.or_zero]
  · unfold b_X9_now_57
    dsimp only
    rw [show sc (0 : Int32).toNatClampNeg = nI S from h3, if_pos (by rw [nleI (by omega) (by omega)]; omega)]
theorem mnow5_ok {n L S d q : Nat} {t b : Nat → Nat} {op li sc ne tu be : Nat → Int32} {mo ms : Nat → Nat} {f g : Nat → Int32} (h : MH n L S d t b op li sc ne tu be) (hg : MG n q mo ms f g) : lpF (b_X9_now_144 (nI q) op sc tu be f g) FU ((0 : Int32), (0 : Int32)) = some (nI (msk (fun s => fitN n q mo ms (t s) (b s)) S)) := by
  obtain ⟨⟨g1, g2, g3, g4, g5, g6, g7⟩, h1, h2, h3, h4, h5⟩ := id h
  refine lp_run0 (st := fun i => (nI (msk (fun s => fitN n q mo ms (t s) (b s)) i), nI i)) S _ (by omega) (fun i hi => ?_) ?_
  · unfold b_X9_now_144
    dsimp only
    rw [show sc (0 : Int32).toNatClampNeg = nI S from h3, if_neg (by rw [nleI (by omega) (by omega)]; omega), if_neg (by rw [l0, gIx (by omega) (by omega)]; exact id), if_neg (by rw [l0, gIx (by omega) (by omega)]; exact id), nI_clamp (by omega), (h5 i hi).1, (h5 i hi).2, isSo_ok g1 g2 h1 hg (g7 i hi).1 (g7 i hi).2, bnd_some, n1, njshl1 (by omega), nor, or0]
    rw [show msk (fun s => fitN n q mo ms (t s) (b s)) (i + 1) = msk (fun s => fitN n q mo ms (t s) (b s)) i ||| (if fitN n q mo ms (t i) (b i) then 2 ^ i else 0) from rfl]
    cases fitN n q mo ms (t i) (b i) with
    | true => rw [if_neg (by decide), if_pos rfl]
    | false => rw [if_pos bIf, if_neg (by decide), Nat.or_zero]
  · unfold b_X9_now_144
    dsimp only
    rw [show sc (0 : Int32).toNatClampNeg = nI S from h3, if_pos (by rw [nleI (by omega) (by omega)]; omega)]
/-! ===== the lines in which all of them are alike ===== -/
def alN (n L a c : Nat) : Nat := msk (fun l => dgt n L a l == dgt n L c l) L
theorem alikeLines_ok {n L a c : Nat} (hn : 2 ≤ n) (hn5 : n ≤ 5) (hL : L ≤ 4) (ha : a < n ^ L) (hc : c < n ^ L) : f_X7_alikeLines (nI n) (nI L) (nI a) (nI c) = some (nI (alN n L a c)) := by
  unfold f_X7_alikeLines alN
  refine lp_run0 (st := fun i => (nI (msk (fun l => dgt n L a l == dgt n L c l) i), nI i)) L _ (by omega) (fun i hi => ?_) ?_
  · unfold b_X7_alikeLines_5
    dsimp only
    have d1 : dgt n L a i < n := dgt_lt hn
    have d2 : dgt n L c i < n := dgt_lt hn
    rw [if_neg (by rw [nleI (by omega) (by omega)]; omega), lineOf_ok hn hn5 hL hi ha, bnd_some, lineOf_ok hn hn5 hL hi hc, bnd_some, n1, njshl1 (by omega), nor]
    rw [show msk (fun l => dgt n L a l == dgt n L c l) (i + 1) = msk (fun l => dgt n L a l == dgt n L c l) i ||| (if dgt n L a i == dgt n L c i then 2 ^ i else 0) from rfl]
    by_cases e : dgt n L a i = dgt n L c i
    · rw [if_pos (by rw [e]), if_pos (by simp [e])]
    · rw [if_neg (by rw [neqI (by omega) (by omega)]; exact e), if_neg (by simp [e]), Nat.or_zero]
  · unfold b_X7_alikeLines_5
    dsimp only
    rw [if_pos (by rw [nleI (by omega) (by omega)]; omega)]
theorem alN_bit {n L a c j : Nat} : (alN n L a c).testBit j = true ↔ j < L ∧ dgt n L a j = dgt n L c j := by
  unfold alN
  rw [msk_bit]
  simp
/-- X: the pattern; m: the lines in which all books of Q are as the pattern -/
def smI (n L : Nat) (Q : Nat → Prop) (X : Option Nat) (m : Nat) : Prop := match X with
  | none => (∀ b, ¬ Q b)
  | some x => Q x ∧ ∀ j, m.testBit j = true ↔ j < L ∧ ∀ b, Q b → dgt n L b j = dgt n L x j
theorem smI_ext {n L : Nat} {Q Q' : Nat → Prop} {X : Option Nat} {m : Nat} (h : ∀ b, Q b ↔ Q' b) (hs : smI n L Q X m) : smI n L Q' X m := by
  have e : Q = Q' := funext fun b => propext (h b)
  rw [← e]
  exact hs
theorem smI_uniq {n L : Nat} {Q : Nat → Prop} {X X' : Option Nat} {m m' : Nat} (h : smI n L Q X m) (h' : smI n L Q X' m') : (if X.isSome then m else 0) = (if X'.isSome then m' else 0) := by
  cases X with
  | none =>
    cases X' with
    | none => rfl
    | some x => exact absurd h'.1 (h x)
  | some x =>
    cases X' with
    | none => exact absurd h.1 (h' x)
    | some x' =>
      show m = m'
      apply Nat.eq_of_testBit_eq
      intro j
      rw [Bool.eq_iff_iff, h.2 j, h'.2 j]
      constructor
      · exact fun ⟨a, e⟩ => ⟨a, fun b hb => by rw [e b hb, e x' h'.1]⟩
      · exact fun ⟨a, e⟩ => ⟨a, fun b hb => by rw [e b hb, e x h.1]⟩
theorem smI_lt {n L : Nat} {Q : Nat → Prop} {x m : Nat} (hL : L ≤ 4) (h : smI n L Q (some x) m) : m < 16 := by
  refine Nat.lt_of_lt_of_le (Nat.lt_pow_two_of_testBit (n := L) m (fun j hj => ?_)) (Nat.le_trans (Nat.pow_le_pow_right (by decide) hL) (by decide))
  cases c : m.testBit j with
  | false => rfl
  | true =>
    have := ((h.2 j).mp c).1
    omega
theorem smI_first {n L : Nat} {Q : Nat → Prop} {m c : Nat} (hL : L ≤ 4) (h : smI n L Q none m) : smI n L (fun b => Q b ∨ b = c) (some c) ((2 ^ L - 1) &&& alN n L c c) := by
  refine ⟨Or.inr rfl, fun j => ?_⟩
  rw [Nat.testBit_and, Bool.and_eq_true, alN_bit, Nat.testBit_two_pow_sub_one]
  constructor
  · rintro ⟨h1, h2, h3⟩
    exact ⟨h2, fun b hb => hb.elim (fun z => absurd z (h b)) (fun z => by rw [z])⟩
  · rintro ⟨h1, h2⟩
    exact ⟨by simp [h1], h1, rfl⟩
theorem smI_next {n L : Nat} {Q : Nat → Prop} {x m c : Nat} (h : smI n L Q (some x) m) : smI n L (fun b => Q b ∨ b = c) (some x) (m &&& alN n L x c) := by
  refine ⟨Or.inl h.1, fun j => ?_⟩
  rw [Nat.testBit_and, Bool.and_eq_true, alN_bit, h.2 j]
  constructor
  · rintro ⟨⟨h1, h2⟩, h3, h4⟩
    exact ⟨h1, fun b hb => hb.elim (h2 b) (fun z => by rw [z, h4])⟩
  · rintro ⟨h1, h2⟩
    exact ⟨⟨h1, fun b hb => h2 b (Or.inl hb)⟩, h1, (h2 c (Or.inr rfl)).symm⟩
/-- the books that some scribe under e may have copied to k -/
def prQ (n L d : Nat) (t b : Nat → Nat) (k e : Nat) (j : Nat) : Prop := j < n ^ L ∧ ∃ s, s < e ∧ prN n L d (sy n t b s) k j = true
theorem pow_sub1 : ∀ L, L < 5 → jshl (1 : Int32) (nI L) - (1 : Int32) = nI (2 ^ L - 1) := by decide +kernel
theorem sameLines_ok {n L S d : Nat} {t b : Nat → Nat} {made : Nat → Int32} (h : HOK n L S d t b) (hm : LWT n L S d t b made) {k : Nat} (hk : k < n ^ L) : ∃ X m, smI n L (prQ n L d t b k S) X m ∧ f_X7_sameLines (nI S) (nI (n ^ L)) made (nI n) (nI L) (nI k) = some (nI (if X.isSome then m else 0)) := by
  obtain ⟨h1, h2, h3, h4, h5, h6, h7⟩ := id h
  have hB := npow_le (n := n) (L := L) h2 h3
  have inner : ∀ s X m, s < S → (∀ x, X = some x → x < n ^ L) → smI n L (prQ n L d t b k s) X m → (X = none → m = 0) → ∃ r, lpF (b_X7_sameLines_24 (nI S) (nI (n ^ L)) made (nI n) (nI L) (nI k) (nI s)) FU (oI X, nI m, (0 : Int32)) = some r ∧ ∃ X' m', r = .inl (oI X', nI m', nI (s + 1)) ∧ (∀ x, X' = some x → x < n ^ L) ∧ smI n L (prQ n L d t b k (s + 1)) X' m' ∧ (X' = none → m' = 0) := by
    intro s X m hs hX hI hz
    refine lp_IU (B := b_X7_sameLines_24 (nI S) (nI (n ^ L)) made (nI n) (nI L) (nI k) (nI s)) (fun z => ∃ i X m, i ≤ n ^ L ∧ z = (oI X, nI m, nI i) ∧ (∀ x, X = some x → x < n ^ L) ∧ smI n L (fun j => prQ n L d t b k s j ∨ (j < i ∧ prN n L d (sy n t b s) k j = true)) X m ∧ (X = none → m = 0)) (fun z => n ^ L - z.2.2.toNatClampNeg) _ (fun z hz => ?_) _ ⟨0, X, m, Nat.zero_le _, rfl, hX, smI_ext (fun j => ⟨Or.inl, fun q => q.elim id (fun z => by omega)⟩) hI, hz⟩ (by show n ^ L - _ < _; omega)
    obtain ⟨i, X, m, hi, rfl, hX, hI, hz⟩ := hz
    unfold b_X7_sameLines_24
    dsimp only
    by_cases c : n ^ L ≤ i
    · right
      rw [if_pos (by rw [nleI (by omega) (by omega)]; omega), n1]
      refine ⟨_, rfl, X, m, rfl, hX, smI_ext (fun j => ?_) hI, hz⟩
      constructor
      · rintro (⟨a, s', q1, q2⟩ | ⟨q1, q2⟩)
        · exact ⟨a, s', by omega, q2⟩
        · exact ⟨by omega, s, by omega, q2⟩
      · rintro ⟨a, s', q1, q2⟩
        by_cases e : s' = s
        · subst e; exact Or.inr ⟨by omega, q2⟩
        · exact Or.inl ⟨a, s', by omega, q2⟩
    · left
      have hc : cpN n (sy n t b s) L i < n ^ L := cpN_lt (fun x => sy_lt h1) L i
      have meas : n ^ L - (nI (i + 1)).toNatClampNeg < n ^ L - (nI i).toNatClampNeg := by rw [nI_clamp (by omega), nI_clamp (by omega)]; omega
      rw [if_neg (by rw [nleI (by omega) (by omega)]; omega), n1]
      have stay : prN n L d (sy n t b s) k i = false → (∃ i' X' m', i' ≤ n ^ L ∧ (oI X, nI m, nI (i + 1)) = (oI X', nI m', nI i') ∧ (∀ x, X' = some x → x < n ^ L) ∧ smI n L (fun j => prQ n L d t b k s j ∨ (j < i' ∧ prN n L d (sy n t b s) k j = true)) X' m' ∧ (X' = none → m' = 0)) := fun hp => ⟨i + 1, X, m, by omega, rfl, hX, smI_ext (fun j => by
        constructor
        · exact fun q => q.elim Or.inl (fun z => Or.inr ⟨by omega, z.2⟩)
        · refine fun q => q.elim Or.inl (fun z => ?_)
          by_cases e : j = i
          · subst e; rw [hp] at z; exact absurd z.2 (by decide)
          · exact Or.inr ⟨by omega, z.2⟩) hI, hz⟩
      have grow : prN n L d (sy n t b s) k i = true → ∀ X' m', smI n L (fun j => (prQ n L d t b k s j ∨ (j < i ∧ prN n L d (sy n t b s) k j = true)) ∨ j = i) X' m' → smI n L (fun j => prQ n L d t b k s j ∨ (j < i + 1 ∧ prN n L d (sy n t b s) k j = true)) X' m' := fun hp X' m' hh => smI_ext (fun j => by
        constructor
        · rintro ((q | q) | q)
          · exact Or.inl q
          · exact Or.inr ⟨by omega, q.2⟩
          · subst q; exact Or.inr ⟨by omega, hp⟩
        · rintro (q | q)
          · exact Or.inl (Or.inl q)
          · by_cases e : j = i
            · exact Or.inr e
            · exact Or.inl (Or.inr ⟨by omega, q.2⟩)) hh
      cases cvx : cvN n L d (sy n t b s) i with
      | true =>
        rw [copyBy_c h hm hs (show i < n ^ L by omega) cvx, bnd_some, if_neg (m1ne (by omega))]
        exact ⟨_, rfl, stay (prN_c cvx), meas⟩
      | false =>
        rw [copyBy_n h hm hs (show i < n ^ L by omega) cvx, bnd_some]
        by_cases e : cpN n (sy n t b s) L i = k
        · have hp : prN n L d (sy n t b s) k i = true := prN_y cvx e
          rw [if_pos (by rw [e])]
          cases X with
          | none =>
            rw [if_pos (show oI none = (-9 : Int32) from rfl), alikeLines_ok h1 h2 h3 (show i < n ^ L by omega) (show i < n ^ L by omega), bnd_some, pow_sub1 L (by omega), nand]
            exact ⟨_, rfl, ⟨i + 1, some i, _, by omega, rfl, fun x hx => by cases hx; omega, grow hp _ _ (smI_first h3 hI), fun z => by cases z⟩, meas⟩
          | some x =>
            have hx := hX x rfl
            rw [if_neg (show ¬ oI (some x) = (-9 : Int32) by rw [oI_some, km9, nne9 (by omega)]; exact id), oI_some, alikeLines_ok h1 h2 h3 hx (show i < n ^ L by omega), bnd_some, nand]
            exact ⟨_, rfl, ⟨i + 1, some x, _, by omega, rfl, fun x' hx' => by cases hx'; exact hx, grow hp _ _ (smI_next hI), fun z => by cases z⟩, meas⟩
        · rw [if_neg (by rw [neqI (by omega) (by omega)]; exact e)]
          exact ⟨_, rfl, stay (prN_n cvx e), meas⟩
  unfold f_X7_sameLines
  obtain ⟨r, hr, X, m, rfl, hI⟩ := lp_IU (B := b_X7_sameLines_9 (nI S) (nI (n ^ L)) made (nI n) (nI L) (nI k)) (fun z => ∃ i X m, i ≤ S ∧ z = (oI X, nI m, nI i) ∧ (∀ x, X = some x → x < n ^ L) ∧ smI n L (prQ n L d t b k i) X m ∧ (X = none → m = 0)) (fun z => S - z.2.2.toNatClampNeg) (fun r => ∃ X m, r = nI (if X.isSome then m else 0) ∧ smI n L (prQ n L d t b k S) X m) (fun z hz => by
    obtain ⟨i, X, m, hi, rfl, hX, hI, hz⟩ := hz
    unfold b_X7_sameLines_9
    dsimp only
    by_cases c : S ≤ i
    · right
      have e : i = S := by omega
      subst e
      rw [if_pos (by rw [nleI (by omega) (by omega)]; omega)]
      refine ⟨_, rfl, X, m, ?_, hI⟩
      cases X with
      | none => rw [hz rfl]; rfl
      | some x => rfl
    · left
      rw [if_neg (by rw [nleI (by omega) (by omega)]; omega)]
      obtain ⟨r, h1, X', m', rfl, g1, g2, g3⟩ := inner i X m (by omega) hX hI hz
      refine ⟨_, h1, ⟨i + 1, X', m', by omega, rfl, g1, g2, g3⟩, ?_⟩
      dsimp only
      rw [nI_clamp (by omega), nI_clamp (by omega)]
      omega) ((-9 : Int32), (0 : Int32), (0 : Int32)) ⟨0, none, 0, Nat.zero_le _, rfl, (fun x hx => nomatch hx), fun j hj => by obtain ⟨a, s, q, -⟩ := hj; omega, fun _ => rfl⟩ (by show S - _ < _; omega)
  exact ⟨X, m, hI, hr⟩
/-! the reference -/
theorem clr_ok : ∀ m, m < 16 → ∀ l, l < 4 → nI m &&& (jshl (1 : Int32) (nI l) ^^^ (-1 : Int32)) = nI (m &&& (15 - 2 ^ l)) := by decide +kernel
theorem clr_bit : ∀ l, l < 4 → ∀ j, j < 4 → (15 - 2 ^ l).testBit j = decide (j ≠ l) := by decide +kernel
theorem all_ok : ∀ m, m < 16 → nI m &&& (-1 : Int32) = nI m := by decide +kernel
theorem bit16 {m j : Nat} (hm : m < 16) (h : m.testBit j = true) : j < 4 := by
  rcases Nat.lt_or_ge j 4 with q | q
  · exact q
  · have := Nat.testBit_lt_two_pow (x := m) (i := j) (Nat.lt_of_lt_of_le hm (Nat.le_trans (show 16 ≤ 2 ^ 4 by decide) (Nat.pow_le_pow_right (by decide) q)))
    rw [this] at h
    cases h
theorem same89_ok {n L a i m : Nat} {op li : Nat → Int32} (hn : 2 ≤ n) (hn5 : n ≤ 5) (hL : L ≤ 4) (h1 : op 0 = nI n) (h2 : li 0 = nI L) (ha : a < n ^ L) (hi : i < n ^ L) (hm : m < 16) : ∃ r, lpF (b_X9_same_89 op li (nI a) (nI i) (1 : Int32)) FU (nI m, (0 : Int32)) = some r ∧ ∃ m', r = .inl (nI a, nI m', nI (i + 1)) ∧ m' < 16 ∧ ∀ j, m'.testBit j = true ↔ (m.testBit j = true ∧ (j < L → dgt n L i j = dgt n L a j)) := by
  refine lp_IU (B := b_X9_same_89 op li (nI a) (nI i) (1 : Int32)) (fun z => ∃ l m', l ≤ L ∧ z = (nI m', nI l) ∧ m' < 16 ∧ ∀ j, m'.testBit j = true ↔ (m.testBit j = true ∧ (j < l → dgt n L i j = dgt n L a j))) (fun z => L - z.2.toNatClampNeg) _ (fun z hz => ?_) _ ⟨0, m, Nat.zero_le _, rfl, hm, fun j => ⟨fun q => ⟨q, fun z => by omega⟩, fun q => q.1⟩⟩ (by show L - _ < _; omega)
  obtain ⟨l, m', hl, rfl, hm', hb⟩ := hz
  unfold b_X9_same_89
  dsimp only
  rw [show li (0 : Int32).toNatClampNeg = nI L from h2]
  by_cases c : L ≤ l
  · right
    have e : l = L := by omega
    subst e
    rw [if_pos (by rw [nleI (by omega) (by omega)]; omega), n1]
    exact ⟨_, rfl, m', rfl, hm', hb⟩
  · left
    have d1 : dgt n L i l < n := dgt_lt hn
    have d2 : dgt n L a l < n := dgt_lt hn
    have meas : L - (nI (l + 1)).toNatClampNeg < L - (nI l).toNatClampNeg := by rw [nI_clamp (by omega), nI_clamp (by omega)]; omega
    rw [if_neg (by rw [nleI (by omega) (by omega)]; omega), if_neg (by decide), mlineOf_ok hn hn5 hL h1 h2 (show l < L by omega) hi, bnd_some, mlineOf_ok hn hn5 hL h1 h2 (show l < L by omega) ha, bnd_some, n1]
    by_cases e : dgt n L i l = dgt n L a l
    · rw [if_pos (by rw [e]), all_ok m' hm']
      refine ⟨_, rfl, ⟨l + 1, m', by omega, rfl, hm', fun j => ?_⟩, meas⟩
      rw [hb j]
      constructor
      · exact fun q => ⟨q.1, fun z => if w : j = l then by rw [w, e] else q.2 (by omega)⟩
      · exact fun q => ⟨q.1, fun z => q.2 (by omega)⟩
    · rw [if_neg (by rw [neqI (by omega) (by omega)]; exact e), clr_ok m' hm' l (by omega)]
      refine ⟨_, rfl, ⟨l + 1, _, by omega, rfl, Nat.lt_of_le_of_lt Nat.and_le_left hm', fun j => ?_⟩, meas⟩
      rw [Nat.testBit_and, Bool.and_eq_true, hb j]
      constructor
      · rintro ⟨⟨q1, q2⟩, q3⟩
        have hj := bit16 hm q1
        rw [clr_bit l (by omega) j hj] at q3
        have q3 : j ≠ l := by simpa using q3
        exact ⟨q1, fun z => q2 (by omega)⟩
      · rintro ⟨q1, q2⟩
        have hj := bit16 hm q1
        refine ⟨⟨q1, fun z => q2 (by omega)⟩, ?_⟩
        rw [clr_bit l (by omega) j hj]
        have : j ≠ l := fun z => e (by subst z; exact q2 (by omega))
        simpa using this
theorem msame_ok {n L S d : Nat} {t b : Nat → Nat} {op li sc ne tu be now : Nat → Int32} (h : MH n L S d t b op li sc ne tu be) {k : Nat} (hk : k < n ^ L) (h0 : now 0 = nI k) : ∃ X m, smI n L (prQ n L d t b k S) X m ∧ f_X9_same op li sc tu be ne now = some (nI (if X.isSome then m else 0)) := by
  obtain ⟨⟨g1, g2, g3, g4, g5, g6, g7⟩, h1, h2, h3, h4, h5⟩ := id h
  have hB := npow_le (n := n) (L := L) g2 g3
  have h2L : 2 ^ L - 1 < 16 := by
    have : 2 ^ L ≤ 2 ^ 4 := Nat.pow_le_pow_right (by decide) g3
    omega
  have inner : ∀ i X m, i < n ^ L → (∀ x, X = some x → x < n ^ L) → m < 16 → smI n L (fun j => prQ n L d t b k S j ∧ j < i) X m → (X = none → m = 2 ^ L - 1) → ∃ X' m', lpF (b_X9_same_30 op li sc tu be ne now (oI X) (nI m) (nI i)) FU ((0 : Int32), (0 : Int32)) = some (.inl (oI X', nI m', nI (i + 1))) ∧ (∀ x, X' = some x → x < n ^ L) ∧ m' < 16 ∧ smI n L (fun j => prQ n L d t b k S j ∧ j < i + 1) X' m' ∧ (X' = none → m' = 2 ^ L - 1) := by
    intro i X m hi hX hm hI hz
    have run : ∀ r, (∀ v, v = bI (srch (fun s => prN n L d (sy n t b s) k i) S 0).isSome → b_X9_same_30 op li sc tu be ne now (oI X) (nI m) (nI i) (v, nI S) = some (.inr r)) → lpF (b_X9_same_30 op li sc tu be ne now (oI X) (nI m) (nI i)) FU ((0 : Int32), (0 : Int32)) = some r := by
      intro r hr
      refine lp_run0 (st := fun s => (bI (srch (fun s => prN n L d (sy n t b s) k i) s 0).isSome, nI s)) S _ (by omega) (fun s hs => ?_) (hr _ rfl)
      unfold b_X9_same_30
      dsimp only
      have hN := isNone_s (p := fun s => prN n L d (sy n t b s) k i) (i := s)
      have hN2 : (srch (fun s => prN n L d (sy n t b s) k i) (s + 1) 0).isSome = ((srch (fun s => prN n L d (sy n t b s) k i) s 0).isSome || prN n L d (sy n t b s) k i) := by
        have e1 : ∀ o : Option Nat, o.isSome = !o.isNone := fun o => by cases o <;> rfl
        rw [e1, hN, e1]
        cases (srch (fun s => prN n L d (sy n t b s) k i) s 0).isNone <;> cases prN n L d (sy n t b s) k i <;> rfl
      rw [show sc (0 : Int32).toNatClampNeg = nI S from h3, if_neg (by rw [nleI (by omega) (by omega)]; omega), hN2, n1]
      cases (srch (fun s => prN n L d (sy n t b s) k i) s 0).isSome with
      | true => rw [if_neg (by decide)]; rfl
      | false =>
        rw [if_pos bIf, mmayCome_ok h hs hk hi h0, bnd_some]
        cases prN n L d (sy n t b s) k i with
        | true => rw [if_neg (by decide)]; rfl
        | false => rw [if_pos bIf]; rfl
    cases hc : srch (fun s => prN n L d (sy n t b s) k i) S 0 with
    | none =>
      have hno := srch_none hc
      have hnq : ¬ prQ n L d t b k S i := fun ⟨_, s, q1, q2⟩ => by
        have := hno s (Nat.zero_le _) (by omega)
        rw [q2] at this
        cases this
      refine ⟨X, m, run _ (fun v hv => ?_), hX, hm, smI_ext (fun j => ⟨fun q => ⟨q.1, by omega⟩, fun q => ⟨q.1, if w : j = i then absurd (by rw [← w]; exact q.1) hnq else by omega⟩⟩) hI, hz⟩
      rw [hc] at hv
      have hv : v = 0 := hv
      subst hv
      unfold b_X9_same_30
      dsimp only
      rw [show sc (0 : Int32).toNatClampNeg = nI S from h3, if_pos (by rw [nleI (by omega) (by omega)]; omega), if_pos rfl]
      have : lpF (b_X9_same_89 op li (oI X) (nI i) 0) FU (nI m, (0 : Int32)) = some (.inl (oI X, nI m, nI (i + 1))) := by
        refine lpF_r (n := 29999) ?_
        unfold b_X9_same_89
        dsimp only
        rw [n1, if_pos rfl]
        by_cases q : li (0 : Int32).toNatClampNeg ≤ 0
        · rw [if_pos q]
        · rw [if_neg q]
      rw [this]
      rfl
    | some s =>
      obtain ⟨q1, q2, q3, q4⟩ := srch_some hc
      have hq : prQ n L d t b k S i := ⟨hi, s, by omega, q3⟩
      have ext : ∀ X' m', smI n L (fun j => (prQ n L d t b k S j ∧ j < i) ∨ j = i) X' m' → smI n L (fun j => prQ n L d t b k S j ∧ j < i + 1) X' m' := fun X' m' hh => smI_ext (fun j => by
        constructor
        · rintro (q | q)
          · exact ⟨q.1, by omega⟩
          · subst q; exact ⟨hq, by omega⟩
        · rintro ⟨q, w⟩
          by_cases e : j = i
          · exact Or.inr e
          · exact Or.inl ⟨q, by omega⟩) hh
      cases X with
      | none =>
        obtain ⟨r, hr, m', rfl, w1, w2⟩ := same89_ok g1 g2 g3 h1 h2 hi hi hm
        refine ⟨some i, m', run _ (fun v hv => ?_), fun x hx => by cases hx; exact hi, w1, ext _ _ ?_, fun z => by cases z⟩
        · rw [hc] at hv
          have hv : v = 1 := hv
          subst hv
          unfold b_X9_same_30
          dsimp only
          rw [show sc (0 : Int32).toNatClampNeg = nI S from h3, if_pos (by rw [nleI (by omega) (by omega)]; omega), if_neg (by decide), if_pos (show oI none = (-9 : Int32) from rfl), hr]
          rfl
        · have hf := smI_first (c := i) g3 hI
          refine ⟨hf.1, fun j => ?_⟩
          rw [w2 j, ← hf.2 j, Nat.testBit_and, Bool.and_eq_true, alN_bit, hz rfl, Nat.testBit_two_pow_sub_one]
          simp
        | some x =>
        have hx := hX x rfl
        obtain ⟨r, hr, m', rfl, w1, w2⟩ := same89_ok g1 g2 g3 h1 h2 hx hi hm
        refine ⟨some x, m', run _ (fun v hv => ?_), fun x' hx' => by cases hx'; exact hx, w1, ext _ _ ?_, fun z => by cases z⟩
        · rw [hc] at hv
          have hv : v = 1 := hv
          subst hv
          unfold b_X9_same_30
          dsimp only
          rw [show sc (0 : Int32).toNatClampNeg = nI S from h3, if_pos (by rw [nleI (by omega) (by omega)]; omega), if_neg (by decide), if_neg (show ¬ oI (some x) = (-9 : Int32) by rw [oI_some, km9, nne9 (by omega)]; exact id), oI_some, hr]
          rfl
        · have hf := smI_next (c := i) hI
          refine ⟨hf.1, fun j => ?_⟩
          rw [w2 j, ← hf.2 j, Nat.testBit_and, Bool.and_eq_true, alN_bit]
          constructor
          · rintro ⟨a1, a2⟩
            have := ((hI.2 j).mp a1).1
            exact ⟨a1, this, (a2 this).symm⟩
          · rintro ⟨a1, a2, a3⟩
            exact ⟨a1, fun _ => a3.symm⟩
  unfold f_X9_same
  rw [show li (0 : Int32).toNatClampNeg = nI L from h2, pow_sub1 L (by omega)]
  obtain ⟨r, hr, X, m, rfl, hI⟩ := lp_IU (B := b_X9_same_16 op li sc tu be ne now) (fun z => ∃ i X m, i ≤ n ^ L ∧ z = (oI X, nI m, nI i) ∧ (∀ x, X = some x → x < n ^ L) ∧ m < 16 ∧ smI n L (fun j => prQ n L d t b k S j ∧ j < i) X m ∧ (X = none → m = 2 ^ L - 1)) (fun z => n ^ L - z.2.2.toNatClampNeg) (fun r => ∃ X m, r = nI (if X.isSome then m else 0) ∧ smI n L (prQ n L d t b k S) X m) (fun z hz => by
    obtain ⟨i, X, m, hi, rfl, hX, hm, hI, hz⟩ := hz
    unfold b_X9_same_16
    dsimp only
    rw [mbooks_ok g1 g2 g3 h1 h2, bnd_some]
    by_cases c : n ^ L ≤ i
    · right
      have hI' : smI n L (prQ n L d t b k S) X m := smI_ext (fun j => ⟨fun q => q.1, fun q => ⟨q, by have := q.1; omega⟩⟩) hI
      rw [if_pos (by rw [nleI (by omega) (by omega)]; omega)]
      cases X with
      | none =>
        rw [if_pos (show oI none = (-9 : Int32) from rfl)]
        exact ⟨_, rfl, none, m, rfl, hI'⟩
      | some x =>
        have hx := hX x rfl
        rw [if_neg (show ¬ oI (some x) = (-9 : Int32) by rw [oI_some, km9, nne9 (by omega)]; exact id)]
        exact ⟨_, rfl, some x, m, rfl, hI'⟩
    · left
      rw [if_neg (by rw [nleI (by omega) (by omega)]; omega)]
      obtain ⟨X', m', w1, w2, w3, w4, w5⟩ := inner i X m (by omega) hX hm hI hz
      refine ⟨_, w1, ⟨i + 1, X', m', by omega, rfl, w2, w3, w4, w5⟩, ?_⟩
      dsimp only
      rw [nI_clamp (by omega), nI_clamp (by omega)]
      omega) ((-9 : Int32), nI (2 ^ L - 1), (0 : Int32)) ⟨0, none, 2 ^ L - 1, Nat.zero_le _, rfl, (fun x hx => nomatch hx), h2L, fun j hj => by omega, fun _ => rfl⟩ (by show n ^ L - _ < _; omega)
  exact ⟨X, m, hI, hr⟩
