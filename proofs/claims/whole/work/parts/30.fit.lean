theorem bIf : bI false = 0 := rfl
theorem bIt : bI true = 1 := rfl
/-! ===== which opinion tells most ===== -/
def vlN (n x k : Nat) : Nat := (k / n * x + k % n) % n
theorem vl_tb {n x T B : Nat} (hB : B < n) : vlN n x (T * n + B) = (T * x + B) % n := by
  unfold vlN
  rw [Nat.mul_comm T n, Nat.mul_add_div (by omega), Nat.div_eq_of_lt hB, Nat.mul_add_mod, Nat.mod_eq_of_lt hB]
  rfl
theorem tn_le {n T B : Nat} (hn5 : n ≤ 5) (hT : T < n) (hB : B < n) : T * n + B < n * n := by
  have := Nat.mul_le_mul_right n (show T + 1 ≤ n by omega)
  rw [Nat.add_mul, Nat.one_mul] at this
  omega
theorem answersTo_ok {n q x : Nat} {mo ms : Nat → Nat} {f g : Nat → Int32} (hn : 2 ≤ n) (hn5 : n ≤ 5) (h : MG n q mo ms f g) (hx : x < n) : ∃ m, orS (phi n q mo ms) (vlN n x) 0 (n * n) m ∧ m < 32 ∧ f_X2_answersTo (nI q) f g (nI x) (nI n) = some (nI m) := by
  have hq := h.1
  have hV : ∀ {i j m : Nat}, orS (phi n q mo ms) (vlN n x) i j m → m < 32 := fun h => Nat.lt_of_lt_of_le (orS_lt h (V := n) (fun k _ => Nat.mod_lt _ (by omega))) (Nat.le_trans (Nat.pow_le_pow_right (by decide) hn5) (by decide))
  have inner : ∀ T m, T < n → orS (phi n q mo ms) (vlN n x) 0 (T * n) m → ∃ r, lpF (b_X2_answersTo_14 (nI q) f g (nI x) (nI n) (nI T)) FU (nI m, (0 : Int32)) = some r ∧ ∃ m', r = .inl (nI m', nI (T + 1)) ∧ orS (phi n q mo ms) (vlN n x) 0 ((T + 1) * n) m' := by
    intro T m hT hm
    refine lp_IU (B := b_X2_answersTo_14 (nI q) f g (nI x) (nI n) (nI T)) (fun z => ∃ B m, B ≤ n ∧ z = (nI m, nI B) ∧ orS (phi n q mo ms) (vlN n x) 0 (T * n + B) m) (fun z => n - z.2.toNatClampNeg) _ (fun z hz => ?_) _ ⟨0, m, Nat.zero_le _, rfl, by rw [Nat.add_zero]; exact hm⟩ (by show n - _ < _; omega)
    obtain ⟨B, m, hB, rfl, hm⟩ := hz
    have hm32 := hV hm
    unfold b_X2_answersTo_14
    dsimp only
    by_cases c : n ≤ B
    · right
      have e : B = n := by omega
      subst e
      rw [if_pos (by rw [nleI (by omega) (by omega)]; omega)]
      exact ⟨_, rfl, m, by rw [show nI T + (1 : Int32) = nI (T + 1) from nI_1 T], by rw [Nat.add_mul, Nat.one_mul]; exact hm⟩
    · left
      have hmod : (T * x + B) % n < n := Nat.mod_lt _ (by omega)
      have hb2 : (2 : Nat) ^ ((T * x + B) % n) < 2 ^ 31 := Nat.pow_lt_pow_right (by decide) (by omega)
      rw [if_neg (by rw [nleI (by omega) (by omega)]; omega), fits_ok hn hn5 h (by omega) (by omega), said_ok hn hn5 (by omega) (by omega) hx, ← phi_tb (show B < n by omega)]
      refine ⟨(nI (m ||| if phi n q mo ms (T * n + B) then 2 ^ vlN n x (T * n + B) else 0), nI (B + 1)), ?_, ⟨B + 1, _, by omega, rfl, orS_up (Nat.zero_le _) hm⟩, ?_⟩
      · rw [vl_tb (show B < n by omega)]
        cases phi n q mo ms (T * n + B) with
        | true =>
          rw [bnd_some, bnd_some, if_neg (by decide), if_pos rfl]
          rw [show jshl (1 : Int32) (nI ((T * x + B) % n)) = nI (2 ^ ((T * x + B) % n)) by rw [l1, njshl (by omega) (by omega), Nat.one_mul], nor, show nI B + (1 : Int32) = nI (B + 1) from nI_1 B]
        | false =>
          rw [bnd_some, if_pos bIf, show nI B + (1 : Int32) = nI (B + 1) from nI_1 B]
          simp
      · dsimp only
        rw [nI_clamp (by omega), nI_clamp (by omega)]
        omega
  unfold f_X2_answersTo
  obtain ⟨r, hr, m, rfl, hm⟩ := lp_IU (B := b_X2_answersTo_5 (nI q) f g (nI x) (nI n)) (fun z => ∃ T m, T ≤ n ∧ z = (nI m, nI T) ∧ orS (phi n q mo ms) (vlN n x) 0 (T * n) m) (fun z => n - z.2.toNatClampNeg) (fun r => ∃ m, r = nI m ∧ orS (phi n q mo ms) (vlN n x) 0 (n * n) m) (fun z hz => by
    obtain ⟨T, m, hT, rfl, hm⟩ := hz
    unfold b_X2_answersTo_5
    dsimp only
    by_cases c : n ≤ T
    · right
      have e : T = n := by omega
      subst e
      rw [if_pos (by rw [nleI (by omega) (by omega)]; omega)]
      exact ⟨_, rfl, m, rfl, hm⟩
    · left
      rw [if_neg (by rw [nleI (by omega) (by omega)]; omega)]
      obtain ⟨r, h1, m', rfl, h2⟩ := inner T m (by omega) hm
      refine ⟨_, h1, ⟨T + 1, m', by omega, rfl, h2⟩, ?_⟩
      dsimp only
      rw [nI_clamp (by omega), nI_clamp (by omega)]
      omega) ((0 : Int32), (0 : Int32)) ⟨0, 0, Nat.zero_le _, rfl, by rw [Nat.zero_mul]; exact orS_0⟩ (by show n - _ < _; omega)
  exact ⟨m, hm, hV hm, hr⟩
/-- the first place of the greatest number above 0 -/
def isMax (u : Nat → Nat) (N : Nat) (X : Option Nat) : Prop := match X with
  | none => ∀ a, a < N → u a = 0
  | some x => x < N ∧ 0 < u x ∧ ∀ a, a < N → u a < u x ∨ (u a = u x ∧ x ≤ a)
theorem isMax_uniq {u : Nat → Nat} {N : Nat} {X Y : Option Nat} (hX : isMax u N X) (hY : isMax u N Y) : X = Y := by
  cases X with
  | none =>
    cases Y with
    | none => rfl
    | some y => have := hX y hY.1; have := hY.2.1; omega
  | some x =>
    cases Y with
    | none => have := hY x hX.1; have := hX.2.1; omega
    | some y =>
      obtain ⟨a1, a2, a3⟩ := hX
      obtain ⟨b1, b2, b3⟩ := hY
      rcases a3 y b1 with h | h <;> rcases b3 x a1 with g | g
      · omega
      · omega
      · omega
      · rw [show x = y by omega]
theorem mostTelling_ok {n q : Nat} {mo ms : Nat → Nat} {f g : Nat → Int32} {u : Nat → Nat} (hn : 2 ≤ n) (hn5 : n ≤ 5) (h : MG n q mo ms f g) (hu : ∀ x, x < n → ∃ m, orS (phi n q mo ms) (vlN n x) 0 (n * n) m ∧ u x = pc m) : ∃ X, isMax u n X ∧ f_X2_mostTelling (nI q) f g (nI n) = some (oI X) := by
  unfold f_X2_mostTelling
  obtain ⟨r, hr, X, rfl, hX⟩ := lp_IU (B := b_X2_mostTelling_8 (nI q) f g (nI n)) (fun z => ∃ i X most, i ≤ n ∧ most ≤ 6 ∧ z = (oI X, nI most, nI i) ∧ isMax u i X ∧ most = X.elim 0 u) (fun z => n - z.2.2.toNatClampNeg) (fun r => ∃ X, r = oI X ∧ isMax u n X) (fun z hz => by
    obtain ⟨i, X, most, hi, hmo, rfl, hX, hmost⟩ := hz
    unfold b_X2_mostTelling_8
    dsimp only
    by_cases c : n ≤ i
    · right
      have e : i = n := by omega
      subst e
      rw [if_pos (by rw [nleI (by omega) (by omega)]; omega)]
      exact ⟨_, rfl, X, rfl, hX⟩
    · left
      obtain ⟨m, m1, m2, m3⟩ := answersTo_ok hn hn5 h (show i < n by omega)
      obtain ⟨m', m4, m5⟩ := hu i (by omega)
      have e := orS_uniq m1 m4
      subst e
      have hp := pc_le (x := m)
      rw [if_neg (by rw [nleI (by omega) (by omega)]; omega), m3, bnd_some, bitCount_ok m (by omega), bnd_some, ← m5]
      have meas : n - (nI (i + 1)).toNatClampNeg < n - (nI i).toNatClampNeg := by rw [nI_clamp (by omega), nI_clamp (by omega)]; omega
      by_cases d : u i ≤ most
      · rw [if_pos (by rw [nleI (by omega) (by omega)]; omega), show nI i + (1 : Int32) = nI (i + 1) from nI_1 i]
        refine ⟨_, rfl, ⟨i + 1, X, most, by omega, hmo, rfl, ?_, hmost⟩, meas⟩
        cases X with
        | none =>
          intro a ha
          by_cases e : a = i
          · subst e
            have : most = 0 := hmost
            omega
          · exact hX a (by omega)
        | some x =>
          have hmx : most = u x := hmost
          refine ⟨by have := hX.1; omega, hX.2.1, fun a ha => ?_⟩
          by_cases e : a = i
          · subst e; have := hX.1; omega
          · exact hX.2.2 a (by omega)
      · rw [if_neg (by rw [nleI (by omega) (by omega)]; omega), show nI i + (1 : Int32) = nI (i + 1) from nI_1 i]
        refine ⟨_, rfl, ⟨i + 1, some i, u i, by omega, by omega, rfl, ⟨by omega, by omega, fun a ha => ?_⟩, rfl⟩, meas⟩
        by_cases e : a = i
        · subst e; exact Or.inr ⟨rfl, Nat.le_refl _⟩
        · cases X with
          | none => have := hX a (by omega); omega
          | some x =>
            have hmx : most = u x := hmost
            rcases hX.2.2 a (by omega) with q | q <;> omega) ((-9 : Int32), (0 : Int32), (0 : Int32)) ⟨0, none, 0, Nat.zero_le _, by omega, rfl, fun a ha => by omega, rfl⟩ (by show n - _ < _; omega)
  exact ⟨X, hX, hr⟩
theorem fittingScribes_ok {n L S d q : Nat} {t b : Nat → Nat} {tu be : Nat → Int32} {mo ms : Nat → Nat} {f g : Nat → Int32} (h : CH n L S d t b tu be) (hg : MG n q mo ms f g) : f_X2_fittingScribes (nI q) f g (nI n) (nI S) tu be = some (nI (msk (fun s => fitN n q mo ms (t s) (b s)) S)) := by
  obtain ⟨⟨h1, h2, h3, h4, h5, h6, h7⟩, h8⟩ := id h
  unfold f_X2_fittingScribes
  refine lp_run0 (st := fun i => (nI (msk (fun s => fitN n q mo ms (t s) (b s)) i), nI i)) S _ (by omega) (fun i hi => ?_) ?_
  · unfold b_X2_fittingScribes_4
    have hb2 : (2 : Nat) ^ i < 2 ^ 31 := Nat.pow_lt_pow_right (by decide) (by omega)
    dsimp only
    rw [if_neg (by rw [nleI (by omega) (by omega)]; omega), turnOf_ok hi h4 (h8 i hi).1, bnd_some, bentOf_ok hi h4 (h8 i hi).2, bnd_some, fits_ok h1 h2 hg (h7 i hi).1 (h7 i hi).2, bnd_some, show nI i + (1 : Int32) = nI (i + 1) from nI_1 i]
    rw [show msk (fun s => fitN n q mo ms (t s) (b s)) (i + 1) = msk (fun s => fitN n q mo ms (t s) (b s)) i ||| (if fitN n q mo ms (t i) (b i) then 2 ^ i else 0) from rfl]
    cases fitN n q mo ms (t i) (b i) with
    | true => rw [if_neg (by decide), show jshl (1 : Int32) (nI i) = nI (2 ^ i) by rw [l1, njshl (by omega) (by omega), Nat.one_mul], nor]; rfl
    | false => rw [if_pos bIf]; simp
  · unfold b_X2_fittingScribes_4
    dsimp only
    rw [if_pos (by rw [nleI (by omega) (by omega)]; omega)]
theorem pc_pos : ∀ m, m < 64 → 0 < m → 0 < pc m := by decide +kernel
theorem orS_zero {φ : Nat → Bool} {val : Nat → Nat} {N m : Nat} (h : orS φ val 0 N m) : (m = 0 ↔ cntU φ N = 0) := by
  constructor
  · intro e
    subst e
    rcases Nat.eq_zero_or_pos (cntU φ N) with q | q
    · exact q
    · obtain ⟨k, h1, h2⟩ := cntU_pos.mp q
      have := (h (val k)).mpr ⟨k, Nat.zero_le _, h1, h2, rfl⟩
      rw [Nat.zero_testBit] at this
      cases this
  · intro e
    apply Nat.eq_of_testBit_eq
    intro b
    rw [Nat.zero_testBit]
    cases c : m.testBit b with
    | false => rfl
    | true =>
      obtain ⟨k, h1, h2, h3, h4⟩ := (h b).mp c
      have := cntU_pos.mpr ⟨k, h2, h3⟩
      omega
/-- the reference's inner loop: all laws for one opinion -/
theorem fit53_ok {n q x : Nat} {mo ms : Nat → Nat} {op f g : Nat → Int32} (hn : 2 ≤ n) (hn5 : n ≤ 5) (hop : op 0 = nI n) (h : MG n q mo ms f g) (hx : x < n) {mm most : Nat} (hmm : orS (phi n q mo ms) (vlN n x) 0 (n * n) mm) (hmo : most ≤ 6) (fst0 nxt : Int32) : lpF (b_X9_fit_53 (nI q) op f g (nI n) nxt (nI most) (nI x)) FU ((0 : Int32), fst0, (0 : Int32), nI n * nI n - (1 : Int32)) = some (.inl (nI (cntU (phi n q mo ms) (n * n)), (srch (phi n q mo ms) (n * n) 0).elim fst0 (f10 n), if cntU (phi n q mo ms) (n * n) = 0 ∨ pc mm < most then nxt else nI x, if cntU (phi n q mo ms) (n * n) = 0 ∨ pc mm < most then nI most else nI (pc mm), nI x - (1 : Int32))) := by
  have hq := h.1
  have hN : n * n ≤ 25 := Nat.mul_le_mul hn5 hn5
  have hV : ∀ {i j m : Nat}, orS (phi n q mo ms) (vlN n x) i j m → m < 32 := fun h => Nat.lt_of_lt_of_le (orS_lt h (V := n) (fun k _ => Nat.mod_lt _ (by omega))) (Nat.le_trans (Nat.pow_le_pow_right (by decide) hn5) (by decide))
  rw [pk_mul]
  refine lp_E (I := fun z => ∃ i m, i ≤ n * n ∧ z = (nI (cntU (phi n q mo ms) (n * n) - cntU (phi n q mo ms) i), (srch (phi n q mo ms) (n * n - i) i).elim fst0 (f10 n), nI m, nI i - (1 : Int32)) ∧ orS (phi n q mo ms) (vlN n x) i (n * n) m) (μ := fun z => (z.2.2.2 + 1).toNatClampNeg) _ _ ⟨n * n, 0, Nat.le_refl _, by rw [Nat.sub_self, Nat.sub_self]; rfl, orS_0⟩ ?_ (fun z hz => ?_)
  · dsimp only
    rw [Int32.sub_add_cancel, nI_clamp (by omega)]
    omega
  · obtain ⟨i, m, hi, rfl, hm⟩ := hz
    have hm32 := hV hm
    have hcN := cntU_le (phi n q mo ms) (n * n)
    unfold b_X9_fit_53
    dsimp only
    cases i with
    | zero =>
      right
      have e := orS_uniq hm hmm
      subst e
      have hp := pc_le (x := m)
      rw [if_pos (by decide), Nat.sub_zero, show cntU (phi n q mo ms) 0 = 0 from rfl, Nat.sub_zero, manyOf_ok m (by omega)]
      simp (disch := omega) only [↓km1, ↓km2, ↓km3, ↓km9, l0, l1, l2, l3, l4, l5, l6, l8, l9, l10, l64, l625, nlt0, nltI, nleI, neqI, njrem, ndiv, nI_add, pk_mul, pk_sub, nI_clamp, bnd_some, nne9, nne1, nm1, ↓reduceIte, Bool.false_eq_true, reduceCtorEq, Option.elim, oI_none, oI_some]
      by_cases c : cntU (phi n q mo ms) (n * n) = 0
      · rw [if_pos (by omega), if_pos (Or.inl c), if_pos (Or.inl c)]
      · rw [if_neg (by omega)]
        by_cases c2 : pc m < most
        · rw [if_pos c2, if_pos (Or.inr c2), if_pos (Or.inr c2)]
        · rw [if_neg c2, if_neg (by omega), if_neg (by omega)]
    | succ i =>
      left
      have hci := cntU_le (phi n q mo ms) i
      have hi2 : i / n < n := Nat.div_lt_of_lt_mul (by omega)
      have hi3 : i % n < n := Nat.mod_lt _ (by omega)
      have hmod : (i / n * x + i % n) % n < n := Nat.mod_lt _ (by omega)
      have hb2 : (2 : Nat) ^ vlN n x i < 2 ^ 31 := Nat.pow_lt_pow_right (by decide) (Nat.lt_of_lt_of_le hmod (by omega))
      have hmul : i / n * x ≤ 5 * 5 := Nat.mul_le_mul (by omega) (by omega)
      have hmul2 : nI (i / n * x + i % n) = nI (i / n) * nI x + nI (i % n) := by rw [pk_mul, nI_add]
      have hcs : cntU (phi n q mo ms) (i + 1) = cntU (phi n q mo ms) i + (if phi n q mo ms i then 1 else 0) := rfl
      have hcs2 : cntU (phi n q mo ms) (i + 1) ≤ cntU (phi n q mo ms) (n * n) := by
        have mono : ∀ a b, a ≤ b → cntU (phi n q mo ms) a ≤ cntU (phi n q mo ms) b := by
          intro a b hab
          induction b with
          | zero => rw [show a = 0 by omega]; exact Nat.le_refl _
          | succ b ih =>
            by_cases e : a = b + 1
            · rw [e]; exact Nat.le_refl _
            · have := ih (by omega)
              have : cntU (phi n q mo ms) (b + 1) = cntU (phi n q mo ms) b + (if phi n q mo ms b then 1 else 0) := rfl
              omega
        exact mono _ _ hi
      have hss : srch (phi n q mo ms) (n * n - i) i = if phi n q mo ms i then some i else srch (phi n q mo ms) (n * n - (i + 1)) (i + 1) := by
        rw [show n * n - i = (n * n - (i + 1)) + 1 by omega]
        rfl
      rw [nI_pred]
      refine ⟨(nI (cntU (phi n q mo ms) (n * n) - cntU (phi n q mo ms) i), (srch (phi n q mo ms) (n * n - i) i).elim fst0 (f10 n), nI (m ||| if phi n q mo ms i then 2 ^ vlN n x i else 0), nI i - (1 : Int32)), ?_, ⟨i, _, by omega, rfl, orS_down (by omega) hm⟩, ?_⟩
      · rw [show nI i / nI n = nI (i / n) from ndiv (by omega) (by omega) (by omega), show jrem (nI i) (nI n) = nI (i % n) from njrem (by omega) (by omega) (by omega), isSo_ok hn hn5 hop h (by omega) (by omega)]
        rw [show fitN n q mo ms (i / n) (i % n) = phi n q mo ms i from rfl, ← hmul2, show jrem (nI (i / n * x + i % n)) (nI n) = nI (vlN n x i) from njrem (by omega) (by omega) (by omega)]
        rw [if_neg (by rw [l0, nltI (by omega) (by omega)]; omega), if_neg (by rw [l0, neqI (by omega) (by omega)]; omega), if_neg (by rw [l0, neqI (by omega) (by omega)]; omega), bnd_some, hss]
        rw [show nI i + (-1 : Int32) = nI i - (1 : Int32) from nm1 _]
        cases hφ : phi n q mo ms i with
        | true =>
          rw [hφ, if_pos rfl] at hcs
          rw [if_neg (by decide), if_neg (by rw [l0, neqI (by omega) (by omega)]; omega), if_neg (by rw [l0, neqI (by omega) (by omega)]; omega), if_neg (by rw [l0, neqI (by omega) (by omega)]; omega), if_neg (by rw [l0, neqI (by omega) (by omega)]; omega), if_neg (by rw [l0, neqI (by omega) (by omega)]; omega)]
          rw [show jshl (1 : Int32) (nI (vlN n x i)) = nI (2 ^ vlN n x i) by rw [l1, njshl (k := vlN n x i) (Nat.lt_of_lt_of_le hmod (by omega)) (by omega), Nat.one_mul], nor, nI_1, show cntU (phi n q mo ms) (n * n) - cntU (phi n q mo ms) (i + 1) + 1 = cntU (phi n q mo ms) (n * n) - cntU (phi n q mo ms) i by omega]
          rw [show (10 : Int32) * nI (i / n) + nI (i % n) = f10 n i by unfold f10; rw [l10, pk_mul, nI_add]]
          rfl
        | false =>
          rw [hφ, if_neg (by decide), Nat.add_zero] at hcs
          rw [if_pos bIf, hcs]
          simp
      · dsimp only
        rw [Int32.sub_add_cancel, nI_1, nI_clamp (by omega), nI_clamp (by omega)]
        omega
theorem mfit_ok {n q : Nat} {mo ms : Nat → Nat} {op f g : Nat → Int32} {u : Nat → Nat} (hn : 2 ≤ n) (hn5 : n ≤ 5) (hop : op 0 = nI n) (h : MG n q mo ms f g) (hu : ∀ x, x < n → ∃ m, orS (phi n q mo ms) (vlN n x) 0 (n * n) m ∧ u x = pc m) {what : Nat} (hw : what < 3) : ∃ X, isMax u n X ∧ f_X9_fit (nI q) op f g (nI what) = some (if what = 0 then nI (cntU (phi n q mo ms) (n * n)) else if what = 1 then (srch (phi n q mo ms) (n * n) 0).elim (-9) (f10 n) else oI X) := by
  have hN : n * n ≤ 25 := Nat.mul_le_mul hn5 hn5
  have hcN := cntU_le (phi n q mo ms) (n * n)
  unfold f_X9_fit
  rw [in_ok, show op (0 : Int32).toNatClampNeg = nI n from hop, bnd_some]
  rw [show decide ((0 : Int32) ≤ nI what) = true from decide_eq_true (nI_pos' (by omega)), show decide (nI what ≤ (2 : Int32)) = true from decide_eq_true (by rw [l2, nleI (by omega) (by omega)]; omega)]
  rw [if_neg (by decide)]
  obtain ⟨r, hr, X, hX, rfl⟩ := lp_IU (B := b_X9_fit_36 (nI q) op f g (nI what) (nI n)) (fun z => ∃ j X most, j ≤ n ∧ most ≤ 6 ∧ z.2.2 = (oI X, nI most, nI j - (1 : Int32)) ∧ (z.1 = nI (cntU (phi n q mo ms) (n * n)) ∨ j = n) ∧ (z.2.1 = (srch (phi n q mo ms) (n * n) 0).elim (-9) (f10 n) ∨ (j = n ∧ z.2.1 = (-9 : Int32))) ∧ most = X.elim 0 u ∧ (match X with | none => ∀ a, j ≤ a → a < n → u a = 0 | some x => j ≤ x ∧ x < n ∧ 0 < u x ∧ ∀ a, j ≤ a → a < n → u a < u x ∨ (u a = u x ∧ x ≤ a))) (fun z => (z.2.2.2.2 + 1).toNatClampNeg) (fun r => ∃ X, isMax u n X ∧ r = (if what = 0 then nI (cntU (phi n q mo ms) (n * n)) else if what = 1 then (srch (phi n q mo ms) (n * n) 0).elim (-9) (f10 n) else oI X)) (fun z hz => by
    obtain ⟨z1, z2, z3⟩ := z
    obtain ⟨j, X, most, hj, hmo, e3, e1, e2, hmost, hX⟩ := hz
    dsimp only at e3 e1 e2
    subst e3
    unfold b_X9_fit_36
    dsimp only
    cases j with
    | zero =>
      right
      rw [if_pos (by decide)]
      have e1 : z1 = nI (cntU (phi n q mo ms) (n * n)) := e1.elim id (fun z => by omega)
      have e2 : z2 = (srch (phi n q mo ms) (n * n) 0).elim (-9) (f10 n) := e2.elim id (fun z => by omega)
      have hX' : isMax u n X := by
        cases X with
        | none => exact fun a ha => hX a (Nat.zero_le _) ha
        | some x => exact ⟨hX.2.1, hX.2.2.1, fun a ha => hX.2.2.2 a (Nat.zero_le _) ha⟩
      by_cases w0 : what = 0
      · subst w0
        rw [if_pos (by decide)]
        exact ⟨_, rfl, X, hX', e1⟩
      · rw [if_neg (by rw [l0, neqI (by omega) (by omega)]; exact w0)]
        by_cases w1 : what = 1
        · subst w1
          rw [if_pos (by decide)]
          exact ⟨_, rfl, X, hX', e2⟩
        · rw [if_neg (by rw [l1, neqI (by omega) (by omega)]; exact w1)]
          exact ⟨_, rfl, X, hX', by rw [if_neg w0, if_neg w1]⟩
    | succ j =>
      left
      obtain ⟨m, m1, m2⟩ := hu j (by omega)
      have hm32 : m < 32 := Nat.lt_of_lt_of_le (orS_lt m1 (V := n) (fun k _ => Nat.mod_lt _ (by omega))) (Nat.le_trans (Nat.pow_le_pow_right (by decide) hn5) (by decide))
      have hz := orS_zero m1
      have hpp := pc_pos m (by omega)
      have hp := pc_le (x := m)
      rw [nI_pred, if_neg (by rw [l0, nltI (by omega) (by omega)]; omega), fit53_ok hn hn5 hop h (show j < n by omega) m1 hmo, ← m2]
      have hF : (srch (phi n q mo ms) (n * n) 0).elim z2 (f10 n) = (srch (phi n q mo ms) (n * n) 0).elim (-9) (f10 n) := by
        cases hs : srch (phi n q mo ms) (n * n) 0 with
        | some k => rfl
        | none =>
          rw [hs] at e2
          exact e2.elim id (fun z => z.2)
      have meas : (nI j - (1 : Int32) + 1).toNatClampNeg < (nI j + 1).toNatClampNeg := by rw [Int32.sub_add_cancel, nI_1, nI_clamp (by omega), nI_clamp (by omega)]; omega
      by_cases c : cntU (phi n q mo ms) (n * n) = 0 ∨ u j < most
      · rw [if_pos c, if_pos c]
        refine ⟨_, rfl, ⟨j, X, most, by omega, hmo, rfl, Or.inl rfl, Or.inl hF, hmost, ?_⟩, meas⟩
        cases X with
        | none =>
          have hm0 : most = 0 := hmost
          intro a h1 h2
          by_cases e : a = j
          · subst e
            rcases c with c | c
            · have := hz.mpr c
              subst this
              rw [m2]; rfl
            · omega
          · exact hX a (by omega) h2
        | some x =>
          have hmx : most = u x := hmost
          refine ⟨by have := hX.1; omega, hX.2.1, hX.2.2.1, fun a h1 h2 => ?_⟩
          by_cases e : a = j
          · subst e
            rcases c with c | c
            · have h0 := hz.mpr c
              subst h0
              have : u a = 0 := by rw [m2]; rfl
              have := hX.2.2.1
              omega
            · omega
          · exact hX.2.2.2 a (by omega) h2
      · rw [if_neg c, if_neg c]
        have c1 : cntU (phi n q mo ms) (n * n) ≠ 0 := fun z => c (Or.inl z)
        have c2 : ¬ u j < most := fun z => c (Or.inr z)
        have hm0 : m ≠ 0 := fun z => c1 (hz.mp z)
        have hup := hpp (by omega)
        refine ⟨_, rfl, ⟨j, some j, u j, by omega, by omega, rfl, Or.inl rfl, Or.inl hF, rfl, ⟨Nat.le_refl _, by omega, by omega, fun a h1 h2 => ?_⟩⟩, meas⟩
        by_cases e : a = j
        · subst e; exact Or.inr ⟨rfl, Nat.le_refl _⟩
        · cases X with
          | none => have := hX a (by omega) h2; omega
          | some x =>
            have hmx : most = u x := hmost
            rcases hX.2.2.2 a (by omega) h2 with q | q <;> omega) ((0 : Int32), (-9 : Int32), (-9 : Int32), (0 : Int32), nI n - (1 : Int32)) ⟨n, none, 0, Nat.le_refl _, by omega, rfl, Or.inr rfl, Or.inr ⟨rfl, rfl⟩, rfl, fun a h1 h2 => by omega⟩ (by dsimp only; rw [Int32.sub_add_cancel, nI_clamp (by omega)]; omega)
  exact ⟨X, hX, hr⟩
