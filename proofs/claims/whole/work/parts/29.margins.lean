/-! ===== margins ===== -/
def MG (n q : Nat) (mo ms : Nat → Nat) (f g : Nat → Int32) : Prop := q ≤ 6 ∧ ∀ k, k < q → f k = nI (mo k) ∧ g k = nI (ms k) ∧ mo k < n ∧ ms k < n
/-- all margins are so by this law -/
def fitN (n q : Nat) (mo ms : Nat → Nat) (T B : Nat) : Bool := (srch (fun k => (T * mo k + B) % n != ms k) q 0).isNone
theorem fits_ok {n q T B : Nat} {mo ms : Nat → Nat} {f g : Nat → Int32} (hn : 2 ≤ n) (hn5 : n ≤ 5) (h : MG n q mo ms f g) (hT : T ≤ 6) (hB : B ≤ 6) : f_X2_fits (nI q) f g (nI T) (nI B) (nI n) = some (bI (fitN n q mo ms T B)) := by
  obtain ⟨h1, h2⟩ := h
  unfold f_X2_fits fitN
  rw [show bI (srch (fun k => (T * mo k + B) % n != ms k) q 0).isNone = (srch (fun k => (T * mo k + B) % n != ms k) q 0).elim (1 : Int32) (fun _ => 0) by cases srch (fun k => (T * mo k + B) % n != ms k) q 0 <;> rfl]
  refine lp_srch (st := fun i => nI i) _ _ _ q (by omega) (fun i hi => ?_) ?_
  · obtain ⟨e1, e2, e3, e4⟩ := h2 i hi
    have hm : (T * mo i + B) % n < n := Nat.mod_lt _ (by omega)
    unfold b_X2_fits_3
    rw [nI_clamp (by omega), e1, said_ok hn hn5 hT hB e3, e2]
    simp (disch := omega) only [↓km1, ↓km2, ↓km3, ↓km9, l0, l1, l2, l3, l4, l5, l6, l8, l9, l10, l64, l625, nlt0, nltI, nleI, neqI, njrem, ndiv, nI_add, pk_mul, pk_sub, nI_clamp, bnd_some, nne9, nne1, nm1, ↓reduceIte, Bool.false_eq_true, reduceCtorEq, Option.elim, oI_none, oI_some]
    rw [if_neg (by omega), if_neg (by omega), if_neg (by omega), if_neg (by omega)]
    by_cases c : (T * mo i + B) % n = ms i
    · rw [if_pos c]; simp [c]
    · rw [if_neg c]; simp [c]
  · unfold b_X2_fits_3
    simp (disch := omega) only [↓km1, ↓km2, ↓km3, ↓km9, l0, l1, l2, l3, l4, l5, l6, l8, l9, l10, l64, l625, nlt0, nltI, nleI, neqI, njrem, ndiv, nI_add, pk_mul, pk_sub, nI_clamp, bnd_some, nne9, nne1, nm1, ↓reduceIte, Bool.false_eq_true, reduceCtorEq, Option.elim, oI_none, oI_some]
    rw [if_pos (by omega)]
theorem isNone_s {p : Nat → Bool} {i : Nat} : (srch p (i + 1) 0).isNone = ((srch p i 0).isNone && !p i) := by
  cases h : srch p i 0 with
  | some k =>
    obtain ⟨g1, g2, g3, g4⟩ := srch_some h
    rw [srch_is (j := k) g1 (by omega) g3 g4]
    rfl
  | none =>
    have hn := srch_none h
    cases c : p i with
    | true =>
      rw [srch_is (j := i) (Nat.zero_le _) (by omega) c (fun a h1 h2 => hn a h1 (by omega))]
      rfl
    | false =>
      rw [srch_no (fun a h1 h2 => if e : a = i then by rw [e]; exact c else hn a h1 (by omega))]
      rfl
theorem isSo_ok {n q T B : Nat} {mo ms : Nat → Nat} {op f g : Nat → Int32} (hn : 2 ≤ n) (hn5 : n ≤ 5) (hop : op 0 = nI n) (h : MG n q mo ms f g) (hT : T ≤ 6) (hB : B ≤ 6) : f_X9_isSo (nI q) op f g (nI T) (nI B) = some (bI (fitN n q mo ms T B)) := by
  obtain ⟨h1, h2⟩ := h
  unfold f_X9_isSo fitN
  refine lp_run0 (st := fun i => (bI (srch (fun k => (T * mo k + B) % n != ms k) i 0).isNone, nI i)) q _ (by omega) (fun i hi => ?_) ?_
  · obtain ⟨e1, e2, e3, e4⟩ := h2 i hi
    have hm : (T * mo i + B) % n < n := Nat.mod_lt _ (by omega)
    have hmul : T * mo i ≤ 6 * 5 := Nat.mul_le_mul hT (by omega)
    unfold b_X9_isSo_5
    dsimp only
    rw [nI_clamp (show i < 2 ^ 31 by omega), e1, e2, isNone_s]
    cases c : (srch (fun k => (T * mo k + B) % n != ms k) i 0).isNone with
    | false =>
      simp (disch := omega) only [↓km1, ↓km2, ↓km3, ↓km9, l0, l1, l2, l3, l4, l5, l6, l8, l9, l10, l64, l625, nlt0, nltI, nleI, neqI, njrem, ndiv, nI_add, pk_mul, pk_sub, nI_clamp, bnd_some, nne9, nne1, nm1, ↓reduceIte, Bool.false_eq_true, reduceCtorEq, Option.elim, oI_none, oI_some, bI]
      rw [if_neg (by omega)]
      rfl
    | true =>
      simp (disch := omega) only [↓km1, ↓km2, ↓km3, ↓km9, l0, l1, l2, l3, l4, l5, l6, l8, l9, l10, l64, l625, nlt0, nltI, nleI, neqI, njrem, ndiv, nI_add, pk_mul, pk_sub, nI_clamp, bnd_some, nne9, nne1, nm1, ↓reduceIte, Bool.false_eq_true, reduceCtorEq, Option.elim, oI_none, oI_some, bI, hop, Nat.one_ne_zero]
      rw [if_neg (by omega), if_neg (by omega), if_neg (by omega), if_neg (by omega)]
      by_cases e : (T * mo i + B) % n = ms i
      · rw [if_pos e]; simp [e]
      · rw [if_neg e]; simp [e]
  · unfold b_X9_isSo_5
    dsimp only
    rw [if_pos (by rw [nleI (by omega) (by omega)]; exact Nat.le_refl q), if_pos (by cases (srch (fun k => (T * mo k + B) % n != ms k) q 0).isNone <;> simp [bI])]
/-! how many laws of N fit; which answers they give -/
def cntU (φ : Nat → Bool) : Nat → Nat
  | 0 => 0
  | k + 1 => cntU φ k + (if φ k then 1 else 0)
theorem cntU_le (φ : Nat → Bool) : ∀ k, cntU φ k ≤ k
  | 0 => Nat.le_refl 0
  | k + 1 => by
    have := cntU_le φ k
    unfold cntU
    by_cases c : φ k <;> simp [c] <;> omega
theorem cntU_pos {φ : Nat → Bool} : ∀ {N : Nat}, (0 < cntU φ N ↔ ∃ k, k < N ∧ φ k = true)
  | 0 => by simp [cntU]
  | N + 1 => by
    unfold cntU
    constructor
    · intro h
      by_cases c : φ N
      · exact ⟨N, by omega, c⟩
      · rw [if_neg c, Nat.add_zero] at h
        obtain ⟨k, h1, h2⟩ := cntU_pos.mp h
        exact ⟨k, by omega, h2⟩
    · rintro ⟨k, h1, h2⟩
      by_cases e : k = N
      · subst e; rw [if_pos h2]; omega
      · have := (cntU_pos (N := N)).mpr ⟨k, by omega, h2⟩
        omega
def orS (φ : Nat → Bool) (val : Nat → Nat) (i j m : Nat) : Prop := ∀ b, m.testBit b = true ↔ ∃ k, i ≤ k ∧ k < j ∧ φ k = true ∧ val k = b
theorem orS_0 {φ : Nat → Bool} {val : Nat → Nat} {i : Nat} : orS φ val i i 0 := fun b => by
  rw [Nat.zero_testBit]
  exact ⟨fun h => (by cases h), fun ⟨k, h1, h2, _⟩ => by omega⟩
theorem orS_uniq {φ : Nat → Bool} {val : Nat → Nat} {i j m m' : Nat} (h : orS φ val i j m) (h' : orS φ val i j m') : m = m' := by
  apply Nat.eq_of_testBit_eq
  intro b
  rw [Bool.eq_iff_iff]
  exact (h b).trans (h' b).symm
theorem orS_up {φ : Nat → Bool} {val : Nat → Nat} {i j m : Nat} (hij : i ≤ j) (h : orS φ val i j m) : orS φ val i (j + 1) (m ||| if φ j then 2 ^ val j else 0) := fun b => by
  rw [Nat.testBit_or, Bool.or_eq_true, h b]
  constructor
  · rintro (⟨k, h1, h2, h3⟩ | h1)
    · exact ⟨k, h1, by omega, h3⟩
    · by_cases c : φ j
      · rw [if_pos c, Nat.testBit_two_pow] at h1
        exact ⟨j, hij, by omega, c, by simpa using h1⟩
      · rw [if_neg c, Nat.zero_testBit] at h1; cases h1
  · rintro ⟨k, h1, h2, h3, h4⟩
    by_cases e : k = j
    · subst e
      right
      rw [if_pos h3, Nat.testBit_two_pow, h4]
      simp
    · exact Or.inl ⟨k, h1, by omega, h3, h4⟩
theorem orS_down {φ : Nat → Bool} {val : Nat → Nat} {i j m : Nat} (hij : i < j) (h : orS φ val (i + 1) j m) : orS φ val i j (m ||| if φ i then 2 ^ val i else 0) := fun b => by
  rw [Nat.testBit_or, Bool.or_eq_true, h b]
  constructor
  · rintro (⟨k, h1, h2, h3⟩ | h1)
    · exact ⟨k, by omega, h2, h3⟩
    · by_cases c : φ i
      · rw [if_pos c, Nat.testBit_two_pow] at h1
        exact ⟨i, Nat.le_refl _, hij, c, by simpa using h1⟩
      · rw [if_neg c, Nat.zero_testBit] at h1; cases h1
  · rintro ⟨k, h1, h2, h3, h4⟩
    by_cases e : k = i
    · subst e
      right
      rw [if_pos h3, Nat.testBit_two_pow, h4]
      simp
    · exact Or.inl ⟨k, by omega, h2, h3, h4⟩
theorem orS_lt {φ : Nat → Bool} {val : Nat → Nat} {i j m V : Nat} (h : orS φ val i j m) (hv : ∀ k, k < j → val k < V) : m < 2 ^ V := by
  apply Nat.lt_pow_two_of_testBit
  intro b hb
  cases c : m.testBit b with
  | false => rfl
  | true =>
    obtain ⟨k, h1, h2, h3, h4⟩ := (h b).mp c
    have := hv k h2
    omega
def phi (n q : Nat) (mo ms : Nat → Nat) (k : Nat) : Bool := fitN n q mo ms (k / n) (k % n)
theorem phi_tb {n q : Nat} {mo ms : Nat → Nat} {T B : Nat} (hB : B < n) : phi n q mo ms (T * n + B) = fitN n q mo ms T B := by
  unfold phi
  rw [Nat.mul_comm T n, Nat.mul_add_div (by omega), Nat.div_eq_of_lt hB, Nat.mul_add_mod, Nat.mod_eq_of_lt hB]
  rfl
theorem countFits_ok {n q : Nat} {mo ms : Nat → Nat} {f g : Nat → Int32} (hn : 2 ≤ n) (hn5 : n ≤ 5) (h : MG n q mo ms f g) : f_X2_countFits (nI q) f g (nI n) = some (nI (cntU (phi n q mo ms) (n * n))) := by
  have hq := h.1
  unfold f_X2_countFits
  have inner : ∀ T, T < n → lpF (b_X2_countFits_12 (nI q) f g (nI n) (nI T)) FU (nI (cntU (phi n q mo ms) (T * n)), (0 : Int32)) = some (.inl (nI (cntU (phi n q mo ms) ((T + 1) * n)), nI (T + 1))) := by
    intro T hT
    refine lp_run0 (st := fun i => (nI (cntU (phi n q mo ms) (T * n + i)), nI i)) n _ (by omega) (fun i hi => ?_) ?_
    · unfold b_X2_countFits_12
      have hc := cntU_le (phi n q mo ms) (T * n + i)
      have hTn : T * n ≤ 5 * 5 := Nat.mul_le_mul (by omega) hn5
      dsimp only
      rw [fits_ok hn hn5 h (by omega) (by omega), ← phi_tb hi]
      rw [show T * n + (i + 1) = T * n + i + 1 by omega, show cntU (phi n q mo ms) (T * n + i + 1) = cntU (phi n q mo ms) (T * n + i) + (if phi n q mo ms (T * n + i) then 1 else 0) from rfl]
      cases phi n q mo ms (T * n + i) with
      | true =>
        simp (disch := omega) only [↓km1, ↓km2, ↓km3, ↓km9, l0, l1, l2, l3, l4, l5, l6, l8, l9, l10, l64, l625, nlt0, nltI, nleI, neqI, njrem, ndiv, nI_add, pk_mul, pk_sub, nI_clamp, bnd_some, nne9, nne1, nm1, ↓reduceIte, Bool.false_eq_true, reduceCtorEq, Option.elim, oI_none, oI_some, bI, Nat.one_ne_zero]
        rw [if_neg (by omega)]
      | false =>
        simp (disch := omega) only [↓km1, ↓km2, ↓km3, ↓km9, l0, l1, l2, l3, l4, l5, l6, l8, l9, l10, l64, l625, nlt0, nltI, nleI, neqI, njrem, ndiv, nI_add, pk_mul, pk_sub, nI_clamp, bnd_some, nne9, nne1, nm1, ↓reduceIte, Bool.false_eq_true, reduceCtorEq, Option.elim, oI_none, oI_some, bI]
        rw [if_neg (by omega)]
        rfl
    · unfold b_X2_countFits_12
      simp (disch := omega) only [↓km1, ↓km2, ↓km3, ↓km9, l0, l1, l2, l3, l4, l5, l6, l8, l9, l10, l64, l625, nlt0, nltI, nleI, neqI, njrem, ndiv, nI_add, pk_mul, pk_sub, nI_clamp, bnd_some, nne9, nne1, nm1, ↓reduceIte, Bool.false_eq_true, reduceCtorEq, Option.elim, oI_none, oI_some]
      rw [if_pos (by omega), Nat.add_mul, Nat.one_mul]
  rw [show (((0 : Int32), (0 : Int32)) : Int32 × Int32) = (nI (cntU (phi n q mo ms) (0 * n)), nI 0) by rw [Nat.zero_mul]; rfl]
  refine lp_run0 (st := fun i => (nI (cntU (phi n q mo ms) (i * n)), nI i)) n _ (by omega) (fun i hi => ?_) ?_
  · unfold b_X2_countFits_4
    dsimp only
    rw [if_neg (by rw [nleI (by omega) (by omega)]; omega)]
    exact inner i hi
  · unfold b_X2_countFits_4
    dsimp only
    rw [if_pos (by rw [nleI (by omega) (by omega)]; omega)]
def f10 (n k : Nat) : Int32 := nI (10 * (k / n) + k % n)
theorem firstFit_ok {n q : Nat} {mo ms : Nat → Nat} {f g : Nat → Int32} (hn : 2 ≤ n) (hn5 : n ≤ 5) (h : MG n q mo ms f g) : f_X2_firstFit (nI q) f g (nI n) = some ((srch (phi n q mo ms) (n * n) 0).elim (-9) (f10 n)) := by
  have hq := h.1
  unfold f_X2_firstFit
  have inner : ∀ T, T < n → (∃ k, k < n ∧ phi n q mo ms (T * n + k) = true ∧ (∀ a, a < k → phi n q mo ms (T * n + a) = false) ∧ lpF (b_X2_firstFit_9 (nI q) f g (nI n) (nI T)) FU (0 : Int32) = some (.inr (nI (10 * T + k)))) ∨ ((∀ a, a < n → phi n q mo ms (T * n + a) = false) ∧ lpF (b_X2_firstFit_9 (nI q) f g (nI n) (nI T)) FU (0 : Int32) = some (.inl (nI (T + 1)))) := by
    intro T hT
    have key : lpF (b_X2_firstFit_9 (nI q) f g (nI n) (nI T)) FU (nI 0) = some ((srch (fun k => phi n q mo ms (T * n + k)) n 0).elim (.inl (nI (T + 1))) (fun k => .inr (nI (10 * T + k)))) := by
      refine lp_srch (st := fun i => nI i) _ _ _ n (by omega) (fun i hi => ?_) ?_
      · unfold b_X2_firstFit_9
        rw [fits_ok hn hn5 h (by omega) (by omega), ← phi_tb hi]
        cases phi n q mo ms (T * n + i) with
        | true =>
          simp (disch := omega) only [↓km1, ↓km2, ↓km3, ↓km9, l0, l1, l2, l3, l4, l5, l6, l8, l9, l10, l64, l625, nlt0, nltI, nleI, neqI, njrem, ndiv, nI_add, pk_mul, pk_sub, nI_clamp, bnd_some, nne9, nne1, nm1, ↓reduceIte, Bool.false_eq_true, reduceCtorEq, Option.elim, oI_none, oI_some, bI, Nat.one_ne_zero]
          rw [if_neg (by omega)]
        | false =>
          simp (disch := omega) only [↓km1, ↓km2, ↓km3, ↓km9, l0, l1, l2, l3, l4, l5, l6, l8, l9, l10, l64, l625, nlt0, nltI, nleI, neqI, njrem, ndiv, nI_add, pk_mul, pk_sub, nI_clamp, bnd_some, nne9, nne1, nm1, ↓reduceIte, Bool.false_eq_true, reduceCtorEq, Option.elim, oI_none, oI_some, bI]
          rw [if_neg (by omega)]
      · unfold b_X2_firstFit_9
        simp (disch := omega) only [↓km1, ↓km2, ↓km3, ↓km9, l0, l1, l2, l3, l4, l5, l6, l8, l9, l10, l64, l625, nlt0, nltI, nleI, neqI, njrem, ndiv, nI_add, pk_mul, pk_sub, nI_clamp, bnd_some, nne9, nne1, nm1, ↓reduceIte, Bool.false_eq_true, reduceCtorEq, Option.elim, oI_none, oI_some]
        rw [if_pos (by omega)]
    cases c : srch (fun k => phi n q mo ms (T * n + k)) n 0 with
    | none => exact Or.inr ⟨fun a ha => srch_none c a (Nat.zero_le _) (by omega), by rw [c] at key; exact key⟩
    | some k =>
      obtain ⟨g1, g2, g3, g4⟩ := srch_some c
      exact Or.inl ⟨k, by omega, g3, fun a ha => g4 a (Nat.zero_le _) ha, by rw [c] at key; exact key⟩
  refine lp_E (I := fun z => ∃ T, T ≤ n ∧ z = nI T ∧ ∀ a, a < T * n → phi n q mo ms a = false) (μ := fun z => n - z.toNatClampNeg) _ _ ⟨0, Nat.zero_le _, rfl, fun a ha => by omega⟩ (by show n - _ < _; omega) (fun z hz => ?_)
  obtain ⟨T, hT, rfl, hno⟩ := hz
  unfold b_X2_firstFit_2
  by_cases c : n ≤ T
  · right
    have e : T = n := by omega
    subst e
    rw [srch_no (fun a _ ha => hno a (by omega))]
    rw [if_pos (by rw [nleI (by omega) (by omega)]; omega)]
    rfl
  · rw [if_neg (by rw [nleI (by omega) (by omega)]; omega)]
    have hlt : T * n + n ≤ n * n := by
      have := Nat.mul_le_mul_right n (show T + 1 ≤ n by omega)
      rw [Nat.add_mul, Nat.one_mul] at this
      exact this
    rcases inner T (by omega) with ⟨k, h1, h2, h3, h4⟩ | ⟨h1, h2⟩
    · right
      rw [srch_is (j := T * n + k) (Nat.zero_le _) (by omega) h2 (fun a _ ha => if q : a < T * n then hno a q else by have := h3 (a - T * n) (by omega); rw [show T * n + (a - T * n) = a by omega] at this; exact this), h4]
      show _ = some (Sum.inr (f10 n (T * n + k)))
      unfold f10
      rw [Nat.mul_comm T n, Nat.mul_add_div (by omega), Nat.div_eq_of_lt h1, Nat.mul_add_mod, Nat.mod_eq_of_lt h1]
      rfl
    · left
      refine ⟨nI (T + 1), h2, ⟨T + 1, by omega, rfl, fun a ha => ?_⟩, ?_⟩
      · rw [Nat.add_mul, Nat.one_mul] at ha
        by_cases q : a < T * n
        · exact hno a q
        · have := h1 (a - T * n) (by omega)
          rw [show T * n + (a - T * n) = a by omega] at this
          exact this
      · rw [nI_clamp (by omega), nI_clamp (by omega)]
        omega
