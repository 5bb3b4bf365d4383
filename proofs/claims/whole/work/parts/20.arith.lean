/-! ===== loops of the pure functions: what they come to ===== -/
theorem lpF_s {σ T : Type} (B : σ → Option (σ ⊕ T)) (n : Nat) (s : σ) : lpF B (n + 1) s = (B s).bind (fun y => Sum.elim (lpF B n) some y) := rfl
theorem lpF_l {σ T : Type} {B : σ → Option (σ ⊕ T)} {n : Nat} {s s' : σ} (h : B s = some (.inl s')) : lpF B (n + 1) s = lpF B n s' := by rw [lpF_s, h]; rfl
theorem lpF_r {σ T : Type} {B : σ → Option (σ ⊕ T)} {n : Nat} {s : σ} {t : T} (h : B s = some (.inr t)) : lpF B (n + 1) s = some t := by rw [lpF_s, h]; rfl
/-- a loop with an invariant and a measure -/
theorem lp_I {σ T : Type} {B : σ → Option (σ ⊕ T)} (I : σ → Prop) (μ : σ → Nat) (P : T → Prop) (hs : ∀ s, I s → (∃ s', B s = some (.inl s') ∧ I s' ∧ μ s' < μ s) ∨ (∃ t, B s = some (.inr t) ∧ P t)) : ∀ (n : Nat) (s : σ), I s → μ s < n → ∃ t, lpF B n s = some t ∧ P t := by
  intro n
  induction n with
  | zero => intro s _ h; omega
  | succ n ih =>
    intro s hI hm
    rcases hs s hI with ⟨s', h1, h2, h3⟩ | ⟨t, h1, h2⟩
    · rw [lpF_l h1]
      exact ih s' h2 (by omega)
    · exact ⟨t, lpF_r h1, h2⟩
/-- a loop whose turns are given by a row of states -/
theorem lp_run {σ T : Type} {B : σ → Option (σ ⊕ T)} (st : Nat → σ) (e : Nat) (r : T) (hs : ∀ i, i < e → B (st i) = some (.inl (st (i + 1)))) (hx : B (st e) = some (.inr r)) : ∀ (i n : Nat), i ≤ e → e - i < n → lpF B n (st i) = some r := by
  intro i n
  induction n generalizing i with
  | zero => intro _ h; omega
  | succ n ih =>
    intro hi hn
    by_cases h : i = e
    · subst h; exact lpF_r hx
    · rw [lpF_l (hs i (by omega))]
      exact ih (i + 1) (by omega) (by omega)
theorem lp_run0 {σ T : Type} {B : σ → Option (σ ⊕ T)} (st : Nat → σ) (e : Nat) (r : T) (he : e < 30000) (hs : ∀ i, i < e → B (st i) = some (.inl (st (i + 1)))) (hx : B (st e) = some (.inr r)) : lpF B FU (st 0) = some r := lp_run st e r hs hx 0 FU (Nat.zero_le _) (by show e - 0 < 30000; omega)
theorem lp_IU {σ T : Type} {B : σ → Option (σ ⊕ T)} (I : σ → Prop) (μ : σ → Nat) (P : T → Prop) (hs : ∀ s, I s → (∃ s', B s = some (.inl s') ∧ I s' ∧ μ s' < μ s) ∨ (∃ t, B s = some (.inr t) ∧ P t)) (s : σ) (hI : I s) (hm : μ s < 30000) : ∃ t, lpF B FU s = some t ∧ P t := lp_I I μ P hs FU s hI hm
theorem lp_E {σ T : Type} {B : σ → Option (σ ⊕ T)} (I : σ → Prop) (μ : σ → Nat) (r : T) (s : σ) (hI : I s) (hm : μ s < 30000) (hs : ∀ s, I s → (∃ s', B s = some (.inl s') ∧ I s' ∧ μ s' < μ s) ∨ B s = some (.inr r)) : lpF B FU s = some r := by
  obtain ⟨t, h1, h2⟩ := lp_IU I μ (fun t => t = r) (fun s h => (hs s h).elim Or.inl (fun h => Or.inr ⟨r, h, rfl⟩)) s hI hm
  rw [h1, h2]
/-! ===== numbers ===== -/
theorem l0 : (0 : Int32) = nI 0 := rfl
theorem l1 : (1 : Int32) = nI 1 := rfl
theorem l2 : (2 : Int32) = nI 2 := rfl
theorem l3 : (3 : Int32) = nI 3 := rfl
theorem l4 : (4 : Int32) = nI 4 := rfl
theorem l5 : (5 : Int32) = nI 5 := rfl
theorem l6 : (6 : Int32) = nI 6 := rfl
theorem l8 : (8 : Int32) = nI 8 := rfl
theorem l9 : (9 : Int32) = nI 9 := rfl
theorem l10 : (10 : Int32) = nI 10 := rfl
theorem l64 : (64 : Int32) = nI 64 := rfl
theorem l625 : (625 : Int32) = nI 625 := rfl
def jm1 : Int32 := -1
def jm2 : Int32 := -2
def jm3 : Int32 := -3
def jm9 : Int32 := -9
theorem km1 : (-1 : Int32) = jm1 := rfl
theorem km2 : (-2 : Int32) = jm2 := rfl
theorem km3 : (-3 : Int32) = jm3 := rfl
theorem km9 : (-9 : Int32) = jm9 := rfl
theorem nm1 (x : Int32) : x + jm1 = x - nI 1 := (Int32.sub_eq_add_neg _ _).symm
theorem nlt0 {a : Nat} (h : a < 2 ^ 31) : (nI a < nI 0) = False := eq_false (nI_pos h)
theorem nltI {a b : Nat} (ha : a < 2 ^ 31) (hb : b < 2 ^ 31) : (nI a < nI b) = (a < b) := propext (nI_ltI ha hb)
theorem nleI {a b : Nat} (ha : a < 2 ^ 31) (hb : b < 2 ^ 31) : (nI a ≤ nI b) = (a ≤ b) := propext (nI_leI ha hb)
theorem neqI {a b : Nat} (ha : a < 2 ^ 31) (hb : b < 2 ^ 31) : (nI a = nI b) = (a = b) := propext (nI_eq ha hb)
theorem njrem {a d : Nat} (ha : a < 2 ^ 31) (h0 : 0 < d) (hd : d < 2 ^ 31) : jrem (nI a) (nI d) = nI (a % d) := pk_rem ha h0 hd
theorem ndiv {a d : Nat} (ha : a < 2 ^ 31) (h0 : 0 < d) (hd : d < 2 ^ 31) : nI a / nI d = nI (a / d) := pk_div ha h0 hd
theorem nneg {a : Nat} (h : a < 2 ^ 30) {x : Int32} {k : Nat} (hx : x.toInt = -(k : Int)) (hk : 0 < k) : (nI a = x) = False := by
  apply eq_false
  intro e
  have h1 := congrArg Int32.toInt e
  rw [nI_toInt (by omega), hx] at h1
  omega
theorem nne9 {a : Nat} (h : a < 2 ^ 30) : (nI a = jm9) = False := nneg h (k := 9) (by decide) (by decide)
theorem nne1 {a : Nat} (h : a < 2 ^ 30) : (nI a = jm1) = False := nneg h (k := 1) (by decide) (by decide)
theorem nlt9 {a : Nat} (h : a < 2 ^ 30) : (jm9 < nI a) = True := by
  apply eq_true
  rw [Int32.lt_iff_toInt_lt, nI_toInt (by omega)]
  have : jm9.toInt = -9 := by decide
  omega
theorem nle1 {a : Nat} (h : a < 2 ^ 30) : (nI a ≤ jm1) = False := by
  apply eq_false
  rw [Int32.le_iff_toInt_le, nI_toInt (by omega)]
  have : jm1.toInt = -1 := by decide
  omega
theorem nsh31 : ∀ k, k < 32 → ((nI k &&& 31).toBitVec.smod 32).toNat = k := by decide
theorem njshr {a k : Nat} (ha : a < 2 ^ 31) (hk : k < 32) : jshr (nI a) (nI k) = nI (a / 2 ^ k) := pk_shrN ha _ k (nsh31 k hk)
theorem njshl {a k : Nat} (hk : k < 32) (h : a * 2 ^ k < 2 ^ 32) : jshl (nI a) (nI k) = nI (a * 2 ^ k) := pk_shlN _ k (nsh31 k hk) h
theorem nand1 {a : Nat} (h : a < 2 ^ 32) : nI a &&& nI 1 = nI (a % 2) := by
  have := pk_andN h (m := 1) 1 (by decide)
  rw [show nI 1 = (1 : Int32) from rfl, this]
theorem nor (a b : Nat) : nI a ||| nI b = nI (a ||| b) := by
  apply Int32.toBitVec_inj.mp
  rw [Int32.toBitVec_or]
  show BitVec.ofNat 32 a ||| BitVec.ofNat 32 b = BitVec.ofNat 32 (a ||| b)
  apply BitVec.eq_of_toNat_eq
  simp [Nat.or_mod_two_pow]
theorem nand (a b : Nat) : nI a &&& nI b = nI (a &&& b) := by
  apply Int32.toBitVec_inj.mp
  rw [Int32.toBitVec_and]
  show BitVec.ofNat 32 a &&& BitVec.ofNat 32 b = BitVec.ofNat 32 (a &&& b)
  apply BitVec.eq_of_toNat_eq
  simp [Nat.and_mod_two_pow]
theorem nxor (a b : Nat) : nI a ^^^ nI b = nI (a ^^^ b) := by
  apply Int32.toBitVec_inj.mp
  rw [Int32.toBitVec_xor]
  show BitVec.ofNat 32 a ^^^ BitVec.ofNat 32 b = BitVec.ofNat 32 (a ^^^ b)
  apply BitVec.eq_of_toNat_eq
  simp [Nat.xor_mod_two_pow]
theorem bnd_some {α β : Type} {a : α} {f : α → Option β} : (some a).bind f = f a := rfl
theorem gIx {k n : Nat} (hk : k < n) (hn : n < 2 ^ 31) : (nI k < nI 0 ∨ n ≤ (nI k).toNatClampNeg) = False := by
  rw [nlt0 (by omega), nI_clamp (by omega)]
  simp; omega
/-! ===== counting bits: six are enough ===== -/
def pc (x : Nat) : Nat := x % 2 + x / 2 % 2 + x / 4 % 2 + x / 8 % 2 + x / 16 % 2 + x / 32 % 2
theorem bitCount_ok : ∀ x, x < 64 → f_J6_bitCount_0f7a4 (nI x) = some (nI (pc x)) := by decide +kernel
theorem manyOf_ok : ∀ x, x < 64 → f_X9_manyOf (nI x) = some (nI (pc x)) := by decide +kernel
theorem pc_le {x : Nat} : pc x ≤ 6 := by unfold pc; omega
