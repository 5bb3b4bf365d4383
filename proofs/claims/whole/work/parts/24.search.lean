/-! ===== searches ===== -/
/-- the first place, of m from i on, where p holds -/
def srch (p : Nat → Bool) : Nat → Nat → Option Nat
  | 0, _ => none
  | m + 1, i => if p i then some i else srch p m (i + 1)
theorem srch_some {p : Nat → Bool} : ∀ {m i j : Nat}, srch p m i = some j → i ≤ j ∧ j < i + m ∧ p j = true ∧ ∀ a, i ≤ a → a < j → p a = false
  | 0, i, j, h => by cases h
  | m + 1, i, j, h => by
    unfold srch at h
    by_cases c : p i
    · rw [if_pos c] at h
      cases h
      exact ⟨Nat.le_refl _, by omega, c, fun a h1 h2 => by omega⟩
    · rw [if_neg c] at h
      obtain ⟨h1, h2, h3, h4⟩ := srch_some h
      refine ⟨by omega, by omega, h3, fun a ha hj => ?_⟩
      by_cases e : a = i
      · subst e; simpa using c
      · exact h4 a (by omega) hj
theorem srch_none {p : Nat → Bool} : ∀ {m i : Nat}, srch p m i = none → ∀ a, i ≤ a → a < i + m → p a = false
  | 0, i, _, a, h1, h2 => by omega
  | m + 1, i, h, a, h1, h2 => by
    unfold srch at h
    by_cases c : p i
    · rw [if_pos c] at h; cases h
    · rw [if_neg c] at h
      by_cases e : a = i
      · subst e; simpa using c
      · exact srch_none h a (by omega) (by omega)
theorem srch_is {p : Nat → Bool} {m i j : Nat} (h1 : i ≤ j) (h2 : j < i + m) (h3 : p j = true) (h4 : ∀ a, i ≤ a → a < j → p a = false) : srch p m i = some j := by
  cases h : srch p m i with
  | none => exact absurd (srch_none h j h1 h2) (by rw [h3]; decide)
  | some k =>
    obtain ⟨g1, g2, g3, g4⟩ := srch_some h
    rcases Nat.lt_trichotomy k j with q | q | q
    · exact absurd (h4 k g1 q) (by rw [g3]; decide)
    · rw [q]
    · exact absurd (g4 j h1 q) (by rw [h3]; decide)
theorem srch_no {p : Nat → Bool} {m i : Nat} (h : ∀ a, i ≤ a → a < i + m → p a = false) : srch p m i = none := by
  cases e : srch p m i with
  | none => rfl
  | some k =>
    obtain ⟨g1, g2, g3, g4⟩ := srch_some e
    exact absurd (h k g1 g2) (by rw [g3]; decide)
theorem srch_congr {p q : Nat → Bool} {m i : Nat} (h : ∀ a, i ≤ a → a < i + m → p a = q a) : srch p m i = srch q m i := by
  cases e : srch q m i with
  | none => exact srch_no (fun a h1 h2 => by rw [h a h1 h2]; exact srch_none e a h1 h2)
  | some k =>
    obtain ⟨g1, g2, g3, g4⟩ := srch_some e
    exact srch_is g1 g2 (by rw [h k g1 g2]; exact g3) (fun a h1 h2 => by rw [h a h1 (by omega)]; exact g4 a h1 h2)
/-- a longer search finds no more, if what it finds is found by the shorter one too -/
theorem srch_ext {p : Nat → Bool} {m m' i : Nat} (hm : m ≤ m') (h : ∀ j, i ≤ j → j < i + m' → p j = true → ∃ a, i ≤ a ∧ a < i + m ∧ p a = true) : srch p m' i = srch p m i := by
  cases e : srch p m i with
  | none =>
    refine srch_no (fun a h1 h2 => ?_)
    cases c : p a with
    | false => rfl
    | true =>
      obtain ⟨x, g1, g2, g3⟩ := h a h1 h2 c
      exact absurd (srch_none e x g1 g2) (by rw [g3]; decide)
  | some k =>
    obtain ⟨g1, g2, g3, g4⟩ := srch_some e
    exact srch_is g1 (by omega) g3 g4
theorem srch_shift {p : Nat → Bool} : ∀ {m i c : Nat}, srch (fun a => p (a + c)) m i = (srch p m (i + c)).map (· - c)
  | 0, _, _ => rfl
  | m + 1, i, c => by
    unfold srch
    by_cases h : p (i + c)
    · rw [if_pos h, if_pos h]; simp
    · rw [if_neg h, if_neg h, srch_shift, show i + 1 + c = i + c + 1 by omega]
/-- a loop that searches -/
theorem lp_srch {σ T : Type} {B : σ → Option (σ ⊕ T)} (st : Nat → σ) (p : Nat → Bool) (r : Nat → T) (rend : T) (e : Nat) (he : e < 30000) (hs : ∀ i, i < e → B (st i) = some (if p i then .inr (r i) else .inl (st (i + 1)))) (hx : B (st e) = some (.inr rend)) : lpF B FU (st 0) = some ((srch p e 0).elim rend r) := by
  cases c : srch p e 0 with
  | none =>
    exact lp_run0 st e rend he (fun i hi => by rw [hs i hi, if_neg (by rw [srch_none c i (by omega) (by omega)]; decide)]) hx
  | some k =>
    obtain ⟨g1, g2, g3, g4⟩ := srch_some c
    exact lp_run0 st k (r k) (by omega) (fun i hi => by rw [hs i (by omega), if_neg (by rw [g4 i (by omega) hi]; decide)]) (by rw [hs k (by omega), if_pos g3])
/-! ===== pigeons ===== -/
theorem php : ∀ (B : Nat) (f : Nat → Nat), (∀ i, i ≤ B → f i < B) → ∃ i j, i < j ∧ j ≤ B ∧ f i = f j
  | 0, f, h => absurd (h 0 (Nat.le_refl 0)) (Nat.not_lt_zero _)
  | B + 1, f, h => by
    by_cases c : ∃ i, i ≤ B ∧ f i = f (B + 1)
    · obtain ⟨i, h1, h2⟩ := c
      exact ⟨i, B + 1, by omega, Nat.le_refl _, h2⟩
    · have hne : ∀ i, i ≤ B → f i ≠ f (B + 1) := fun i hi e => c ⟨i, hi, e⟩
      have hv := h (B + 1) (Nat.le_refl _)
      obtain ⟨i, j, h1, h2, h3⟩ := php B (fun i => if f i = B then f (B + 1) else f i) (fun i hi => by
        have := h i (by omega)
        have := hne i hi
        by_cases e : f i = B
        · rw [if_pos e]; omega
        · rw [if_neg e]; omega)
      refine ⟨i, j, h1, by omega, ?_⟩
      have n1 := hne i (by omega)
      have n2 := hne j h2
      by_cases e1 : f i = B <;> by_cases e2 : f j = B
      · omega
      · rw [if_pos e1, if_neg e2] at h3; exact absurd h3.symm n2
      · rw [if_neg e1, if_pos e2] at h3; exact absurd h3 n1
      · rw [if_neg e1, if_neg e2] at h3; exact h3
/-! ===== iterated ===== -/
def itr {α : Type} (f : α → α) : Nat → α → α
  | 0, k => k
  | m + 1, k => f (itr f m k)
theorem itr_add {α : Type} (f : α → α) (k : α) : ∀ a b, itr f (a + b) k = itr f a (itr f b k)
  | 0, b => by rw [Nat.zero_add]; rfl
  | a + 1, b => by
    rw [show a + 1 + b = (a + b) + 1 by omega]
    show f (itr f (a + b) k) = f (itr f a (itr f b k))
    rw [itr_add f k a b]
theorem itr_lt {f : Nat → Nat} {B k : Nat} (hf : ∀ x, x < B → f x < B) (hk : k < B) : ∀ m, itr f m k < B
  | 0 => hk
  | m + 1 => hf _ (itr_lt hf hk m)
/-- what comes round comes within as many turns as there are books -/
theorem round_in {f : Nat → Nat} {B k : Nat} (hf : ∀ x, x < B → f x < B) (hk : k < B) : ∀ m, 1 ≤ m → itr f m k = k → ∃ a, 1 ≤ a ∧ a < 1 + B ∧ itr f a k = k := by
  intro m
  induction m using Nat.strongRecOn with
  | _ m ih =>
    intro h1 h2
    by_cases c : m < 1 + B
    · exact ⟨m, h1, c, h2⟩
    · obtain ⟨i, j, g1, g2, g3⟩ := php B (fun i => itr f i k) (fun i _ => itr_lt hf hk i)
      refine ih (m - j + i) (by omega) (by omega) ?_
      rw [itr_add, g3, ← itr_add, show m - j + j = m by omega, h2]
/-- in how many copies a book comes round -/
def cmsN (f : Nat → Nat) (N k : Nat) : Option Nat := srch (fun m => itr f m k == k) N 1
def oI (o : Option Nat) : Int32 := o.elim (-9) nI
theorem cms_ext {f : Nat → Nat} {B N k : Nat} (hf : ∀ x, x < B → f x < B) (hk : k < B) (hN : B ≤ N) : cmsN f N k = cmsN f B k := by
  refine srch_ext hN (fun j h1 _ h3 => ?_)
  obtain ⟨a, g1, g2, g3⟩ := round_in hf hk j h1 (by simpa using h3)
  exact ⟨a, g1, g2, by simpa using g3⟩
theorem elim_shift {p : Nat → Bool} {m : Nat} : (srch (fun a => p (a + 1)) m 0).elim (-9 : Int32) (fun i => nI (i + 1)) = oI (srch p m 1) := by
  rw [srch_shift]
  unfold oI
  cases h : srch p m (0 + 1) with
  | none => rfl
  | some k =>
    obtain ⟨g1, -⟩ := srch_some h
    show nI (k - 1 + 1) = nI k
    congr 1
    omega
theorem comesRound_ok {n L S d : Nat} {t b : Nat → Nat} {tu be : Nat → Int32} (h : CH n L S d t b tu be) {s k : Nat} (hs : s < S) (hk : k < n ^ L) : f_X0_comesRound (nI n) (nI L) (nI (n ^ L)) (nI S) tu be (nI s) (nI k) = some (oI (cmsN (cpN n (sy n t b s) L) (n ^ L) k)) := by
  obtain ⟨⟨h1, h2, h3, h4, h5, h6, h7⟩, h8⟩ := id h
  have hB := npow_le (n := n) (L := L) h2 h3
  have hlt := itr_lt (f := cpN n (sy n t b s) L) (B := n ^ L) (fun x _ => cpN_lt (fun y => sy_lt h1) L x) hk
  unfold f_X0_comesRound cmsN
  rw [← elim_shift (p := fun m => itr (cpN n (sy n t b s) L) m k == k)]
  refine lp_srch (st := fun i => (nI (itr (cpN n (sy n t b s) L) i k), nI (i + 1))) _ _ _ (n ^ L) (by omega) (fun i hi => ?_) ?_
  · unfold b_X0_comesRound_5
    have h9 := hlt i
    have h10 := hlt (i + 1)
    dsimp only
    rw [becomes_ok h hs (hlt i)]
    simp (disch := omega) only [↓km1, ↓km2, ↓km3, ↓km9, l0, l1, l2, l3, l4, l5, l6, l8, l9, l10, l64, l625, nlt0, nltI, nleI, neqI, njrem, ndiv, nI_add, pk_mul, pk_sub, nI_clamp, bnd_some, nne9, nne1, nm1]
    rw [if_neg (by omega)]
    rw [show cpN n (sy n t b s) L (itr (cpN n (sy n t b s) L) i k) = itr (cpN n (sy n t b s) L) (i + 1) k from rfl]
    simp (disch := omega) only [↓km1, ↓km2, ↓km3, ↓km9, l0, l1, l2, l3, l4, l5, l6, l8, l9, l10, l64, l625, nlt0, nltI, nleI, neqI, njrem, ndiv, nI_add, pk_mul, pk_sub, nI_clamp, bnd_some, nne9, nne1, nm1]
    by_cases c : itr (cpN n (sy n t b s) L) (i + 1) k = k
    · rw [if_pos c]; simp [c]
    · rw [if_neg c]; simp [c]
  · unfold b_X0_comesRound_5
    simp (disch := omega) only [↓km1, ↓km2, ↓km3, ↓km9, l0, l1, l2, l3, l4, l5, l6, l8, l9, l10, l64, l625, nlt0, nltI, nleI, neqI, njrem, ndiv, nI_add, pk_mul, pk_sub, nI_clamp, bnd_some, nne9, nne1, nm1]
    rw [if_pos (by omega)]
theorem mcomes_ok {n L S d : Nat} {t b : Nat → Nat} {op li sc ne tu be now : Nat → Int32} (h : MH n L S d t b op li sc ne tu be) {s k : Nat} (hs : s < S) (hk : k < n ^ L) (hnow : now 0 = nI k) : f_X9_comes op li tu be now (nI s) = some (oI (cmsN (cpN n (sy n t b s) L) (n ^ L) k)) := by
  obtain ⟨⟨g1, g2, g3, g4, g5, g6, g7⟩, h1, h2, h3, h4, h5⟩ := id h
  have hB := npow_le (n := n) (L := L) g2 g3
  have hlt := itr_lt (f := cpN n (sy n t b s) L) (B := n ^ L) (fun x _ => cpN_lt (fun y => sy_lt g1) L x) hk
  rw [← cms_ext (N := 4000) (fun x _ => cpN_lt (fun y => sy_lt g1) L x) hk (by omega)]
  unfold f_X9_comes cmsN
  rw [← elim_shift (p := fun m => itr (cpN n (sy n t b s) L) m k == k)]
  rw [show ((now (0 : Int32).toNatClampNeg, (1 : Int32)) : Int32 × Int32) = (nI (itr (cpN n (sy n t b s) L) 0 k), nI (0 + 1)) by rw [show now (0 : Int32).toNatClampNeg = nI k from hnow]; rfl]
  refine lp_srch (st := fun i => (nI (itr (cpN n (sy n t b s) L) i k), nI (i + 1))) _ _ _ 4000 (by omega) (fun i hi => ?_) ?_
  · unfold b_X9_comes_9
    have h9 := hlt i
    have h10 := hlt (i + 1)
    dsimp only
    rw [mcopyOf_ok h hs (hlt i)]
    rw [show (4000 : Int32) = nI 4000 from rfl]
    simp (disch := omega) only [↓km1, ↓km2, ↓km3, ↓km9, l0, l1, l2, l3, l4, l5, l6, l8, l9, l10, l64, l625, nlt0, nltI, nleI, neqI, njrem, ndiv, nI_add, pk_mul, pk_sub, nI_clamp, bnd_some, nne9, nne1, nm1, hnow]
    rw [if_neg (by omega)]
    rw [show cpN n (sy n t b s) L (itr (cpN n (sy n t b s) L) i k) = itr (cpN n (sy n t b s) L) (i + 1) k from rfl]
    simp (disch := omega) only [↓km1, ↓km2, ↓km3, ↓km9, l0, l1, l2, l3, l4, l5, l6, l8, l9, l10, l64, l625, nlt0, nltI, nleI, neqI, njrem, ndiv, nI_add, pk_mul, pk_sub, nI_clamp, bnd_some, nne9, nne1, nm1]
    by_cases c : itr (cpN n (sy n t b s) L) (i + 1) k = k
    · rw [if_pos c]; simp [c]
    · rw [if_neg c]; simp [c]
  · unfold b_X9_comes_9
    rw [show (4000 : Int32) = nI 4000 from rfl]
    simp (disch := omega) only [↓km1, ↓km2, ↓km3, ↓km9, l0, l1, l2, l3, l4, l5, l6, l8, l9, l10, l64, l625, nlt0, nltI, nleI, neqI, njrem, ndiv, nI_add, pk_mul, pk_sub, nI_clamp, bnd_some, nne9, nne1, nm1]
    rw [if_pos (by omega)]
