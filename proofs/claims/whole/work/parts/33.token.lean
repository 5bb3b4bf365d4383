/-! ===== the text and its tokens ===== -/
def ch (len : Nat) (tx : Nat → Nat) (i : Nat) : Int32 := if i < len then nI (tx i) else -1
def TXC (len : Nat) (tx : Nat → Nat) (rt : Nat → Int32) : Prop := len ≤ 120 ∧ ∀ i, i < len → tx i < 256 ∧ rt i = nI (tx i)
def TXM (len : Nat) (tx : Nat → Nat) (text : Nat → Int32) : Prop := len ≤ 120 ∧ ∀ i, i < len → tx i < 256 ∧ text i &&& (255 : Int32) = nI (tx i)
theorem ch_in {len : Nat} {tx : Nat → Nat} {i : Nat} (h : i < len) : ch len tx i = nI (tx i) := if_pos h
theorem ch_out {len : Nat} {tx : Nat → Nat} {i : Nat} (h : len ≤ i) : ch len tx i = -1 := if_neg (by omega)
theorem byteAt_ok {len i : Nat} {tx : Nat → Nat} {rt : Nat → Int32} (h : TXC len tx rt) (hi : i ≤ 1000) : f_X4_byteAt (nI len) rt (nI i) = some (ch len tx i) := by
  obtain ⟨h1, h2⟩ := h
  unfold f_X4_byteAt
  rw [if_neg (by rw [l0, nlt0 (by omega)]; exact id)]
  by_cases c : len ≤ i
  · rw [if_pos (by rw [nleI (by omega) (by omega)]; exact c), ch_out c]
  · rw [if_neg (by rw [nleI (by omega) (by omega)]; exact c), if_neg (by rw [l120, nleI (by omega) (by omega)]; omega), if_neg (gN (by omega) (by omega)), nI_clamp (by omega), (h2 i (by omega)).2, ch_in (by omega)]
theorem here_ok {len i : Nat} {tx : Nat → Nat} {text : Nat → Int32} (h : TXM len tx text) (hi : i ≤ 1000) : f_X9_here (nI len) (nI i) text = some (ch len tx i) := by
  obtain ⟨h1, h2⟩ := h
  unfold f_X9_here
  by_cases c : len ≤ i
  · rw [if_pos (by rw [nleI (by omega) (by omega)]; exact c), ch_out c]
  · rw [if_neg (by rw [nleI (by omega) (by omega)]; exact c), if_neg (gN (by omega) (by omega)), nI_clamp (by omega), (h2 i (by omega)).2, ch_in (by omega)]
def isL (c : Int32) : Bool := decide ((97 : Int32) ≤ c) && decide (c ≤ (122 : Int32))
def isF (c : Int32) : Bool := decide ((48 : Int32) ≤ c) && decide (c ≤ (57 : Int32))
theorem isLetter_ok (c : Int32) : f_X4_isLetter c = some (bI (isL c)) := by
  have := in_ok (x := c) (lo := 97) (hi := 122)
  exact this
theorem isFigure_ok (c : Int32) : f_X4_isFigure c = some (bI (isF c)) := by
  have := in_ok (x := c) (lo := 48) (hi := 57)
  exact this
theorem inL_ok (c : Int32) : f_X9_in c (97 : Int32) (122 : Int32) = some (bI (isL c)) := in_ok
theorem inF_ok (c : Int32) : f_X9_in c (48 : Int32) (57 : Int32) = some (bI (isF c)) := in_ok
theorem gap_ex {len : Nat} {tx : Nat → Nat} (P : Int32 → Bool) (hP : P (-1) = false) : ∀ (m e : Nat), e + m = len → ∃ p, e ≤ p ∧ p ≤ len ∧ (∀ j, e ≤ j → j < p → P (ch len tx j) = true) ∧ P (ch len tx p) = false
  | 0, e, h => ⟨e, Nat.le_refl _, by omega, fun j h1 h2 => by omega, by rw [ch_out (by omega)]; exact hP⟩
  | m + 1, e, h => by
    cases c : P (ch len tx e) with
    | false => exact ⟨e, Nat.le_refl _, by omega, fun j h1 h2 => by omega, c⟩
    | true =>
      obtain ⟨p, h1, h2, h3, h4⟩ := gap_ex (len := len) (tx := tx) P hP m (e + 1) (by omega)
      refine ⟨p, by omega, h2, fun j g1 g2 => ?_, h4⟩
      by_cases q : j = e
      · subst q; exact c
      · exact h3 j (by omega) g2
theorem ch_lt {len : Nat} {tx : Nat → Nat} {P : Int32 → Bool} {j : Nat} (hP : P (-1) = false) (h : P (ch len tx j) = true) : j < len := by
  rcases Nat.lt_or_ge j len with q | q
  · exact q
  · rw [ch_out q, hP] at h; cases h
theorem isL_1 : isL (-1) = false := by decide
theorem isF_1 : isF (-1) = false := by decide
theorem isF_v : ∀ v, v < 256 → isF (nI v) = true → 48 ≤ v ∧ v ≤ 57 := by decide +kernel
theorem isL_v : ∀ v, v < 256 → isL (nI v) = true → 97 ≤ v ∧ v ≤ 122 := by decide +kernel
/-! a word of letters -/
theorem readLetters_ok {len p e : Nat} {tx : Nat → Nat} {rt : Nat → Int32} (h : TXC len tx rt) (hpe : p ≤ e) (he : e ≤ len) (hin : ∀ j, p ≤ j → j < e → isL (ch len tx j) = true) (hout : isL (ch len tx e) = false) : f_X4_readLetters (nI len) (nI p) (nI p) rt = some (nI e, (1 : Int32), if e - p = 1 then ch len tx p else 0) := by
  have hl := h.1
  unfold f_X4_readLetters
  have e0 : nI p = nI (p + 0) := rfl
  conv => lhs; rhs; rw [e0]
  refine lp_run0 (st := fun i => nI (p + i)) (e - p) _ (by omega) (fun i hi => ?_) ?_
  · unfold b_X4_readLetters_0
    have c1 := hin (p + i) (by omega) (by omega)
    have := ch_lt isL_1 c1
    rw [if_neg (by rw [nleI (by omega) (by omega)]; omega), byteAt_ok h (by omega), bnd_some, isLetter_ok, bnd_some, c1, if_neg (by decide), n1]
    rfl
  · unfold b_X4_readLetters_0
    rw [show p + (e - p) = e by omega, byteAt_ok h (by omega), byteAt_ok h (by omega), bnd_some, bnd_some, isLetter_ok, bnd_some, hout, if_pos bIf, show nI e - nI p = nI (e - p) from pk_sub hpe, ite_self]
    by_cases c : e - p = 1
    · rw [if_pos c, if_pos (by rw [c]; rfl)]
    · rw [if_neg c, if_neg (by rw [l1, neqI (by omega) (by omega)]; exact c)]
theorem step63_ok {len p e : Nat} {tx : Nat → Nat} {text : Nat → Int32} (h : TXM len tx text) (hpe : p ≤ e) (he : e ≤ len) (hin : ∀ j, p ≤ j → j < e → isL (ch len tx j) = true) (hout : isL (ch len tx e) = false) (c v : Int32) : lpF (b_X9_step_63 (nI len) (nI p) v text c) FU (nI p) = some (nI e, nI p, (if e - p = 1 then c else 4), v) := by
  have hl := h.1
  have e0 : nI p = nI (p + 0) := rfl
  conv => lhs; rhs; rw [e0]
  refine lp_run0 (st := fun i => nI (p + i)) (e - p) _ (by omega) (fun i hi => ?_) ?_
  · unfold b_X9_step_63
    have c1 := hin (p + i) (by omega) (by omega)
    have := ch_lt isL_1 c1
    rw [here_ok h (by omega), bnd_some, inL_ok, bnd_some, c1, if_neg (by decide), n1]
    rfl
  · unfold b_X9_step_63
    rw [show p + (e - p) = e by omega, here_ok h (by omega), bnd_some, inL_ok, bnd_some, hout, if_pos bIf, show nI e - nI p = nI (e - p) from pk_sub hpe]
    by_cases q : e - p = 1
    · rw [if_pos q, if_pos (by rw [q]; rfl)]
    · rw [if_neg q, if_neg (by rw [l1, neqI (by omega) (by omega)]; exact q)]
/-! a number -/
def vlF (tx : Nat → Nat) (p : Nat) : Nat → Nat
  | 0 => 0
  | i + 1 => if 99 < vlF tx p i then vlF tx p i else 10 * vlF tx p i + (tx (p + i) - 48)
def zA (p e v : Nat) (c : Int32) : Prop := 99 < v ∨ (c = 48 ∧ 1 < e - p)
theorem vlF_le {tx : Nat → Nat} {p m : Nat} (h : ∀ i, i < m → tx (p + i) ≤ 57) : ∀ i, i ≤ m → vlF tx p i ≤ 999
  | 0, _ => Nat.zero_le _
  | i + 1, hi => by
    have := vlF_le h i (by omega)
    have := h i (by omega)
    unfold vlF
    by_cases c : 99 < vlF tx p i
    · rw [if_pos c]; omega
    · rw [if_neg c]; omega
theorem fig_in {len p e : Nat} {tx : Nat → Nat} {rt : Nat → Int32} (h : TXC len tx rt) (hin : ∀ j, p ≤ j → j < e → isF (ch len tx j) = true) : ∀ j, p ≤ j → j < e → j < len ∧ 48 ≤ tx j ∧ tx j ≤ 57 := by
  intro j h1 h2
  have c1 := hin j h1 h2
  have c2 := ch_lt isF_1 c1
  rw [ch_in c2] at c1
  exact ⟨c2, isF_v _ (h.2 j c2).1 c1⟩
theorem readFigures_ok {len p e : Nat} {tx : Nat → Nat} {rt : Nat → Int32} (h : TXC len tx rt) (hpe : p ≤ e) (he : e ≤ len) (hin : ∀ j, p ≤ j → j < e → isF (ch len tx j) = true) (hout : isF (ch len tx e) = false) : ∃ s, f_X4_readFigures (nI len) (nI p) (nI p) rt = some (nI e, s, nI (min (vlF tx p (e - p)) 100)) ∧ ((zA p e (vlF tx p (e - p)) (ch len tx p) ∧ s = 4) ∨ (¬ zA p e (vlF tx p (e - p)) (ch len tx p) ∧ s = 2)) := by
  have hl := h.1
  have hd := fig_in h hin
  have hv := vlF_le (tx := tx) (p := p) (m := e - p) (fun i hi => (hd (p + i) (by omega) (by omega)).2.2)
  unfold f_X4_readFigures
  have go : ∀ s, b_X4_readFigures_5 (nI len) (nI p) rt (nI e, nI (min (vlF tx p (e - p)) 100)) = some (.inr (nI e, s, nI (min (vlF tx p (e - p)) 100))) → lpF (b_X4_readFigures_5 (nI len) (nI p) rt) FU (nI p, (0 : Int32)) = some (nI e, s, nI (min (vlF tx p (e - p)) 100)) := by
    intro s hs
    refine lp_run0 (st := fun i => (nI (p + i), nI (min (vlF tx p i) 100))) (e - p) _ (by omega) (fun i hi => ?_) (by rw [show p + (e - p) = e by omega]; exact hs)
    unfold b_X4_readFigures_5
    have c1 := hin (p + i) (by omega) (by omega)
    obtain ⟨d1, d2, d3⟩ := hd (p + i) (by omega) (by omega)
    have hvi := hv i (by omega)
    dsimp only
    rw [if_neg (by rw [nleI (by omega) (by omega)]; omega), byteAt_ok h (by omega), bnd_some, isFigure_ok, bnd_some, c1, if_neg (by decide), bnd_some, n1, ch_in d1]
    rw [show nI (min (vlF tx p i) 100) * (10 : Int32) + nI (tx (p + i)) - (48 : Int32) = nI (min (vlF tx p i) 100 * 10 + tx (p + i) - 48) by rw [l10, l48, pk_mul, nI_add, pk_sub (by omega)]]
    rw [show vlF tx p (i + 1) = if 99 < vlF tx p i then vlF tx p i else 10 * vlF tx p i + (tx (p + i) - 48) from rfl]
    by_cases q : 99 < vlF tx p i
    · rw [if_pos q, show min (vlF tx p i) 100 = 100 by omega, if_pos (by rw [l100, nltI (by omega) (by omega)]; omega)]
      rfl
    · rw [if_neg q, show min (vlF tx p i) 100 = vlF tx p i by omega]
      by_cases q2 : 100 < vlF tx p i * 10 + tx (p + i) - 48
      · rw [if_pos (by rw [l100, nltI (by omega) (by omega)]; omega), show min (10 * vlF tx p i + (tx (p + i) - 48)) 100 = 100 by omega]
        rfl
      · rw [if_neg (by rw [l100, nltI (by omega) (by omega)]; omega), show min (10 * vlF tx p i + (tx (p + i) - 48)) 100 = vlF tx p i * 10 + tx (p + i) - 48 by omega]
        rfl
  have hvl := hv (e - p) (Nat.le_refl _)
  have key : ∀ s, ((zA p e (vlF tx p (e - p)) (ch len tx p) ∧ s = 4) ∨ (¬ zA p e (vlF tx p (e - p)) (ch len tx p) ∧ s = 2)) → b_X4_readFigures_5 (nI len) (nI p) rt (nI e, nI (min (vlF tx p (e - p)) 100)) = some (.inr (nI e, s, nI (min (vlF tx p (e - p)) 100))) := by
    intro s hs
    unfold b_X4_readFigures_5
    dsimp only
    rw [byteAt_ok h (by omega), byteAt_ok h (by omega), bnd_some, bnd_some, isFigure_ok, bnd_some, hout, if_pos bIf, show nI e - nI p = nI (e - p) from pk_sub hpe, ite_self]
    by_cases c1 : e - p ≤ 1
    · rw [if_pos (by rw [l1, nleI (by omega) (by omega)]; exact c1)]
      by_cases c2 : 99 < vlF tx p (e - p)
      · rw [if_neg (by rw [l99, nleI (by omega) (by omega)]; omega)]
        rcases hs with ⟨-, rfl⟩ | ⟨hz, -⟩
        · rfl
        · exact absurd (Or.inl c2) hz
      · rw [if_pos (by rw [l99, nleI (by omega) (by omega)]; omega)]
        rcases hs with ⟨hz, -⟩ | ⟨-, rfl⟩
        · rcases hz with hz | hz
          · exact absurd hz c2
          · omega
        · rfl
    · rw [if_neg (by rw [l1, nleI (by omega) (by omega)]; exact c1)]
      by_cases c3 : ch len tx p = 48
      · rw [if_pos c3]
        rcases hs with ⟨-, rfl⟩ | ⟨hz, -⟩
        · rfl
        · exact absurd (Or.inr ⟨c3, by omega⟩) hz
      · rw [if_neg c3]
        by_cases c2 : 99 < vlF tx p (e - p)
        · rw [if_neg (by rw [l99, nleI (by omega) (by omega)]; omega)]
          rcases hs with ⟨-, rfl⟩ | ⟨hz, -⟩
          · rfl
          · exact absurd (Or.inl c2) hz
        · rw [if_pos (by rw [l99, nleI (by omega) (by omega)]; omega)]
          rcases hs with ⟨hz, -⟩ | ⟨-, rfl⟩
          · rcases hz with hz | hz
            · exact absurd hz c2
            · exact absurd hz.1 c3
          · rfl
  by_cases z : zA p e (vlF tx p (e - p)) (ch len tx p)
  · exact ⟨4, go 4 (key 4 (Or.inl ⟨z, rfl⟩)), Or.inl ⟨z, rfl⟩⟩
  · exact ⟨2, go 2 (key 2 (Or.inr ⟨z, rfl⟩)), Or.inr ⟨z, rfl⟩⟩
theorem step126_ok {len p e : Nat} {tx : Nat → Nat} {rt text : Nat → Int32} (hc : TXC len tx rt) (h : TXM len tx text) (hpe : p ≤ e) (he : e ≤ len) (hin : ∀ j, p ≤ j → j < e → isF (ch len tx j) = true) (hout : isF (ch len tx e) = false) : ∃ s, lpF (b_X9_step_126 (nI len) (nI p) text (ch len tx p)) FU (nI p, (0 : Int32)) = some (nI e, nI p, s, nI (vlF tx p (e - p))) ∧ ((zA p e (vlF tx p (e - p)) (ch len tx p) ∧ s = 4) ∨ (¬ zA p e (vlF tx p (e - p)) (ch len tx p) ∧ s = 1)) := by
  have hl := h.1
  have hd := fig_in hc hin
  have hv := vlF_le (tx := tx) (p := p) (m := e - p) (fun i hi => (hd (p + i) (by omega) (by omega)).2.2)
  have go : ∀ s, b_X9_step_126 (nI len) (nI p) text (ch len tx p) (nI e, nI (vlF tx p (e - p))) = some (.inr (nI e, nI p, s, nI (vlF tx p (e - p)))) → lpF (b_X9_step_126 (nI len) (nI p) text (ch len tx p)) FU (nI p, (0 : Int32)) = some (nI e, nI p, s, nI (vlF tx p (e - p))) := by
    intro s hs
    refine lp_run0 (st := fun i => (nI (p + i), nI (vlF tx p i))) (e - p) _ (by omega) (fun i hi => ?_) (by rw [show p + (e - p) = e by omega]; exact hs)
    unfold b_X9_step_126
    have c1 := hin (p + i) (by omega) (by omega)
    obtain ⟨d1, d2, d3⟩ := hd (p + i) (by omega) (by omega)
    have hvi := hv i (by omega)
    dsimp only
    rw [here_ok h (by omega), bnd_some, inF_ok, bnd_some, c1, if_neg (by decide), bnd_some, n1, ch_in d1]
    rw [show (10 : Int32) * nI (vlF tx p i) + nI (tx (p + i)) - (48 : Int32) = nI (10 * vlF tx p i + tx (p + i) - 48) by rw [l10, l48, pk_mul, nI_add, pk_sub (by omega)]]
    rw [show vlF tx p (i + 1) = if 99 < vlF tx p i then vlF tx p i else 10 * vlF tx p i + (tx (p + i) - 48) from rfl]
    by_cases q : 99 < vlF tx p i
    · rw [if_pos q, if_neg (by rw [l99, nleI (by omega) (by omega)]; omega)]
      rfl
    · rw [if_neg q, if_pos (by rw [l99, nleI (by omega) (by omega)]; omega), show 10 * vlF tx p i + tx (p + i) - 48 = 10 * vlF tx p i + (tx (p + i) - 48) by omega]
      rfl
  have hvl := hv (e - p) (Nat.le_refl _)
  have key : ∀ s, ((zA p e (vlF tx p (e - p)) (ch len tx p) ∧ s = 4) ∨ (¬ zA p e (vlF tx p (e - p)) (ch len tx p) ∧ s = 1)) → b_X9_step_126 (nI len) (nI p) text (ch len tx p) (nI e, nI (vlF tx p (e - p))) = some (.inr (nI e, nI p, s, nI (vlF tx p (e - p)))) := by
    intro s hs
    unfold b_X9_step_126
    dsimp only
    rw [here_ok h (by omega), bnd_some, inF_ok, bnd_some, hout, if_pos bIf, show nI e - nI p = nI (e - p) from pk_sub hpe]
    by_cases c2 : 99 < vlF tx p (e - p)
    · rw [if_pos (by rw [l99, nltI (by omega) (by omega)]; omega)]
      rcases hs with ⟨-, rfl⟩ | ⟨hz, -⟩
      · rfl
      · exact absurd (Or.inl c2) hz
    · rw [if_neg (by rw [l99, nltI (by omega) (by omega)]; omega)]
      by_cases c3 : ch len tx p = 48
      · rw [if_pos c3]
        by_cases c1 : e - p ≤ 1
        · rw [if_pos (by rw [l1, nleI (by omega) (by omega)]; exact c1)]
          rcases hs with ⟨hz, -⟩ | ⟨-, rfl⟩
          · rcases hz with hz | hz
            · exact absurd hz c2
            · omega
          · rfl
        · rw [if_neg (by rw [l1, nleI (by omega) (by omega)]; exact c1)]
          rcases hs with ⟨-, rfl⟩ | ⟨hz, -⟩
          · rfl
          · exact absurd (Or.inr ⟨c3, by omega⟩) hz
      · rw [if_neg c3]
        rcases hs with ⟨hz, -⟩ | ⟨-, rfl⟩
        · rcases hz with hz | hz
          · exact absurd hz c2
          · exact absurd hz.1 c3
        · rfl
  by_cases z : zA p e (vlF tx p (e - p)) (ch len tx p)
  · exact ⟨4, go 4 (key 4 (Or.inl ⟨z, rfl⟩)), Or.inl ⟨z, rfl⟩⟩
  · exact ⟨1, go 1 (key 1 (Or.inr ⟨z, rfl⟩)), Or.inr ⟨z, rfl⟩⟩
/-! a token, as both read it: e where the reading begins, p where the token does, r what the reference holds of it -/
def TK (len : Nat) (rt : Nat → Int32) (e p : Nat) (r : Int32 × Int32 × Int32 × Int32) : Prop := p ≤ len ∧ e ≤ p ∧ r.2.1 = nI p ∧
  ((r.2.2.1 = 3 ∧ ∀ val, f_X4_readToken (nI len) (nI e) val rt = some (nI p, nI p, (0 : Int32), val)) ∨
   (∃ v e', e < e' ∧ e' ≤ len ∧ 97 ≤ v ∧ v ≤ 122 ∧ r.1 = nI e' ∧ r.2.2.1 = nI v ∧ ∀ val, f_X4_readToken (nI len) (nI e) val rt = some (nI e', nI p, (1 : Int32), nI v)) ∨
   (∃ v e', e < e' ∧ e' ≤ len ∧ v ≤ 99 ∧ r.1 = nI e' ∧ r.2.2.1 = 1 ∧ r.2.2.2 = nI v ∧ ∀ val, f_X4_readToken (nI len) (nI e) val rt = some (nI e', nI p, (2 : Int32), nI v)) ∨
   (∃ e', e < e' ∧ e' ≤ len ∧ r.1 = nI e' ∧ r.2.2.1 = 2 ∧ ∀ val, f_X4_readToken (nI len) (nI e) val rt = some (nI e', nI p, (3 : Int32), val)) ∨
   (r.2.2.1 = 4 ∧ ∀ val, ∃ nx s w, f_X4_readToken (nI len) (nI e) val rt = some (nx, nI p, s, w) ∧ (s = 4 ∨ (s = 1 ∧ w = 0))))
theorem token_ok {len e : Nat} {tx : Nat → Nat} {rt text : Nat → Int32} (hc : TXC len tx rt) (h : TXM len tx text) (he : e ≤ len) : ∃ p r, f_X9_step (nI len) (nI e) text = some r ∧ TK len rt e p r := by
  have hl := h.1
  obtain ⟨p, h1, h2, h3, h4⟩ := gap_ex (len := len) (tx := tx) (fun c => decide (c = 32)) (by decide) (len - e) e (by omega)
  have sp : ∀ j, e ≤ j → j < p → ch len tx j = 32 ∧ j < len := fun j a b => ⟨by simpa using h3 j a b, ch_lt (P := fun c => decide (c = 32)) (by decide) (h3 j a b)⟩
  have nsp : ¬ ch len tx p = 32 := by simpa using h4
  have goC : ∀ val r, b_X4_readToken_0 (nI len) val rt (nI p) = some (.inr r) → f_X4_readToken (nI len) (nI e) val rt = some r := by
    intro val r hr
    unfold f_X4_readToken
    refine lp_run0 (st := fun i => nI (e + i)) (p - e) _ (by omega) (fun i hi => ?_) (by rw [show e + (p - e) = p by omega]; exact hr)
    unfold b_X4_readToken_0
    obtain ⟨c1, c2⟩ := sp (e + i) (by omega) (by omega)
    rw [if_neg (by rw [nleI (by omega) (by omega)]; omega), byteAt_ok hc (by omega), bnd_some, c1, if_pos rfl, n1]
    rfl
  have goM : ∀ r, b_X9_step_0 (nI len) text (nI p) = some (.inr r) → f_X9_step (nI len) (nI e) text = some r := by
    intro r hr
    unfold f_X9_step
    refine lp_run0 (st := fun i => nI (e + i)) (p - e) _ (by omega) (fun i hi => ?_) (by rw [show e + (p - e) = p by omega]; exact hr)
    unfold b_X9_step_0
    obtain ⟨c1, c2⟩ := sp (e + i) (by omega) (by omega)
    rw [here_ok h (by omega), bnd_some, c1, if_pos rfl, n1]
    rfl
  by_cases cl : len ≤ p
  · -- the end
    have e1 : ch len tx p = -1 := ch_out cl
    refine ⟨p, (nI p, nI p, 3, 0), goM _ ?_, h2, h1, rfl, Or.inl ⟨rfl, fun val => goC _ _ ?_⟩⟩
    · unfold b_X9_step_0
      rw [here_ok h (by omega), bnd_some, e1, if_neg (by decide), bnd_some, if_neg (by decide)]
    · unfold b_X4_readToken_0
      rw [if_pos (by rw [nleI (by omega) (by omega)]; exact cl), byteAt_ok hc (by omega), bnd_some, e1, isLetter_ok, bnd_some, isL_1, if_pos bIf, isFigure_ok, bnd_some, isF_1, if_pos bIf, if_neg (by decide), if_neg (by decide)]
  · have hp : p < len := by omega
    have e1 : ch len tx p = nI (tx p) := ch_in hp
    have tl := (hc.2 p hp).1
    have pos : (0 : Int32) ≤ ch len tx p := by rw [e1, l0, nleI (by omega) (by omega)]; omega
    -- both loops come to the token
    have bodyC : ∀ val, b_X4_readToken_0 (nI len) val rt (nI p) = (if bI (isL (ch len tx p)) = 0 then (if bI (isF (ch len tx p)) = 0 then (if ch len tx p = (59 : Int32) then some (.inr (nI (p + 1), nI p, (3 : Int32), val)) else some (.inr (nI p, nI p, (4 : Int32), val))) else (f_X4_readFigures (nI len) (nI p) (nI p) rt).bind fun q20 => some (.inr (q20.1, nI p, q20.2.1, q20.2.2))) else (f_X4_readLetters (nI len) (nI p) (nI p) rt).bind fun q21 => some (.inr (q21.1, nI p, q21.2.1, q21.2.2))) := by
      intro val
      unfold b_X4_readToken_0
      rw [if_neg (by rw [nleI (by omega) (by omega)]; exact cl), byteAt_ok hc (by omega), bnd_some, if_neg nsp, bnd_some, isLetter_ok, bnd_some, isFigure_ok, bnd_some, n1, if_pos pos]
    have bodyM : b_X9_step_0 (nI len) text (nI p) = (if bI (isL (ch len tx p)) = 0 then (if bI (isF (ch len tx p)) = 0 then (if ch len tx p = (59 : Int32) then some (.inr (nI (p + 1), nI p, (2 : Int32), (0 : Int32))) else some (.inr (nI (p + 1), nI p, (4 : Int32), (0 : Int32)))) else (lpF (b_X9_step_126 (nI len) (nI p) text (ch len tx p)) FU (nI p, (0 : Int32))).bind (fun x => some (.inr x))) else (lpF (b_X9_step_63 (nI len) (nI p) (0 : Int32) text (ch len tx p)) FU (nI p)).bind (fun x => some (.inr x))) := by
      unfold b_X9_step_0
      rw [here_ok h (by omega), bnd_some, if_neg nsp, bnd_some, inL_ok, bnd_some, inF_ok, bnd_some, n1, if_pos pos]
    cases cL : isL (ch len tx p) with
    | true =>
      obtain ⟨e', g1, g2, g3, g4⟩ := gap_ex (len := len) (tx := tx) isL isL_1 (len - p) p (by omega)
      have lt : p < e' := by
        rcases Nat.lt_or_ge p e' with q | q
        · exact q
        · rw [show e' = p by omega, cL] at g4; cases g4
      rw [e1] at cL
      have hv := isL_v _ tl cL
      rw [← e1] at cL
      have hC : ∀ val, f_X4_readToken (nI len) (nI e) val rt = some (nI e', nI p, (1 : Int32), if e' - p = 1 then ch len tx p else 0) := fun val => goC _ _ (by rw [bodyC, cL, if_neg (by decide), readLetters_ok hc g1 g2 g3 g4, bnd_some])
      have hM : f_X9_step (nI len) (nI e) text = some (nI e', nI p, (if e' - p = 1 then ch len tx p else 4), 0) := goM _ (by rw [bodyM, cL, if_neg (by decide), step63_ok h g1 g2 g3 g4, bnd_some])
      by_cases q : e' - p = 1
      · refine ⟨p, _, hM, h2, h1, rfl, Or.inr (Or.inl ⟨tx p, e', by omega, g2, hv.1, hv.2, rfl, ?_, fun val => ?_⟩)⟩
        · dsimp only; rw [if_pos q, e1]
        · rw [hC val, if_pos q, e1]
      · refine ⟨p, _, hM, h2, h1, rfl, Or.inr (Or.inr (Or.inr (Or.inr ⟨?_, fun val => ⟨_, _, _, hC val, Or.inr ⟨rfl, ?_⟩⟩⟩)))⟩
        · dsimp only; rw [if_neg q]
        · rw [if_neg q]
    | false =>
      cases cF : isF (ch len tx p) with
      | true =>
        obtain ⟨e', g1, g2, g3, g4⟩ := gap_ex (len := len) (tx := tx) isF isF_1 (len - p) p (by omega)
        have lt : p < e' := by
          rcases Nat.lt_or_ge p e' with q | q
          · exact q
          · rw [show e' = p by omega, cF] at g4; cases g4
        obtain ⟨s, f1, f2⟩ := readFigures_ok hc g1 g2 g3 g4
        obtain ⟨s', m1, m2⟩ := step126_ok hc h g1 g2 g3 g4
        have hC : ∀ val, f_X4_readToken (nI len) (nI e) val rt = some (nI e', nI p, s, nI (min (vlF tx p (e' - p)) 100)) := fun val => goC _ _ (by rw [bodyC, cL, if_pos bIf, cF, if_neg (by decide), f1, bnd_some])
        have hM : f_X9_step (nI len) (nI e) text = some (nI e', nI p, s', nI (vlF tx p (e' - p))) := goM _ (by rw [bodyM, cL, if_pos bIf, cF, if_neg (by decide), m1, bnd_some])
        rcases f2 with ⟨z, rfl⟩ | ⟨z, rfl⟩
        · rcases m2 with ⟨-, rfl⟩ | ⟨z', -⟩
          · exact ⟨p, _, hM, h2, h1, rfl, Or.inr (Or.inr (Or.inr (Or.inr ⟨rfl, fun val => ⟨_, _, _, hC val, Or.inl rfl⟩⟩)))⟩
          · exact absurd z z'
        · rcases m2 with ⟨z', -⟩ | ⟨-, rfl⟩
          · exact absurd z' z
          · have hv : vlF tx p (e' - p) ≤ 99 := by
              rcases Nat.lt_or_ge 99 (vlF tx p (e' - p)) with q | q
              · exact absurd (Or.inl q) z
              · exact q
            refine ⟨p, _, hM, h2, h1, rfl, Or.inr (Or.inr (Or.inl ⟨vlF tx p (e' - p), e', by omega, g2, hv, rfl, rfl, rfl, fun val => ?_⟩))⟩
            rw [hC val, show min (vlF tx p (e' - p)) 100 = vlF tx p (e' - p) by omega]
      | false =>
        by_cases c9 : ch len tx p = 59
        · have hC : ∀ val, f_X4_readToken (nI len) (nI e) val rt = some (nI (p + 1), nI p, (3 : Int32), val) := fun val => goC _ _ (by rw [bodyC, cL, if_pos bIf, cF, if_pos bIf, if_pos c9])
          have hM : f_X9_step (nI len) (nI e) text = some (nI (p + 1), nI p, (2 : Int32), 0) := goM _ (by rw [bodyM, cL, if_pos bIf, cF, if_pos bIf, if_pos c9])
          exact ⟨p, _, hM, h2, h1, rfl, Or.inr (Or.inr (Or.inr (Or.inl ⟨p + 1, by omega, by omega, rfl, rfl, hC⟩)))⟩
        · have hC : ∀ val, f_X4_readToken (nI len) (nI e) val rt = some (nI p, nI p, (4 : Int32), val) := fun val => goC _ _ (by rw [bodyC, cL, if_pos bIf, cF, if_pos bIf, if_neg c9])
          have hM : f_X9_step (nI len) (nI e) text = some (nI (p + 1), nI p, (4 : Int32), 0) := goM _ (by rw [bodyM, cL, if_pos bIf, cF, if_pos bIf, if_neg c9])
          exact ⟨p, _, hM, h2, h1, rfl, Or.inr (Or.inr (Or.inr (Or.inr ⟨rfl, fun val => ⟨_, _, _, hC val, Or.inl rfl⟩⟩)))⟩
