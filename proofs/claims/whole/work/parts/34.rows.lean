/-! ===== rows of the text: each read on both sides ===== -/
theorem ne_of_nI {a b : Nat} (ha : a < 2 ^ 30) (hb : b < 2 ^ 30) (h : a ≠ b) : ¬ nI a = nI b := by
  rw [neqI (by omega) (by omega)]
  exact h
theorem num_case {len e p : Nat} {rt : Nat → Int32} {r : Int32 × Int32 × Int32 × Int32} (h : TK len rt e p r) : (∃ v e', e < e' ∧ e' ≤ len ∧ v ≤ 99 ∧ r.1 = nI e' ∧ r.2.2.1 = 1 ∧ r.2.2.2 = nI v ∧ ∀ val, f_X4_readToken (nI len) (nI e) val rt = some (nI e', nI p, (2 : Int32), nI v)) ∨ (¬ r.2.2.1 = 1 ∧ ∀ val, ∃ nx s w, f_X4_readToken (nI len) (nI e) val rt = some (nx, nI p, s, w) ∧ ¬ s = 2) := by
  obtain ⟨h1, h2, h3, h4⟩ := h
  rcases h4 with ⟨a, b⟩ | ⟨v, e', a1, a2, a3, a4, a5, a6, a7⟩ | ⟨v, e', a⟩ | ⟨e', a1, a2, a3, a4, a5⟩ | ⟨a, b⟩
  · exact Or.inr ⟨by rw [a]; decide, fun val => ⟨_, _, _, b val, by decide⟩⟩
  · exact Or.inr ⟨by rw [a6]; exact ne_of_nI (b := 1) (by omega) (by omega) (by omega), fun val => ⟨_, _, _, a7 val, by decide⟩⟩
  · exact Or.inl ⟨v, e', a⟩
  · exact Or.inr ⟨by rw [a4]; decide, fun val => ⟨_, _, _, a5 val, by decide⟩⟩
  · refine Or.inr ⟨by rw [a]; decide, fun val => ?_⟩
    obtain ⟨nx, s, w, b1, b2⟩ := b val
    refine ⟨nx, s, w, b1, ?_⟩
    rcases b2 with b2 | ⟨b2, -⟩ <;> rw [b2] <;> decide
theorem stop_case {len e p : Nat} {rt : Nat → Int32} {r : Int32 × Int32 × Int32 × Int32} (h : TK len rt e p r) : (∃ e', e < e' ∧ e' ≤ len ∧ r.1 = nI e' ∧ r.2.2.1 = 2 ∧ ∀ val, f_X4_readToken (nI len) (nI e) val rt = some (nI e', nI p, (3 : Int32), val)) ∨ (¬ r.2.2.1 = 2 ∧ ∀ val, ∃ nx s w, f_X4_readToken (nI len) (nI e) val rt = some (nx, nI p, s, w) ∧ ¬ s = 3) := by
  obtain ⟨h1, h2, h3, h4⟩ := h
  rcases h4 with ⟨a, b⟩ | ⟨v, e', a1, a2, a3, a4, a5, a6, a7⟩ | ⟨v, e', a1, a2, a3, a4, a5, a6, a7⟩ | ⟨e', a⟩ | ⟨a, b⟩
  · exact Or.inr ⟨by rw [a]; decide, fun val => ⟨_, _, _, b val, by decide⟩⟩
  · exact Or.inr ⟨by rw [a6]; exact ne_of_nI (b := 2) (by omega) (by omega) (by omega), fun val => ⟨_, _, _, a7 val, by decide⟩⟩
  · exact Or.inr ⟨by rw [a5]; decide, fun val => ⟨_, _, _, a7 val, by decide⟩⟩
  · exact Or.inl ⟨e', a⟩
  · refine Or.inr ⟨by rw [a]; decide, fun val => ?_⟩
    obtain ⟨nx, s, w, b1, b2⟩ := b val
    refine ⟨nx, s, w, b1, ?_⟩
    rcases b2 with b2 | ⟨b2, -⟩ <;> rw [b2] <;> decide
theorem due_no {len : Nat} {text : Nat → Int32} {a st so va : Int32} : f_X9_due (nI len) a st so va (-9) text 0 = some (va, a, st, so, va, st) := by
  unfold f_X9_due
  rw [if_pos rfl, if_pos rfl]
theorem due_f {len pf : Nat} {text : Nat → Int32} {a st so va x : Int32} (h : pf ≤ 1000) : f_X9_due (nI len) a st so va (nI pf) text x = some (va, a, st, so, va, nI pf) := by
  unfold f_X9_due
  rw [if_neg (by rw [km9, nne9 (by omega)]; exact id)]
theorem due_yes {len e : Nat} {tx : Nat → Nat} {rt text : Nat → Int32} (hc : TXC len tx rt) (hM : TXM len tx text) (he : e ≤ len) {st so va : Int32} : ∃ p r, TK len rt e p r ∧ f_X9_due (nI len) (nI e) st so va (-9) text 1 = some (va, r.1, r.2.1, r.2.2.1, r.2.2.2, -9) := by
  obtain ⟨p, r, h1, h2⟩ := token_ok hc hM he
  refine ⟨p, r, h2, ?_⟩
  unfold f_X9_due
  rw [if_pos rfl, if_neg (by decide), h1, bnd_some]
/-- behind a row: its stop -/
def dueS (len : Nat) (text : Nat → Int32) (a st so va fa : Int32) : Option (Int32 × Int32 × Int32 × Int32 × Int32 × Int32) := f_X9_due (nI len) a st so va fa text (if so = 2 then 1 else 0)
def AR (len : Nat) (rt text : Nat → Int32) (e : Nat) (a st so va fa ok nx pl : Int32) : Prop := (∃ e2 p2 r2, e < e2 ∧ e2 ≤ len ∧ TK len rt e2 p2 r2 ∧ dueS len text a st so va fa = some (va, r2.1, r2.2.1, r2.2.2.1, r2.2.2.2, -9) ∧ ok = 1 ∧ nx = nI e2) ∨ (∃ pf x1 x2 x3 x4 x5, pf ≤ len ∧ dueS len text a st so va fa = some (x1, x2, x3, x4, x5, nI pf) ∧ ok = 0 ∧ pl = nI pf)
theorem AR_le {len e e' : Nat} {rt text : Nat → Int32} {a st so va fa ok nx pl : Int32} (h : AR len rt text e' a st so va fa ok nx pl) (he : e ≤ e') : AR len rt text e a st so va fa ok nx pl := by
  rcases h with ⟨e2, p2, r2, h1, h2⟩ | h
  · exact Or.inl ⟨e2, p2, r2, by omega, h2⟩
  · exact Or.inr h
theorem AR_f {len e pf : Nat} {rt text : Nat → Int32} {a st so va nx : Int32} (h : pf ≤ len) (hl : len ≤ 120) : AR len rt text e a st so va (nI pf) 0 nx (nI pf) := Or.inr ⟨pf, _, _, _, _, _, h, due_f (by omega), rfl, rfl⟩
theorem AR_n {len e p : Nat} {rt text : Nat → Int32} {a so va nx : Int32} (h : p ≤ len) (hs : ¬ so = 2) : AR len rt text e a (nI p) so va (-9) 0 nx (nI p) := by
  refine Or.inr ⟨p, va, a, nI p, so, va, h, ?_, rfl, rfl⟩
  unfold dueS
  rw [if_neg hs, due_no]
theorem stop_ok {len e p : Nat} {tx : Nat → Nat} {rt text : Nat → Int32} {r : Int32 × Int32 × Int32 × Int32} (hc : TXC len tx rt) (hM : TXM len tx text) (h : TK len rt e p r) (val : Int32) : ∃ ok nx pl s w, f_X4_readStop (nI len) (nI e) val rt = some (ok, nx, pl, s, w) ∧ (ok = 0 ∨ ok = 1) ∧ AR len rt text e r.1 r.2.1 r.2.2.1 r.2.2.2 (-9) ok nx pl := by
  unfold f_X4_readStop
  rcases stop_case h with ⟨e', a1, a2, a3, a4, a5⟩ | ⟨a1, a2⟩
  · obtain ⟨p2, r2, d1, d2⟩ := due_yes (st := r.2.1) (so := r.2.2.1) (va := r.2.2.2) hc hM a2
    refine ⟨1, nI e', nI p, 3, val, by rw [a5 val, bnd_some, if_pos rfl], Or.inr rfl, Or.inl ⟨e', p2, r2, a1, a2, d1, ?_, rfl, rfl⟩⟩
    unfold dueS
    rw [if_pos a4, a3, d2]
  · obtain ⟨nx, s, w, b1, b2⟩ := a2 val
    refine ⟨0, nx, nI p, s, w, by rw [b1, bnd_some, if_neg b2], Or.inl rfl, ?_⟩
    rw [h.2.2.1]
    exact AR_n h.1 a1
theorem one_ne : ¬ (1 : Int32) = 0 := by decide
theorem num_ok {len e p lo hi : Nat} {lo' hi' : Int32} {tx : Nat → Nat} {rt text : Nat → Int32} {r : Int32 × Int32 × Int32 × Int32} (elo : lo' = nI lo) (ehi : hi' = nI hi) (hc : TXC len tx rt) (hM : TXM len tx text) (h : TK len rt e p r) (hhi : hi ≤ 99) (hlo : lo ≤ 99) : (∃ v e' p' r', e < e' ∧ e' ≤ len ∧ lo ≤ v ∧ v ≤ hi ∧ TK len rt e' p' r' ∧ f_X9_number (nI len) r.1 r.2.1 r.2.2.1 r.2.2.2 (-9) text lo' hi' = some (nI v, r'.1, r'.2.1, r'.2.2.1, r'.2.2.2, -9) ∧ r.2.2.1 = 1 ∧ (∀ val, f_X4_readToken (nI len) (nI e) val rt = some (nI e', nI p, (2 : Int32), nI v)) ∧ ∀ val, f_X4_readNumber (nI len) (nI e) val rt lo' hi' = some (1, nI e', nI p, 2, nI v)) ∨ (f_X9_number (nI len) r.1 r.2.1 r.2.2.1 r.2.2.2 (-9) text lo' hi' = some (r.2.2.2, r.1, r.2.1, r.2.2.1, r.2.2.2, nI p) ∧ (∀ val, ∃ nx s w, f_X4_readToken (nI len) (nI e) val rt = some (nx, nI p, s, w) ∧ (¬ s = 2 ∨ ∃ v, v ≤ 99 ∧ w = nI v ∧ (v < lo ∨ hi < v))) ∧ ∀ val, ∃ nx s w, f_X4_readNumber (nI len) (nI e) val rt lo' hi' = some (0, nx, nI p, s, w)) := by
  subst elo ehi
  have hp := h.2.2.1
  rcases num_case h with ⟨v, e', a1, a2, a3, a4, a5, a6, a7⟩ | ⟨a1, a2⟩
  · by_cases c : lo ≤ v ∧ v ≤ hi
    · left
      obtain ⟨p2, r2, d1, d2⟩ := due_yes (st := r.2.1) (so := r.2.2.1) (va := r.2.2.2) hc hM a2
      refine ⟨v, e', p2, r2, a1, a2, c.1, c.2, d1, ?_, a5, a7, fun val => ?_⟩
      · unfold f_X9_number
        rw [if_pos a5, in_ok, bnd_some, a6, decide_eq_true (by rw [nleI (by omega) (by omega)]; exact c.1), decide_eq_true (by rw [nleI (by omega) (by omega)]; exact c.2), if_neg (by decide), a4, ← a6, d2, bnd_some, a6]
      · unfold f_X4_readNumber
        rw [a7 val, bnd_some, if_pos rfl, if_neg (by rw [nltI (by omega) (by omega)]; omega), if_neg (by rw [nltI (by omega) (by omega)]; omega)]
    · right
      refine ⟨?_, fun val => ⟨_, _, _, a7 val, Or.inr ⟨v, a3, rfl, by omega⟩⟩, fun val => ?_⟩
      · unfold f_X9_number
        have e1 : (decide (nI lo ≤ nI v) && decide (nI v ≤ nI hi)) = false := by
          simp (disch := omega) only [nleI]
          simp
          omega
        rw [if_pos a5, in_ok, bnd_some, a6, e1, if_pos bIf, due_no, bnd_some, hp]
      · unfold f_X4_readNumber
        rw [a7 val, bnd_some, if_pos rfl]
        by_cases c1 : v < lo
        · rw [if_pos (by rw [nltI (by omega) (by omega)]; omega)]
          exact ⟨_, _, _, rfl⟩
        · rw [if_neg (by rw [nltI (by omega) (by omega)]; omega), if_pos (by rw [nltI (by omega) (by omega)]; omega)]
          exact ⟨_, _, _, rfl⟩
  · right
    refine ⟨?_, fun val => ?_, fun val => ?_⟩
    · unfold f_X9_number
      rw [if_neg a1, due_no, bnd_some, hp]
    · obtain ⟨nx, s, w, b1, b2⟩ := a2 val
      exact ⟨nx, s, w, b1, Or.inl b2⟩
    · obtain ⟨nx, s, w, b1, b2⟩ := a2 val
      unfold f_X4_readNumber
      rw [b1, bnd_some, if_neg b2]
      exact ⟨_, _, _, rfl⟩
theorem num_f {len pf : Nat} {text : Nat → Int32} {a st so va lo hi : Int32} (h : pf ≤ 1000) : f_X9_number (nI len) a st so va (nI pf) text lo hi = some (va, a, st, so, va, nI pf) := by
  unfold f_X9_number
  rw [in_ok, bnd_some, due_f h, due_f h, bnd_some]
  by_cases c : so = 1
  · rw [if_pos c]
    by_cases q : bI (decide (lo ≤ va) && decide (va ≤ hi)) = 0
    · rw [if_pos q]
    · rw [if_neg q]
  · rw [if_neg c]
/-! how many opinions -/
theorem row_o {len e p : Nat} {tx : Nat → Nat} {rt text : Nat → Int32} {r : Int32 × Int32 × Int32 × Int32} (hc : TXC len tx rt) (hM : TXM len tx text) (h : TK len rt e p r) (nt : Int32) (mop mli mdb msc mtu mbe mne : Nat → Int32) (val cop : Int32) : ∃ a st so va fa mop' ok nx pl s w cop', f_X9_readRow (nI len) nt r.1 r.2.1 r.2.2.1 r.2.2.2 (-9) text mop mli mdb msc mtu mbe mne 111 = some (nt, a, st, so, va, fa, mop', mli, mdb, msc, mtu, mbe, mne) ∧ f_X4_readOpinions (nI len) (nI e) val rt cop = some (ok, nx, pl, s, w, cop') ∧ AR len rt text e a st so va fa ok nx pl ∧ mop' 0 = mop 0 ∧ (ok = 1 → ∃ n, 2 ≤ n ∧ n ≤ 5 ∧ cop' = nI n ∧ mop' 1 = nI n) := by
  have hl := hc.1
  unfold f_X9_readRow f_X4_readOpinions
  rw [if_neg (by decide), if_pos (show (111 : Int32) = 111 from rfl)]
  rcases num_ok (lo := 2) (hi := 5) (lo' := 2) (hi' := 5) rfl rfl hc hM h (by omega) (by omega) with ⟨v, e', p', r', a1, a2, a3, a4, a5, a6, -, -, a7⟩ | ⟨a1, -, a2⟩
  · obtain ⟨ok, nx, pl, s, w, b1, b2, b3⟩ := stop_ok hc hM a5 (nI v)
    refine ⟨_, _, _, _, _, _, ok, nx, pl, s, w, nI v, by rw [a6]; rfl, ?_, AR_le b3 (by omega), upd_ne (by decide), fun _ => ⟨v, a3, a4, rfl, upd_eq⟩⟩
    rw [a7 val, bnd_some, if_neg one_ne, b1, bnd_some, if_pos b2]
  · obtain ⟨nx, s, w, b1⟩ := a2 val
    refine ⟨_, _, _, _, _, _, 0, nx, nI p, s, w, cop, by rw [a1]; rfl, ?_, AR_f h.1 hl, upd_ne (by decide), fun z => absurd z (by decide)⟩
    rw [b1, bnd_some, if_pos rfl]
/-! the need -/
theorem row_n {len e p : Nat} {tx : Nat → Nat} {rt text : Nat → Int32} {r : Int32 × Int32 × Int32 × Int32} (hc : TXC len tx rt) (hM : TXM len tx text) (h : TK len rt e p r) (nt : Int32) (mop mli mdb msc mtu mbe mne : Nat → Int32) (val cne : Int32) : ∃ a st so va fa mne' ok nx pl s w cne', f_X9_readRow (nI len) nt r.1 r.2.1 r.2.2.1 r.2.2.2 (-9) text mop mli mdb msc mtu mbe mne 110 = some (1, a, st, so, va, fa, mop, mli, mdb, msc, mtu, mbe, mne') ∧ f_X4_readNeed (nI len) (nI e) val rt cne = some (ok, nx, pl, s, w, 1, cne') ∧ AR len rt text e a st so va fa ok nx pl ∧ mne' 0 = mne 0 ∧ (ok = 1 → ∃ d, 1 ≤ d ∧ d ≤ 4 ∧ cne' = nI d ∧ mne' 1 = nI d) := by
  have hl := hc.1
  unfold f_X9_readRow f_X4_readNeed
  rw [if_neg (by decide), if_neg (by decide), if_neg (by decide)]
  rcases num_ok (lo := 1) (hi := 4) (lo' := 1) (hi' := 4) rfl rfl hc hM h (by omega) (by omega) with ⟨v, e', p', r', a1, a2, a3, a4, a5, a6, -, -, a7⟩ | ⟨a1, -, a2⟩
  · obtain ⟨ok, nx, pl, s, w, b1, b2, b3⟩ := stop_ok hc hM a5 (nI v)
    refine ⟨_, _, _, _, _, _, ok, nx, pl, s, w, nI v, by rw [a6]; rfl, ?_, AR_le b3 (by omega), upd_ne (by decide), fun _ => ⟨v, a3, a4, rfl, upd_eq⟩⟩
    rw [a7 val, bnd_some, if_neg one_ne, b1, bnd_some, if_pos b2]
  · obtain ⟨nx, s, w, b1⟩ := a2 val
    refine ⟨_, _, _, _, _, _, 0, nx, nI p, s, w, cne, by rw [a1]; rfl, ?_, AR_f h.1 hl, upd_ne (by decide), fun z => absurd z (by decide)⟩
    rw [b1, bnd_some, if_pos rfl]
/-! a scribe -/
theorem row_s {len e p S : Nat} {tx : Nat → Nat} {rt text : Nat → Int32} {r : Int32 × Int32 × Int32 × Int32} (hc : TXC len tx rt) (hM : TXM len tx text) (h : TK len rt e p r) (hS : S < 6) (nt : Int32) (mop mli mdb msc mtu mbe mne : Nat → Int32) (hms : msc 1 = nI S) (val : Int32) (dtu dbe : Nat → Int32) : ∃ a st so va fa x y ok nx pl s w csc' dtu' dbe', f_X9_readRow (nI len) nt r.1 r.2.1 r.2.2.1 r.2.2.2 (-9) text mop mli mdb msc mtu mbe mne 115 = some (nt, a, st, so, va, fa, mop, mli, mdb, upd msc 1 (nI (S + 1)), upd mtu (6 + S) x, upd mbe (6 + S) y, mne) ∧ f_X4_readScribe (nI len) (nI e) val rt (nI S) dtu dbe = some (ok, nx, pl, s, w, csc', dtu', dbe') ∧ AR len rt text e a st so va fa ok nx pl ∧ (ok = 1 → ∃ T B, T ≤ 6 ∧ B ≤ 6 ∧ csc' = nI (S + 1) ∧ dtu' = upd dtu S (nI T) ∧ dbe' = upd dbe S (nI B) ∧ x = nI T ∧ y = nI B) := by
  have hl := hc.1
  unfold f_X9_readRow f_X4_readScribe
  rw [if_neg (by decide), if_neg (by decide), if_pos (show (115 : Int32) = 115 from rfl)]
  simp only [show msc (1 : Int32).toNatClampNeg = nI S from hms]
  rw [show (6 : Int32) + nI S = nI (6 + S) by rw [l6, nI_add]]
  rcases num_ok (lo := 0) (hi := 6) (lo' := 0) (hi' := 6) rfl rfl hc hM h (by omega) (by omega) with ⟨T, e', p', r', a1, a2, a3, a4, a5, a6, -, -, a7⟩ | ⟨a1, -, a2⟩
  · rw [a6, bnd_some, if_neg (gN (by omega) (by omega)), n1, a7 val, bnd_some, if_neg one_ne]
    rcases num_ok (lo := 0) (hi := 6) (lo' := 0) (hi' := 6) rfl rfl hc hM a5 (by omega) (by omega) with ⟨B, e2, p2, r2, c1, c2, c3, c4, c5, c6, -, -, c7⟩ | ⟨c1, -, c2⟩
    · obtain ⟨ok, nx, pl, s, w, b1, b2, b3⟩ := stop_ok hc hM c5 (nI B)
      refine ⟨_, _, _, _, _, nI T, nI B, ok, nx, pl, s, w, nI (S + 1), upd dtu S (nI T), upd dbe S (nI B), by rw [c6, bnd_some, if_neg (gN (by omega) (by omega)), nI_clamp (by omega)]; rfl, ?_, AR_le b3 (by omega), fun _ => ⟨T, B, a4, c4, rfl, rfl, rfl, rfl, rfl⟩⟩
      unfold f_X0_addScribe
      rw [c7 (nI T), bnd_some, if_neg one_ne, if_neg (by rw [l0, nltI (by omega) (by omega)]; omega), if_neg (by rw [l6, nleI (by omega) (by omega)]; omega), if_neg (gN (by omega) (by omega)), if_neg (gN (by omega) (by omega)), nI_clamp (by omega), n1, bnd_some, b1, bnd_some, if_pos b2]
    · obtain ⟨nx, s, w, b1⟩ := c2 (nI T)
      refine ⟨_, _, _, _, _, _, _, 0, nx, nI p', s, w, nI S, dtu, dbe, by rw [c1, bnd_some, if_neg (gN (by omega) (by omega)), nI_clamp (by omega)]; rfl, ?_, AR_f a5.1 hl, fun z => absurd z (by decide)⟩
      rw [b1, bnd_some, if_pos rfl]
  · obtain ⟨nx, s, w, b1⟩ := a2 val
    have hp := h.1
    refine ⟨_, _, _, _, _, _, _, 0, nx, nI p, s, w, nI S, dtu, dbe, by rw [a1, bnd_some, if_neg (gN (by omega) (by omega)), num_f (by omega), bnd_some, if_neg (gN (by omega) (by omega)), nI_clamp (by omega), n1]; rfl, ?_, AR_f h.1 hl, fun z => absurd z (by decide)⟩
    rw [b1, bnd_some, if_pos rfl]
