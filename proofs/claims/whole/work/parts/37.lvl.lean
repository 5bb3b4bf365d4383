/-! ===== ways: how far a book is from the target ===== -/
def CV (n L d : Nat) (t b : Nat → Nat) (s k : Nat) : Bool := cvN n L d (sy n t b s) k
def CP (n L : Nat) (t b : Nat → Nat) (s k : Nat) : Nat := cpN n (sy n t b s) L k
/-- the target is reached from a book by m copies -/
def lvl (w : Nat) (cv : Nat → Nat → Bool) (cp : Nat → Nat → Nat) (T : Nat) : Nat → Nat → Prop
  | 0, k => k = T
  | m + 1, k => ∃ s, s < 6 ∧ btN w s = true ∧ cv s k = false ∧ lvl w cv cp T m (cp s k)
/-- and by no fewer -/
def xct (w : Nat) (cv : Nat → Nat → Bool) (cp : Nat → Nat → Nat) (T m k : Nat) : Prop := lvl w cv cp T m k ∧ ∀ a, a < m → ¬ lvl w cv cp T a k
def faA (w : Nat) (cv : Nat → Nat → Bool) (cp : Nat → Nat → Nat) (T i k : Nat) (v : Int32) : Prop := (∃ m, m ≤ i ∧ v = nI m ∧ xct w cv cp T m k) ∨ (v = -9 ∧ ∀ m, m ≤ i → ¬ lvl w cv cp T m k)
def FAR (w : Nat) (cv : Nat → Nat → Bool) (cp : Nat → Nat → Nat) (T B : Nat) (far : Nat → Int32) : Prop := ∀ k, k < B → (∃ m, m < B ∧ far k = nI m ∧ xct w cv cp T m k) ∨ (far k = -9 ∧ ∀ m, ¬ lvl w cv cp T m k)
theorem xct_uniq {w : Nat} {cv : Nat → Nat → Bool} {cp : Nat → Nat → Nat} {T a b k : Nat} (h : xct w cv cp T a k) (h' : xct w cv cp T b k) : a = b := by
  rcases Nat.lt_trichotomy a b with c | c | c
  · exact absurd h.1 (h'.2 a c)
  · exact c
  · exact absurd h'.1 (h.2 b c)
theorem xct_down {w : Nat} {cv : Nat → Nat → Bool} {cp : Nat → Nat → Nat} {T B : Nat} (hcp : ∀ s k, k < B → cp s k < B) : ∀ i k, k < B → xct w cv cp T i k → ∀ j, j ≤ i → ∃ c, c < B ∧ xct w cv cp T j c
  | 0, k, hk, h, j, hj => ⟨k, hk, by rw [show j = 0 by omega]; exact h⟩
  | i + 1, k, hk, h, j, hj => by
    by_cases e : j = i + 1
    · subst e; exact ⟨k, hk, h⟩
    · obtain ⟨s, h1, h2, h3, h4⟩ := h.1
      refine xct_down hcp i (cp s k) (hcp s k hk) ⟨h4, fun a ha hl => ?_⟩ j (by omega)
      exact h.2 (a + 1) (by omega) ⟨s, h1, h2, h3, hl⟩
theorem xct_lt {w : Nat} {cv : Nat → Nat → Bool} {cp : Nat → Nat → Nat} {T B i k : Nat} (hcp : ∀ s k, k < B → cp s k < B) (hk : k < B) (h : xct w cv cp T i k) : i < B := by
  apply Nat.lt_of_not_le
  intro c
  have hd := xct_down hcp i k hk h
  have hf : ∃ f : Nat → Nat, ∀ j, j ≤ i → f j < B ∧ xct w cv cp T j (f j) := by
    refine ⟨fun j => if hj : j ≤ i then Classical.choose (hd j hj) else 0, fun j hj => ?_⟩
    dsimp only
    rw [dif_pos hj]
    exact Classical.choose_spec (hd j hj)
  obtain ⟨f, hf⟩ := hf
  obtain ⟨x, y, h1, h2, h3⟩ := php B f (fun j hj => (hf j (by omega)).1)
  have e1 := (hf x (by omega)).2
  have e2 := (hf y (by omega)).2
  rw [h3] at e1
  have := xct_uniq e1 e2
  omega
theorem n9ne {a : Nat} (h : a < 2 ^ 30) : ¬ nI a = (-9 : Int32) := fun e => by
  have : nI a = jm9 := e
  rw [nne9 h] at this
  exact this
/-- while the books at distance i are told apart -/
theorem fa_hit {w : Nat} {cv : Nat → Nat → Bool} {cp : Nat → Nat → Nat} {T i k : Nat} {v : Int32} (hi : i < 2 ^ 29) (h : faA w cv cp T i k v ∨ faA w cv cp T (i + 1) k v) : v = nI i ↔ xct w cv cp T i k := by
  have key : ∀ j, i ≤ j → j < 2 ^ 30 → faA w cv cp T j k v → (v = nI i ↔ xct w cv cp T i k) := by
    intro j hj hj2 hf
    constructor
    · intro e
      rcases hf with ⟨m, h1, h2, h3⟩ | ⟨h1, h2⟩
      · rw [e] at h2
        have := (nI_eq (a := i) (b := m) (by omega) (by omega)).mp h2
        rw [this]; exact h3
      · rw [e] at h1
        exact absurd h1 (n9ne (by omega))
    · intro e
      rcases hf with ⟨m, h1, h2, h3⟩ | ⟨h1, h2⟩
      · rw [h2, xct_uniq e h3]
      · exact absurd e.1 (h2 i hj)
  rcases h with h | h
  · exact key i (Nat.le_refl _) (by omega) h
  · exact key (i + 1) (by omega) (by omega) h
theorem gM {k n : Nat} (hk : k < n) (hn : n < 2 ^ 31) : ¬ (nI k < 0 ∨ n ≤ k) := fun e => e.elim (fun z => nI_pos (by omega) z) (fun z => by omega)
theorem bitw {w s : Nat} (hw : w < 64) (hs : s < 32) : (jshr (nI w) (nI s) &&& (1 : Int32)) = nI (w / 2 ^ s % 2) := by
  rw [njshr (by omega) hs, l1, nand1 (Nat.lt_of_le_of_lt (Nat.div_le_self _ _) (by omega))]
theorem bit_y {w s : Nat} (hw : w < 64) (hs : s < 32) (h : btN w s = true) : (jshr (nI w) (nI s) &&& (1 : Int32)) = 1 := by
  rw [bitw hw hs, show w / 2 ^ s % 2 = 1 by unfold btN at h; simpa using h]; rfl
theorem bit_n {w s : Nat} (hw : w < 64) (hs : s < 32) (h : btN w s = false) : (jshr (nI w) (nI s) &&& (1 : Int32)) = 0 := by
  rw [bitw hw hs, show w / 2 ^ s % 2 = 0 by unfold btN at h; have : ¬ w / 2 ^ s % 2 = 1 := by simpa using h
                                            omega]; rfl
/-! ===== the reference measures ===== -/
theorem meas58_ok {n L S d : Nat} {t b : Nat → Nat} {op li sc ne tu be now : Nat → Int32} (h : MH n L S d t b op li sc ne tu be) {w T i c : Nat} {more : Int32} {far : Nat → Int32} (hw : WOK S w) (hbw : f_X9_boughtIn sc now = some (nI w)) (hc : c < n ^ L) (hi : i < 2 ^ 20)
    (hlo : ∀ k, k < c → faA w (CV n L d t b) (CP n L t b) T (i + 1) k (far k)) (hhi : ∀ k, c ≤ k → k < n ^ L → faA w (CV n L d t b) (CP n L t b) T i k (far k)) :
    ∃ mo fr, lpF (b_X9_measure_58 op li sc tu be ne now (nI i) (nI c)) FU (more, (0 : Int32), far) = some (.inl (mo, nI (c + 1), fr)) ∧ ((mo = more ∧ fr = far ∧ faA w (CV n L d t b) (CP n L t b) T (i + 1) c (far c) ∧ faA w (CV n L d t b) (CP n L t b) T i c (far c)) ∨ (mo = 1 ∧ fr = upd far c (nI (i + 1)) ∧ xct w (CV n L d t b) (CP n L t b) T (i + 1) c)) := by
  obtain ⟨⟨g1, g2, g3, g4, g5, g6, g7⟩, h1, h2, h3, h4, h5⟩ := id h
  have hB := npow_le (n := n) (L := L) g2 g3
  have hcp : ∀ s k, CP n L t b s k < n ^ L := fun s k => cpN_lt (fun x => sy_lt g1) L k
  have hfc := hhi c (Nat.le_refl _) hc
  have hlt : ∀ k, k < n ^ L → (far k = nI i ↔ xct w (CV n L d t b) (CP n L t b) T i k) := fun k hk => fa_hit (by omega) (by
    by_cases e : k < c
    · exact Or.inr (hlo k e)
    · exact Or.inl (hhi k (by omega) hk))
  obtain ⟨t0, e1, mo, fr, e2, e3⟩ := lp_IU (B := b_X9_measure_58 op li sc tu be ne now (nI i) (nI c)) (I := fun z => ∃ s, s ≤ S ∧ ((z = (more, nI s, far) ∧ (far c = -9 → ∀ a, a < s → btN w a = true → CV n L d t b a c = false → ¬ lvl w (CV n L d t b) (CP n L t b) T i (CP n L t b a c))) ∨ (z = ((1 : Int32), nI s, upd far c (nI (i + 1))) ∧ xct w (CV n L d t b) (CP n L t b) T (i + 1) c)))
    (μ := fun z => S - z.2.1.toNatClampNeg) (P := fun r => ∃ mo fr, r = .inl (mo, nI (c + 1), fr) ∧ ((mo = more ∧ fr = far ∧ faA w (CV n L d t b) (CP n L t b) T (i + 1) c (far c) ∧ faA w (CV n L d t b) (CP n L t b) T i c (far c)) ∨ (mo = 1 ∧ fr = upd far c (nI (i + 1)) ∧ xct w (CV n L d t b) (CP n L t b) T (i + 1) c))) (fun z hz => by
    obtain ⟨s, hs, ⟨rfl, hno⟩ | ⟨rfl, hx⟩⟩ := hz
    · unfold b_X9_measure_58
      dsimp only
      rw [show sc (0 : Int32).toNatClampNeg = nI S from h3, n1, n1, nI_clamp (by omega)]
      by_cases es : S ≤ s
      · right
        refine ⟨.inl (more, nI (c + 1), far), by rw [if_pos (by rw [nleI (by omega) (by omega)]; exact es)], more, far, rfl, Or.inl ⟨rfl, rfl, ?_, hfc⟩⟩
        rcases hfc with ⟨m, q1, q2, q3⟩ | ⟨q1, q2⟩
        · exact Or.inl ⟨m, by omega, q2, q3⟩
        · refine Or.inr ⟨q1, fun m hm hl => ?_⟩
          by_cases e : m = i + 1
          · subst e
            obtain ⟨a, a1, a2, a3, a4⟩ := hl
            have := hw.2 a a1 a2
            exact hno q1 a (by omega) a2 a3 a4
          · exact q2 m (by omega) hl
      · rw [if_neg (by rw [nleI (by omega) (by omega)]; exact es), if_neg (gM (by omega) (by decide))]
        by_cases e9 : far c = -9
        · left
          rw [if_pos e9, hbw, bnd_some]
          have hnl : ∀ m, m ≤ i → ¬ lvl w (CV n L d t b) (CP n L t b) T m c := by
            rcases hfc with ⟨m, q1, q2, q3⟩ | ⟨q1, q2⟩
            · rw [e9] at q2; exact absurd q2.symm (n9ne (by omega))
            · exact q2
          cases hb : btN w s with
          | false =>
            refine ⟨(more, nI (s + 1), far), by rw [bit_n hw.1 (by omega) hb, if_neg (by decide)], ⟨s + 1, by omega, Or.inl ⟨rfl, fun _ a ha a2 a3 => ?_⟩⟩, ?_⟩
            · by_cases e : a = s
              · subst e; rw [hb] at a2; cases a2
              · exact hno e9 a (by omega) a2 a3
            · dsimp only; rw [nI_clamp (by omega), nI_clamp (by omega)]; omega
          | true =>
            rw [bit_y hw.1 (by omega) hb, if_pos rfl, misConvinced_ok h (by omega) hc, bnd_some]
            cases hv : cvN n L d (sy n t b s) c with
            | true =>
              refine ⟨(more, nI (s + 1), far), by rw [if_neg (by decide)], ⟨s + 1, by omega, Or.inl ⟨rfl, fun _ a ha a2 a3 => ?_⟩⟩, ?_⟩
              · by_cases e : a = s
                · subst e
                  have : CV n L d t b a c = true := hv
                  rw [this] at a3; cases a3
                · exact hno e9 a (by omega) a2 a3
              · dsimp only; rw [nI_clamp (by omega), nI_clamp (by omega)]; omega
            | false =>
              have hq : cpN n (sy n t b s) L c < n ^ L := hcp s c
              have hv' : CV n L d t b s c = false := hv
              rw [if_pos bIf, mcopyOf_ok h (by omega) hc, bnd_some, if_neg (gN (by omega) (by decide)), nI_clamp (by omega)]
              by_cases e : far (cpN n (sy n t b s) L c) = nI i
              · have hxc : xct w (CV n L d t b) (CP n L t b) T i (CP n L t b s c) := (hlt _ hq).mp e
                refine ⟨((1 : Int32), nI (s + 1), upd far c (nI (i + 1))), by rw [if_pos e, if_neg (gM (by omega) (by decide)), n1], ⟨s + 1, by omega, Or.inr ⟨rfl, ⟨s, by omega, hb, hv', hxc.1⟩, fun a ha => hnl a (by omega)⟩⟩, ?_⟩
                dsimp only; rw [nI_clamp (by omega), nI_clamp (by omega)]; omega
              · refine ⟨(more, nI (s + 1), far), by rw [if_neg e], ⟨s + 1, by omega, Or.inl ⟨rfl, fun _ a ha a2 a3 a4 => ?_⟩⟩, ?_⟩
                · by_cases ea : a = s
                  · subst ea
                    refine e ((hlt _ hq).mpr ⟨a4, fun j hj hl => hnl (j + 1) (by omega) ⟨a, by omega, hb, hv', hl⟩⟩)
                  · exact hno e9 a (by omega) a2 a3 a4
                · dsimp only; rw [nI_clamp (by omega), nI_clamp (by omega)]; omega
        · right
          rw [if_neg e9]
          refine ⟨_, rfl, more, far, rfl, Or.inl ⟨rfl, rfl, ?_, hfc⟩⟩
          rcases hfc with ⟨m, q1, q2, q3⟩ | ⟨q1, q2⟩
          · exact Or.inl ⟨m, by omega, q2, q3⟩
          · exact absurd q1 e9
    · right
      unfold b_X9_measure_58
      dsimp only
      rw [show sc (0 : Int32).toNatClampNeg = nI S from h3, n1, n1, nI_clamp (by omega)]
      refine ⟨.inl ((1 : Int32), nI (c + 1), upd far c (nI (i + 1))), ?_, _, _, rfl, Or.inr ⟨rfl, rfl, hx⟩⟩
      by_cases es : S ≤ s
      · rw [if_pos (by rw [nleI (by omega) (by omega)]; exact es)]
      · rw [if_neg (by rw [nleI (by omega) (by omega)]; exact es), if_neg (gM (by omega) (by decide)), if_neg (by rw [upd_eq]; exact n9ne (by omega))]) (more, (0 : Int32), far) ⟨0, Nat.zero_le _, Or.inl ⟨rfl, fun _ a ha => absurd ha (Nat.not_lt_zero a)⟩⟩ (by show S - _ < _; omega)
  exact ⟨mo, fr, by rw [e1, e2], e3⟩
theorem meas47_ok {n L S d : Nat} {t b : Nat → Nat} {op li sc ne tu be now : Nat → Int32} (h : MH n L S d t b op li sc ne tu be) {w T i : Nat} {far : Nat → Int32} (hw : WOK S w) (hbw : f_X9_boughtIn sc now = some (nI w)) (hi : i < 2 ^ 20)
    (hfa : ∀ k, k < n ^ L → faA w (CV n L d t b) (CP n L t b) T i k (far k)) :
    ∃ mo fr, lpF (b_X9_measure_47 op li sc tu be ne now (nI i)) FU ((0 : Int32), (0 : Int32), far) = some (.inl (mo, nI (i + 1), fr)) ∧ (∀ k, k < n ^ L → faA w (CV n L d t b) (CP n L t b) T (i + 1) k (fr k)) ∧ ((mo = 0 ∧ ∀ k, k < n ^ L → faA w (CV n L d t b) (CP n L t b) T i k (fr k)) ∨ (mo = 1 ∧ ∃ k, k < n ^ L ∧ xct w (CV n L d t b) (CP n L t b) T (i + 1) k)) := by
  obtain ⟨⟨g1, g2, g3, g4, g5, g6, g7⟩, h1, h2, h3, h4, h5⟩ := id h
  have hB := npow_le (n := n) (L := L) g2 g3
  obtain ⟨t0, e1, mo, fr, e2, e3⟩ := lp_IU (B := b_X9_measure_47 op li sc tu be ne now (nI i)) (I := fun z => ∃ c mo fr, c ≤ n ^ L ∧ z = (mo, nI c, fr) ∧ (∀ k, k < c → faA w (CV n L d t b) (CP n L t b) T (i + 1) k (fr k)) ∧ (∀ k, c ≤ k → k < n ^ L → faA w (CV n L d t b) (CP n L t b) T i k (fr k)) ∧ ((mo = 0 ∧ ∀ k, k < c → faA w (CV n L d t b) (CP n L t b) T i k (fr k)) ∨ (mo = 1 ∧ ∃ k, k < n ^ L ∧ xct w (CV n L d t b) (CP n L t b) T (i + 1) k)))
    (μ := fun z => n ^ L - z.2.1.toNatClampNeg) (P := fun r => ∃ mo fr, r = .inl (mo, nI (i + 1), fr) ∧ (∀ k, k < n ^ L → faA w (CV n L d t b) (CP n L t b) T (i + 1) k (fr k)) ∧ ((mo = 0 ∧ ∀ k, k < n ^ L → faA w (CV n L d t b) (CP n L t b) T i k (fr k)) ∨ (mo = 1 ∧ ∃ k, k < n ^ L ∧ xct w (CV n L d t b) (CP n L t b) T (i + 1) k))) (fun z hz => by
    obtain ⟨c, mo, fr, hc, rfl, hlo, hhi, hmo⟩ := hz
    unfold b_X9_measure_47
    dsimp only
    rw [mbooks_ok g1 g2 g3 h1 h2, bnd_some, n1]
    by_cases ec : n ^ L ≤ c
    · right
      have : c = n ^ L := by omega
      subst this
      exact ⟨_, by rw [if_pos (by rw [nleI (by omega) (by omega)]; exact ec)], mo, fr, rfl, hlo, hmo⟩
    · left
      rw [if_neg (by rw [nleI (by omega) (by omega)]; exact ec)]
      obtain ⟨mo', fr', e1, e2⟩ := meas58_ok h (T := T) (more := mo) hw hbw (show c < n ^ L by omega) hi hlo hhi
      refine ⟨(mo', nI (c + 1), fr'), e1, ⟨c + 1, mo', fr', by omega, rfl, ?_⟩, ?_⟩
      · rcases e2 with ⟨rfl, rfl, q1, q2⟩ | ⟨rfl, rfl, q1⟩
        · refine ⟨fun k hk => ?_, fun k hk hk2 => hhi k (by omega) hk2, ?_⟩
          · by_cases e : k = c
            · subst e; exact q1
            · exact hlo k (by omega)
          · rcases hmo with ⟨rfl, q⟩ | q
            · refine Or.inl ⟨rfl, fun k hk => ?_⟩
              by_cases e : k = c
              · subst e; exact q2
              · exact q k (by omega)
            · exact Or.inr q
        · refine ⟨fun k hk => ?_, fun k hk hk2 => ?_, Or.inr ⟨rfl, c, by omega, q1⟩⟩
          · by_cases e : k = c
            · subst e; rw [upd_eq]; exact Or.inl ⟨i + 1, Nat.le_refl _, rfl, q1⟩
            · rw [upd_ne e]; exact hlo k (by omega)
          · rw [upd_ne (by omega)]; exact hhi k (by omega) hk2
      · dsimp only; rw [nI_clamp (by omega), nI_clamp (by omega)]; omega) ((0 : Int32), (0 : Int32), far) ⟨0, 0, far, Nat.zero_le _, rfl, fun k hk => absurd hk (Nat.not_lt_zero k), fun k _ hk => hfa k hk, Or.inl ⟨rfl, fun k hk => absurd hk (Nat.not_lt_zero k)⟩⟩ (by show n ^ L - _ < _; omega)
  exact ⟨mo, fr, by rw [e1, e2], e3⟩
theorem far_end {w : Nat} {cv : Nat → Nat → Bool} {cp : Nat → Nat → Nat} {T B i : Nat} {far : Nat → Int32} (hcp : ∀ s k, k < B → cp s k < B) (hi : i < 2 ^ 20) (h0 : ∀ k, k < B → faA w cv cp T i k (far k)) (h1 : ∀ k, k < B → faA w cv cp T (i + 1) k (far k)) : FAR w cv cp T B far := by
  have key : ∀ m k, k < B → lvl w cv cp T m k → ∃ a, a ≤ i ∧ lvl w cv cp T a k := by
    intro m
    induction m with
    | zero => intro k hk hl; exact ⟨0, Nat.zero_le _, hl⟩
    | succ m ih =>
      intro k hk hl
      obtain ⟨s, q1, q2, q3, q4⟩ := hl
      obtain ⟨a, ha, hl⟩ := ih _ (hcp s k hk) q4
      by_cases e : a = i
      · subst e
        rcases h0 k hk with ⟨m0, r1, r2, r3⟩ | ⟨r1, r2⟩
        · exact ⟨m0, r1, r3.1⟩
        · rcases h1 k hk with ⟨m1, u1, u2, u3⟩ | ⟨u1, u2⟩
          · rw [r1] at u2; exact absurd u2.symm (n9ne (by omega))
          · exact absurd ⟨s, q1, q2, q3, hl⟩ (u2 (a + 1) (Nat.le_refl _))
      · exact ⟨a + 1, by omega, s, q1, q2, q3, hl⟩
  intro k hk
  rcases h0 k hk with ⟨m, r1, r2, r3⟩ | ⟨r1, r2⟩
  · exact Or.inl ⟨m, xct_lt hcp hk r3, r2, r3⟩
  · refine Or.inr ⟨r1, fun m hl => ?_⟩
    obtain ⟨a, ha, q⟩ := key m k hk hl
    exact r2 a ha q
theorem measure_ok {n L S d : Nat} {t b : Nat → Nat} {op li sc ne tu be now : Nat → Int32} (h : MH n L S d t b op li sc ne tu be) {w T : Nat} (far : Nat → Int32) (hw : WOK S w) (hbw : f_X9_boughtIn sc now = some (nI w)) (hT : T < n ^ L) :
    ∃ fr, f_X9_measure (nI T) op li sc tu be ne now far = some fr ∧ FAR w (CV n L d t b) (CP n L t b) T (n ^ L) fr := by
  obtain ⟨⟨g1, g2, g3, g4, g5, g6, g7⟩, h1, h2, h3, h4, h5⟩ := id h
  have hB := npow_le (n := n) (L := L) g2 g3
  have hcp : ∀ s k, k < n ^ L → CP n L t b s k < n ^ L := fun s k _ => cpN_lt (fun x => sy_lt g1) L k
  have m39 : ∀ fr : Nat → Int32, (∀ k, k < n ^ L → faA w (CV n L d t b) (CP n L t b) T 0 k (fr k)) → ∃ fr', lpF (b_X9_measure_39 op li sc tu be ne now) FU ((1 : Int32), (0 : Int32), fr) = some fr' ∧ FAR w (CV n L d t b) (CP n L t b) T (n ^ L) fr' := by
    intro fr hfr
    refine lp_IU (B := b_X9_measure_39 op li sc tu be ne now) (I := fun z => (∃ i f, z = ((1 : Int32), nI i, f) ∧ i < n ^ L ∧ ∀ k, k < n ^ L → faA w (CV n L d t b) (CP n L t b) T i k (f k)) ∨ (∃ x f, z = ((0 : Int32), x, f) ∧ FAR w (CV n L d t b) (CP n L t b) T (n ^ L) f)) (μ := fun z => if z.1 = 0 then 0 else n ^ L + 1 - z.2.1.toNatClampNeg) (P := fun f => FAR w (CV n L d t b) (CP n L t b) T (n ^ L) f) (fun z hz => ?_) ((1 : Int32), (0 : Int32), fr) (Or.inl ⟨0, fr, rfl, by omega, hfr⟩) ?_
    · rcases hz with ⟨i, f, rfl, hi, hf⟩ | ⟨x, f, rfl, hf⟩
      · left
        unfold b_X9_measure_39
        dsimp only
        rw [if_neg (by decide)]
        obtain ⟨mo, f', e1, e2, e3⟩ := meas47_ok h (T := T) hw hbw (show i < 2 ^ 20 by omega) hf
        refine ⟨(mo, nI (i + 1), f'), e1, ?_⟩
        rcases e3 with ⟨rfl, q⟩ | ⟨rfl, k, hk, q⟩
        · refine ⟨Or.inr ⟨_, f', rfl, far_end hcp (show i < 2 ^ 20 by omega) q e2⟩, ?_⟩
          dsimp only
          rw [if_pos rfl, if_neg (by decide), nI_clamp (by omega)]
          omega
        · have hlt := xct_lt hcp hk q
          refine ⟨Or.inl ⟨i + 1, f', rfl, hlt, e2⟩, ?_⟩
          dsimp only
          rw [if_neg (by decide), if_neg (by decide), nI_clamp (by omega), nI_clamp (by omega)]
          omega
      · right
        unfold b_X9_measure_39
        exact ⟨f, by dsimp only; rw [if_pos rfl], hf⟩
    · dsimp only
      rw [if_neg (by decide)]
      omega
  unfold f_X9_measure
  obtain ⟨fr', e1, e2⟩ : ∃ fr', lpF (b_X9_measure_2 (nI T) op li sc tu be ne now) FU ((0 : Int32), far) = some fr' ∧ FAR w (CV n L d t b) (CP n L t b) T (n ^ L) fr' := by
    refine lp_IU (B := b_X9_measure_2 (nI T) op li sc tu be ne now) (I := fun z => ∃ i f, i ≤ 625 ∧ z = (nI i, f) ∧ ∀ k, k < i → f k = if k = T then 0 else -9) (μ := fun z => 625 - z.1.toNatClampNeg) (P := fun f => FAR w (CV n L d t b) (CP n L t b) T (n ^ L) f) (fun z hz => ?_) ((0 : Int32), far) ⟨0, far, by decide, rfl, fun k hk => absurd hk (Nat.not_lt_zero k)⟩ (by show 625 - _ < _; omega)
    obtain ⟨i, f, hi, rfl, hf⟩ := hz
    unfold b_X9_measure_2
    dsimp only
    by_cases e : 625 ≤ i
    · right
      obtain ⟨fr', q1, q2⟩ := m39 f (fun k hk => by
        rw [hf k (by omega)]
        by_cases ek : k = T
        · rw [if_pos ek]
          exact Or.inl ⟨0, Nat.le_refl _, rfl, ek, fun a ha => absurd ha (Nat.not_lt_zero a)⟩
        · rw [if_neg ek]
          refine Or.inr ⟨rfl, fun m hm hl => ?_⟩
          have : m = 0 := by omega
          subst this
          exact ek hl)
      exact ⟨fr', by rw [if_pos (by rw [l625, nleI (by omega) (by omega)]; exact e), q1]; rfl, q2⟩
    · left
      rw [if_neg (by rw [l625, nleI (by omega) (by omega)]; exact e), n1, nI_clamp (by omega)]
      refine ⟨(nI (i + 1), upd f i (if i = T then 0 else -9)), ?_, ⟨i + 1, _, by omega, rfl, fun k hk => ?_⟩, ?_⟩
      · by_cases ei : i = T
        · rw [if_pos (by rw [ei]), if_neg (gM (by omega) (by decide)), if_pos ei]
        · rw [if_neg (by rw [neqI (by omega) (by omega)]; exact ei), if_neg (gM (by omega) (by decide)), if_neg ei]
      · by_cases ek : k = i
        · subst ek; rw [upd_eq]
        · rw [upd_ne ek]; exact hf k (by omega)
      · dsimp only; rw [nI_clamp (by omega)]; omega
  exact ⟨fr', e1, e2⟩
