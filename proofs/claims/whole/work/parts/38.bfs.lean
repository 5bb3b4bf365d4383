/-! ===== the class's search ===== -/
def uq (f : Nat → Nat) (k x : Nat) : Nat → Nat := fun j => if j = k then x else f j
theorem uq_eq {f : Nat → Nat} {k x : Nat} : uq f k x k = x := if_pos rfl
theorem uq_ne {f : Nat → Nat} {k x j : Nat} (h : j ≠ k) : uq f k x j = f j := if_neg h
/-- the queue, behind K asks: q the books, f the places of those they came from, u by whom -/
def SQ (w : Nat) (cv : Nat → Nat → Bool) (cp : Nat → Nat → Nat) (B k0 K m : Nat) (q f u : Nat → Nat) : Prop :=
  (1 ≤ m ∧ q 0 = k0 ∧ (∀ p, p < m → q p < B) ∧ (∀ p p', p < m → p' < m → q p = q p' → p = p')) ∧
  (∀ p, 1 ≤ p → p < m → f p < p ∧ u p < 6 ∧ 6 * f p + u p < K ∧ btN w (u p) = true ∧ cv (u p) (q (f p)) = false ∧ cp (u p) (q (f p)) = q p) ∧
  (∀ p p', 1 ≤ p → p < p' → p' < m → 6 * f p + u p < 6 * f p' + u p') ∧
  (∀ r s, r < m → s < 6 → 6 * r + s < K → btN w s = true → cv s (q r) = false → ∃ p, p < m ∧ q p = cp s (q r) ∧ (p = 0 ∨ 6 * f p + u p ≤ 6 * r + s))
theorem SQ_m {w : Nat} {cv : Nat → Nat → Bool} {cp : Nat → Nat → Nat} {B k0 K m : Nat} {q f u : Nat → Nat} (h : SQ w cv cp B k0 K m q f u) : m ≤ B := by
  apply Nat.le_of_not_lt
  intro c
  obtain ⟨⟨h1, h2, h3, h4⟩, -⟩ := h
  obtain ⟨i, j, a1, a2, a3⟩ := php B q (fun i hi => h3 i (by omega))
  have := h4 i j (by omega) (by omega) a3
  omega
theorem SQ_skip {w : Nat} {cv : Nat → Nat → Bool} {cp : Nat → Nat → Nat} {B k0 i s m : Nat} {q f u : Nat → Nat} (h : SQ w cv cp B k0 (6 * i + s) m q f u) (hs : s < 6) (hx : btN w s = true → cv s (q i) = false → ∃ p, p < m ∧ q p = cp s (q i)) : SQ w cv cp B k0 (6 * i + (s + 1)) m q f u := by
  obtain ⟨h1, h2, h3, h4⟩ := h
  refine ⟨h1, fun p hp hp2 => ?_, h3, fun r s' hr hs' hk hb hc => ?_⟩
  · obtain ⟨a1, a2, a3, a4⟩ := h2 p hp hp2
    exact ⟨a1, a2, by omega, a4⟩
  · by_cases e : 6 * r + s' = 6 * i + s
    · have er : r = i := by omega
      have es : s' = s := by omega
      subst er es
      obtain ⟨p, p1, p2⟩ := hx hb hc
      refine ⟨p, p1, p2, ?_⟩
      by_cases e0 : p = 0
      · exact Or.inl e0
      · exact Or.inr (by have := (h2 p (by omega) p1).2.2.1; omega)
    · exact h4 r s' hr hs' (by omega) hb hc
theorem SQ_push {w : Nat} {cv : Nat → Nat → Bool} {cp : Nat → Nat → Nat} {B k0 i s m : Nat} {q f u : Nat → Nat} (h : SQ w cv cp B k0 (6 * i + s) m q f u) (hs : s < 6) (hi : i < m) (hb : btN w s = true) (hc : cv s (q i) = false) (hB : cp s (q i) < B) (hx : ∀ p, p < m → q p ≠ cp s (q i)) : SQ w cv cp B k0 (6 * i + (s + 1)) (m + 1) (uq q m (cp s (q i))) (uq f m i) (uq u m s) := by
  obtain ⟨⟨a1, a2, a3, a4⟩, h2, h3, h4⟩ := h
  refine ⟨⟨by omega, by rw [uq_ne (by omega)]; exact a2, fun p hp => ?_, fun p p' hp hp' e => ?_⟩, fun p hp hp2 => ?_, fun p p' hp hpp hp' => ?_, fun r s' hr hs' hk hb' hc' => ?_⟩
  · by_cases e : p = m
    · subst e; rw [uq_eq]; exact hB
    · rw [uq_ne e]; exact a3 p (by omega)
  · by_cases e1 : p = m
    · by_cases e2 : p' = m
      · rw [e1, e2]
      · rw [e1, uq_eq, uq_ne e2] at e
        exact absurd e.symm (hx p' (by omega))
    · by_cases e2 : p' = m
      · rw [e2, uq_eq, uq_ne e1] at e
        exact absurd e (hx p (by omega))
      · rw [uq_ne e1, uq_ne e2] at e
        exact a4 p p' (by omega) (by omega) e
  · by_cases e : p = m
    · subst e
      rw [uq_eq, uq_eq, uq_eq, uq_ne (show i ≠ p by omega)]
      exact ⟨hi, hs, by omega, hb, hc, rfl⟩
    · obtain ⟨b1, b2, b3, b4⟩ := h2 p hp (by omega)
      rw [uq_ne e, uq_ne e, uq_ne e, uq_ne (show f p ≠ m by omega)]
      exact ⟨b1, b2, by omega, b4⟩
  · by_cases e : p' = m
    · subst e
      rw [uq_eq, uq_eq, uq_ne (show p ≠ p' by omega), uq_ne (show p ≠ p' by omega)]
      exact (h2 p hp (by omega)).2.2.1
    · rw [uq_ne e, uq_ne e, uq_ne (show p ≠ m by omega), uq_ne (show p ≠ m by omega)]
      exact h3 p p' hp hpp (by omega)
  · by_cases e : 6 * r + s' = 6 * i + s
    · have er : r = i := by omega
      have es : s' = s := by omega
      subst er es
      refine ⟨m, by omega, by rw [uq_eq, uq_ne (show r ≠ m by omega)], Or.inr (by rw [uq_eq, uq_eq]; exact Nat.le_refl _)⟩
    · have hrm : r < m := by
        apply Nat.lt_of_le_of_ne (by omega)
        intro e2
        omega
      rw [uq_ne (show r ≠ m by omega)] at hc' ⊢
      obtain ⟨p, p1, p2, p3⟩ := h4 r s' hrm hs' (by omega) hb' hc'
      exact ⟨p, by omega, by rw [uq_ne (show p ≠ m by omega)]; exact p2, by rw [uq_ne (show p ≠ m by omega), uq_ne (show p ≠ m by omega)]; exact p3⟩
/-- the four rows of the search -/
def SR (m : Nat) (q f u dp : Nat → Nat) (dist bef lst que : Nat → Int32) : Prop :=
  (∀ p, p < m → que p = nI (q p)) ∧ (∀ p, p < m → dist (q p) = nI (dp p)) ∧ (∀ k, k < 625 → (∀ p, p < m → q p ≠ k) → dist k = -1) ∧ (∀ p, 1 ≤ p → p < m → bef (q p) = nI (q (f p)) ∧ lst (q p) = nI (u p)) ∧ dp 0 = 0 ∧ (∀ p, 1 ≤ p → p < m → dp p = dp (f p) + 1) ∧ ∀ p, p < m → dp p ≤ p
theorem isBook_in {k : Nat} (h : k < 625) : f_X7_isBook (nI k) = some 1 := by
  unfold f_X7_isBook
  rw [if_neg (nI_pos (by omega)), if_neg (by rw [l625, nleI (by omega) (by omega)]; omega)]
theorem isBook_m : f_X7_isBook (-1 : Int32) = some 0 := rfl
theorem distOf_ok {dist : Nat → Int32} {k : Nat} (h : k < 625) : f_X7_distanceOf dist (nI k) = some (dist k) := by
  unfold f_X7_distanceOf
  rw [isBook_in h, bnd_some, if_neg (by decide), if_neg (gN h (by decide)), nI_clamp (by omega)]
theorem isFound_y {dist : Nat → Int32} {k v : Nat} (h : k < 625) (hv : v < 2 ^ 30) (e : dist k = nI v) : f_X7_isFound dist (nI k) = some 1 := by
  unfold f_X7_isFound
  rw [distOf_ok h, bnd_some, e, if_neg (fun z => m1ne hv z.symm)]
theorem isFound_n {dist : Nat → Int32} {k : Nat} (h : k < 625) (e : dist k = -1) : f_X7_isFound dist (nI k) = some 0 := by
  unfold f_X7_isFound
  rw [distOf_ok h, bnd_some, e, if_pos rfl]
theorem find_m {qd : Int32} {dist bef lst que : Nat → Int32} {a c e : Int32} : f_X7_find qd dist bef lst que (-1 : Int32) a c e = some (qd, dist, bef, lst, que) := by
  unfold f_X7_find
  rw [isBook_m, bnd_some, if_pos rfl]
theorem find_old {qd : Int32} {dist bef lst que : Nat → Int32} {k v : Nat} {a c e : Int32} (h : k < 625) (hv : v < 2 ^ 30) (hd : dist k = nI v) : f_X7_find qd dist bef lst que (nI k) a c e = some (qd, dist, bef, lst, que) := by
  unfold f_X7_find
  rw [isBook_in h, bnd_some, if_neg (by decide), isFound_y h hv hd, bnd_some, if_neg (by decide)]
theorem find_new {m : Nat} {dist bef lst que : Nat → Int32} {k : Nat} {a c e : Int32} (h : k < 625) (hm : m < 625) (hd : dist k = -1) : f_X7_find (nI m) dist bef lst que (nI k) a c e = some (nI (m + 1), upd dist k e, upd bef k a, upd lst k c, upd que m (nI k)) := by
  unfold f_X7_find
  rw [isBook_in h, bnd_some, if_neg (by decide), isFound_n h hd, bnd_some, if_pos rfl, if_neg (nI_pos (by omega)), if_neg (by rw [l625, nleI (by omega) (by omega)]; omega), if_neg (gN h (by decide)), if_neg (gN h (by decide)), if_neg (gN h (by decide)), if_neg (gN hm (by decide)), n1, nI_clamp (by omega), nI_clamp (by omega)]
theorem SR_push {m i s x : Nat} {q f u dp : Nat → Nat} {dist bef lst que : Nat → Int32} (h : SR m q f u dp dist bef lst que) (hi : i < m) (hf : ∀ p, 1 ≤ p → p < m → f p < p) (hx : ∀ p, p < m → q p ≠ x) : SR (m + 1) (uq q m x) (uq f m i) (uq u m s) (uq dp m (dp i + 1)) (upd dist x (nI (dp i + 1))) (upd bef x (nI (q i))) (upd lst x (nI s)) (upd que m (nI x)) := by
  obtain ⟨h1, h2, h3, h4, h5, h6, h7⟩ := h
  refine ⟨fun p hp => ?_, fun p hp => ?_, fun k hk hn => ?_, fun p hp hp2 => ?_, ?_, fun p hp hp2 => ?_, fun p hp => ?_⟩
  · by_cases e : p = m
    · subst e; rw [upd_eq, uq_eq]
    · rw [upd_ne e, uq_ne e]; exact h1 p (by omega)
  · by_cases e : p = m
    · subst e; rw [uq_eq, uq_eq, upd_eq]
    · rw [uq_ne e, uq_ne e, upd_ne (hx p (by omega))]; exact h2 p (by omega)
  · have hkx : k ≠ x := fun e => hn m (by omega) (by rw [uq_eq, e])
    rw [upd_ne hkx]
    refine h3 k hk (fun p hp e => hn p (by omega) ?_)
    rw [uq_ne (show p ≠ m by omega)]; exact e
  · by_cases e : p = m
    · subst e
      rw [uq_eq, uq_eq, uq_eq, upd_eq, upd_eq, uq_ne (show i ≠ p by omega)]
      exact ⟨rfl, rfl⟩
    · have := hf p hp (by omega)
      rw [uq_ne e, uq_ne e, uq_ne e, uq_ne (show f p ≠ m by omega), upd_ne (hx p (by omega)), upd_ne (hx p (by omega))]
      exact h4 p hp (by omega)
  · by_cases e : 0 = m
    · omega
    · rw [uq_ne e]; exact h5
  · by_cases e : p = m
    · subst e; rw [uq_eq, uq_eq, uq_ne (show i ≠ p by omega)]
    · have := hf p hp (by omega)
      rw [uq_ne e, uq_ne e, uq_ne (show f p ≠ m by omega)]; exact h6 p hp (by omega)
  · by_cases e : p = m
    · subst e; rw [uq_eq]; have := h7 i hi; omega
    · rw [uq_ne e]; exact h7 p (by omega)
abbrev QT := Int32 × (Nat → Int32) × (Nat → Int32) × (Nat → Int32) × (Nat → Int32)
/-- the search's rows stand for a queue behind K asks -/
def QS (w : Nat) (cv : Nat → Nat → Bool) (cp : Nat → Nat → Nat) (B k0 K m : Nat) (q f u dp : Nat → Nat) (z : QT) : Prop := z.1 = nI m ∧ SQ w cv cp B k0 K m q f u ∧ SR m q f u dp z.2.1 z.2.2.1 z.2.2.2.1 z.2.2.2.2
theorem se79_ok {n L S d : Nat} {t b : Nat → Nat} {made : Nat → Int32} (h : HOK n L S d t b) (hm : LWT n L S d t b made) {w k0 i m : Nat} {q f u dp : Nat → Nat} {z : QT} (hw : WOK S w) (hi : i < m) (hz : QS w (CV n L d t b) (CP n L t b) (n ^ L) k0 (6 * i) m q f u dp z) :
    ∃ m' q' f' u' dp' z', i + 1 ≤ m' ∧ lpF (b_X7_search_79 (nI S) (nI (n ^ L)) made (nI w) (nI i) (nI (q i))) FU ((0 : Int32), z) = some (.inl (nI (i + 1), z')) ∧ QS w (CV n L d t b) (CP n L t b) (n ^ L) k0 (6 * (i + 1)) m' q' f' u' dp' z' := by
  obtain ⟨g1, g2, g3, g4, g5, g6, g7⟩ := id h
  have hB := npow_le (n := n) (L := L) g2 g3
  generalize hbk : q i = bk
  obtain ⟨t0, e1, m', q', f', u', dp', z', e2, e3, e4⟩ := lp_IU (B := b_X7_search_79 (nI S) (nI (n ^ L)) made (nI w) (nI i) (nI bk)) (I := fun y => ∃ s m q f u dp z, s ≤ 6 ∧ i < m ∧ q i = bk ∧ y = (nI s, z) ∧ QS w (CV n L d t b) (CP n L t b) (n ^ L) k0 (6 * i + s) m q f u dp z) (μ := fun y => 6 - y.1.toNatClampNeg)
    (P := fun r => ∃ m' q' f' u' dp' z', r = .inl (nI (i + 1), z') ∧ i + 1 ≤ m' ∧ QS w (CV n L d t b) (CP n L t b) (n ^ L) k0 (6 * (i + 1)) m' q' f' u' dp' z') (fun y hy => by
    obtain ⟨s, m, q, f, u, dp, ⟨qd, dist, bef, lst, que⟩, hs, hi, hbk, rfl, hz⟩ := hy
    obtain ⟨e0, hQ, hR⟩ := hz
    have e0 : qd = nI m := e0
    subst e0
    have hR : SR m q f u dp dist bef lst que := hR
    have hmB := SQ_m hQ
    have hqi : q i < n ^ L := hQ.1.2.2.1 i hi
    have hdp : dp i ≤ i := hR.2.2.2.2.2.2 i hi
    unfold b_X7_search_79
    dsimp only
    by_cases es : s = 6
    · right
      subst es
      refine ⟨_, by rw [if_pos (by decide), n1], m, q, f, u, dp, (nI m, dist, bef, lst, que), rfl, hi, rfl, ?_, hR⟩
      rw [show 6 * (i + 1) = 6 * i + 6 by omega]
      exact hQ
    · left
      rw [if_neg (by rw [l6, nleI (by omega) (by omega)]; omega), n1]
      have dec : 6 - (nI (s + 1)).toNatClampNeg < 6 - (nI s).toNatClampNeg := by rw [nI_clamp (by omega), nI_clamp (by omega)]; omega
      cases hb : btN w s with
      | false =>
        rw [bit_n hw.1 (by omega) hb, if_neg (by decide)]
        refine ⟨(nI (s + 1), nI m, dist, bef, lst, que), rfl, ⟨s + 1, m, q, f, u, dp, _, by omega, hi, hbk, rfl, rfl, SQ_skip hQ (by omega) (fun c => by rw [hb] at c; cases c), hR⟩, dec⟩
      | true =>
        have hsS : s < S := hw.2 s (by omega) hb
        rw [bit_y hw.1 (by omega) hb, if_pos rfl, ← hbk, distOf_ok (by omega), hR.2.1 i hi]
        cases hv : cvN n L d (sy n t b s) (q i) with
        | true =>
          rw [copyBy_c h hm hsS hqi hv, bnd_some, bnd_some, find_m, bnd_some]
          refine ⟨(nI (s + 1), nI m, dist, bef, lst, que), rfl, ⟨s + 1, m, q, f, u, dp, _, by omega, hi, rfl, rfl, rfl, SQ_skip hQ (by omega) (fun _ c => ?_), hR⟩, dec⟩
          have : CV n L d t b s (q i) = true := hv
          rw [this] at c; cases c
        | false =>
          have hv' : CV n L d t b s (q i) = false := hv
          have hc : cpN n (sy n t b s) L (q i) < n ^ L := cpN_lt (fun x => sy_lt g1) L (q i)
          rw [copyBy_n h hm hsS hqi hv, bnd_some, bnd_some, n1]
          by_cases ex : ∃ p, p < m ∧ q p = cpN n (sy n t b s) L (q i)
          · obtain ⟨p, p1, p2⟩ := ex
            have hpd : dp p ≤ p := hR.2.2.2.2.2.2 p p1
            rw [find_old (v := dp p) (by omega) (by omega) (by rw [← p2]; exact hR.2.1 p p1), bnd_some]
            exact ⟨(nI (s + 1), nI m, dist, bef, lst, que), rfl, ⟨s + 1, m, q, f, u, dp, _, by omega, hi, rfl, rfl, rfl, SQ_skip hQ (by omega) (fun _ _ => ⟨p, p1, p2⟩), hR⟩, dec⟩
          · have hx : ∀ p, p < m → q p ≠ CP n L t b s (q i) := fun p hp e => ex ⟨p, hp, e⟩
            have hQ' := SQ_push hQ (by omega) hi hb hv' hc hx
            have hmB' := SQ_m hQ'
            have hR' := SR_push (s := s) hR hi (fun p hp hp2 => (hQ.2.1 p hp hp2).1) hx
            have hdn : dist (cpN n (sy n t b s) L (q i)) = -1 := hR.2.2.1 _ (by omega) hx
            rw [find_new (by omega) (by omega) hdn, bnd_some]
            exact ⟨(nI (s + 1), nI (m + 1), _, _, _, _), rfl, ⟨s + 1, m + 1, _, _, _, _, _, by omega, by omega, by rw [uq_ne (show i ≠ m by omega)], rfl, rfl, hQ', hR'⟩, dec⟩) ((0 : Int32), z) ⟨0, m, q, f, u, dp, z, by decide, hi, hbk, rfl, hz⟩ (by show 6 - _ < _; omega)
  exact ⟨m', q', f', u', dp', z', e3, by rw [e1, e2], e4⟩
theorem search_ok {n L S d : Nat} {t b : Nat → Nat} {made : Nat → Int32} (h : HOK n L S d t b) (hm : LWT n L S d t b made) {w k0 T : Nat} (hw : WOK S w) (hk : k0 < n ^ L) (hT : T < n ^ L) (dist0 bef0 lst0 que0 : Nat → Int32) :
    ∃ z i m q f u dp, f_X7_search (nI S) (nI (n ^ L)) made dist0 bef0 lst0 que0 (nI k0) (nI w) (nI T) = some z ∧ QS w (CV n L d t b) (CP n L t b) (n ^ L) k0 (6 * i) m q f u dp z ∧ ((∃ p, p < m ∧ q p = T) ∨ (i = m ∧ ∀ p, p < m → q p ≠ T)) := by
  obtain ⟨g1, g2, g3, g4, g5, g6, g7⟩ := id h
  have hB := npow_le (n := n) (L := L) g2 g3
  have s42 : ∀ z : QT, (∃ m q f u dp, QS w (CV n L d t b) (CP n L t b) (n ^ L) k0 0 m q f u dp z) → ∃ z', lpF (b_X7_search_42 (nI S) (nI (n ^ L)) made (nI w) (nI T)) FU ((0 : Int32), z) = some z' ∧ ∃ i m q f u dp, QS w (CV n L d t b) (CP n L t b) (n ^ L) k0 (6 * i) m q f u dp z' ∧ ((∃ p, p < m ∧ q p = T) ∨ (i = m ∧ ∀ p, p < m → q p ≠ T)) := by
    intro z hz
    obtain ⟨m, q, f, u, dp, hz⟩ := hz
    refine lp_IU (B := b_X7_search_42 (nI S) (nI (n ^ L)) made (nI w) (nI T)) (I := fun y => ∃ i m q f u dp z, i ≤ m ∧ y = (nI i, z) ∧ QS w (CV n L d t b) (CP n L t b) (n ^ L) k0 (6 * i) m q f u dp z) (μ := fun y => 625 - y.1.toNatClampNeg) (P := fun z' => ∃ i m q f u dp, QS w (CV n L d t b) (CP n L t b) (n ^ L) k0 (6 * i) m q f u dp z' ∧ ((∃ p, p < m ∧ q p = T) ∨ (i = m ∧ ∀ p, p < m → q p ≠ T))) (fun y hy => ?_) ((0 : Int32), z) ⟨0, m, q, f, u, dp, z, Nat.zero_le _, rfl, hz⟩ (by show 625 - _ < _; omega)
    obtain ⟨i, m, q, f, u, dp, ⟨qd, dist, bef, lst, que⟩, hi, rfl, hz⟩ := hy
    have hz0 := hz
    obtain ⟨e0, hQ, hR⟩ := hz
    have e0 : qd = nI m := e0
    subst e0
    have hR : SR m q f u dp dist bef lst que := hR
    have hmB := SQ_m hQ
    unfold b_X7_search_42
    dsimp only
    by_cases ex : ∃ p, p < m ∧ q p = T
    · right
      have ex0 := ex
      obtain ⟨p, p1, p2⟩ := ex
      have hpd : dp p ≤ p := hR.2.2.2.2.2.2 p p1
      refine ⟨(nI m, dist, bef, lst, que), ?_, i, m, q, f, u, dp, hz0, Or.inl ex0⟩
      by_cases c1 : m ≤ i
      · rw [if_pos (by rw [nleI (by omega) (by omega)]; exact c1)]
      · rw [if_neg (by rw [nleI (by omega) (by omega)]; exact c1), if_neg (by rw [l625, nleI (by omega) (by omega)]; omega), isFound_y (v := dp p) (by omega) (by omega) (by rw [← p2]; exact hR.2.1 p p1), bnd_some, if_neg (by decide)]
    · have hn : ∀ p, p < m → q p ≠ T := fun p hp e => ex ⟨p, hp, e⟩
      by_cases c1 : m ≤ i
      · right
        exact ⟨(nI m, dist, bef, lst, que), by rw [if_pos (by rw [nleI (by omega) (by omega)]; exact c1)], i, m, q, f, u, dp, hz0, Or.inr ⟨by omega, hn⟩⟩
      · left
        rw [if_neg (by rw [nleI (by omega) (by omega)]; exact c1), if_neg (by rw [l625, nleI (by omega) (by omega)]; omega), isFound_n (by omega) (hR.2.2.1 T (by omega) hn), bnd_some, if_pos rfl, if_neg (gN (by omega) (by decide)), nI_clamp (by omega), hR.1 i (by omega)]
        obtain ⟨m', q', f', u', dp', z', e1, e2, e3⟩ := se79_ok h hm hw (show i < m by omega) hz0
        exact ⟨(nI (i + 1), z'), e2, ⟨i + 1, m', q', f', u', dp', z', e1, rfl, e3⟩, by dsimp only; rw [nI_clamp (by omega)]; omega⟩
  unfold f_X7_search
  have hfin : ∃ z, lpF (b_X7_search_3 (nI S) (nI (n ^ L)) made bef0 lst0 que0 (nI k0) (nI w) (nI T)) FU ((0 : Int32), dist0) = some z ∧ ∃ i m q f u dp, QS w (CV n L d t b) (CP n L t b) (n ^ L) k0 (6 * i) m q f u dp z ∧ ((∃ p, p < m ∧ q p = T) ∨ (i = m ∧ ∀ p, p < m → q p ≠ T)) := by
    refine lp_IU (B := b_X7_search_3 (nI S) (nI (n ^ L)) made bef0 lst0 que0 (nI k0) (nI w) (nI T)) (I := fun y => ∃ i g, i ≤ 625 ∧ y = (nI i, g) ∧ ∀ k, k < i → g k = -1) (μ := fun y => 625 - y.1.toNatClampNeg) (P := fun z => ∃ i m q f u dp, QS w (CV n L d t b) (CP n L t b) (n ^ L) k0 (6 * i) m q f u dp z ∧ ((∃ p, p < m ∧ q p = T) ∨ (i = m ∧ ∀ p, p < m → q p ≠ T))) (fun y hy => ?_) ((0 : Int32), dist0) ⟨0, dist0, by decide, rfl, fun k hk => absurd hk (Nat.not_lt_zero k)⟩ (by show 625 - _ < _; omega)
    obtain ⟨i, g, hi, rfl, hg⟩ := hy
    unfold b_X7_search_3
    dsimp only
    by_cases c : 625 ≤ i
    · right
      rw [if_pos (by rw [l625, nleI (by omega) (by omega)]; exact c), l0, find_new (m := 0) (by omega) (by decide) (hg k0 (by omega)), bnd_some]
      have hin : ∃ m q f u dp, QS w (CV n L d t b) (CP n L t b) (n ^ L) k0 0 m q f u dp (nI (0 + 1), upd g k0 (nI 0), upd bef0 k0 (nI k0), upd lst0 k0 (-9 : Int32), upd que0 0 (nI k0)) := by
        refine ⟨1, fun _ => k0, fun _ => 0, fun _ => 0, fun _ => 0, rfl, ⟨⟨by omega, rfl, fun p hp => hk, fun p p' hp hp' _ => by omega⟩, fun p hp hp2 => by omega, fun p p' hp hp2 hp3 => by omega, fun r s' hr hs hk => by omega⟩, fun p hp => ?_, fun p hp => ?_, fun k hk2 hn => ?_, fun p hp hp2 => by omega, rfl, fun p hp hp2 => by omega, fun p hp => Nat.zero_le _⟩
        · have : p = 0 := by omega
          subst this
          show upd que0 0 (nI k0) 0 = nI k0
          exact upd_eq
        · show upd g k0 (nI 0) k0 = nI 0
          exact upd_eq
        · show upd g k0 (nI 0) k = -1
          rw [upd_ne (fun e => hn 0 (by omega) e.symm)]
          exact hg k (by omega)
      obtain ⟨z', e1, e2⟩ := s42 _ hin
      refine ⟨z', ?_, e2⟩
      rw [l0] at e1
      rw [e1]
      rfl
    · left
      rw [if_neg (by rw [l625, nleI (by omega) (by omega)]; exact c), if_neg (gN (by omega) (by decide)), n1, nI_clamp (by omega)]
      refine ⟨(nI (i + 1), upd g i (-1)), rfl, ⟨i + 1, _, by omega, rfl, fun k hk => ?_⟩, ?_⟩
      · by_cases ek : k = i
        · subst ek; rw [upd_eq]
        · rw [upd_ne ek]; exact hg k (by omega)
      · dsimp only; rw [nI_clamp (by omega)]; omega
  obtain ⟨z, e1, i, m, q, f, u, dp, e2, e3⟩ := hfin
  exact ⟨z, i, m, q, f, u, dp, e1, e2, e3⟩
