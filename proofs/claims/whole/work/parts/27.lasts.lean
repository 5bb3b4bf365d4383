/-! ===== which book lasts longest ===== -/
def upB (best : Option (Nat × Nat)) (i c : Nat) : Option (Nat × Nat) := match best with
  | none => some (i, c)
  | some (a, m) => if m < c then some (i, c) else some (a, m)
def lsN (cnt : Nat → Option Nat) : Nat → Nat → Option (Nat × Nat) → Option (Option (Nat × Nat))
  | 0, _, best => some best
  | r + 1, i, best => match cnt i with
    | none => none
    | some c => lsN cnt r (i + 1) (upB best i c)
theorem lsN_s {cnt : Nat → Option Nat} {r i c : Nat} {best : Option (Nat × Nat)} (h : cnt i = some c) : lsN cnt (r + 1) i best = lsN cnt r (i + 1) (upB best i c) := by
  show (match cnt i with | none => none | some c => lsN cnt r (i + 1) (upB best i c)) = _
  rw [h]
theorem lsN_n {cnt : Nat → Option Nat} {r i : Nat} {best : Option (Nat × Nat)} (h : cnt i = none) : lsN cnt (r + 1) i best = none := by
  show (match cnt i with | none => none | some c => lsN cnt r (i + 1) (upB best i c)) = _
  rw [h]
def bA (best : Option (Nat × Nat)) : Int32 := best.elim (-9) (fun p => nI p.1)
def bM (best : Option (Nat × Nat)) : Int32 := best.elim (-1) (fun p => nI p.2)
def okB (cnt : Nat → Option Nat) (B : Nat) (best : Option (Nat × Nat)) : Prop := ∀ a m, best = some (a, m) → a < B ∧ cnt a = some m
theorem okB_none {cnt : Nat → Option Nat} {B : Nat} : okB cnt B none := fun a m e => by cases e
theorem okB_up {cnt : Nat → Option Nat} {B i c : Nat} {best : Option (Nat × Nat)} (h : okB cnt B best) (hi : i < B) (hc : cnt i = some c) : okB cnt B (upB best i c) := by
  intro a m e
  cases best with
  | none => cases e; exact ⟨hi, hc⟩
  | some p =>
    obtain ⟨a', m'⟩ := p
    unfold upB at e
    dsimp only at e
    by_cases q : m' < c
    · rw [if_pos q] at e; cases e; exact ⟨hi, hc⟩
    · rw [if_neg q] at e; cases e; exact h _ _ rfl
theorem lsN_ok {cnt : Nat → Option Nat} {B : Nat} : ∀ {r i : Nat} {best fin : Option (Nat × Nat)}, okB cnt B best → i + r ≤ B → lsN cnt r i best = some fin → okB cnt B fin ∧ (best ≠ none ∨ 0 < r → fin ≠ none)
  | 0, i, best, fin, h1, _, h3 => by
    cases h3
    exact ⟨h1, fun q => q.elim id (fun z => absurd z (Nat.lt_irrefl 0))⟩
  | r + 1, i, best, fin, h1, h2, h3 => by
    cases hc : cnt i with
    | none => rw [lsN_n hc] at h3; cases h3
    | some c =>
      rw [lsN_s hc] at h3
      obtain ⟨g1, g2⟩ := lsN_ok (okB_up h1 (by omega) hc) (by omega) h3
      refine ⟨g1, fun _ => g2 (Or.inl ?_)⟩
      cases best with
      | none => intro z; cases z
      | some p =>
        unfold upB
        dsimp only
        by_cases q : p.2 < c
        · rw [if_pos q]; intro z; cases z
        · rw [if_neg q]; intro z; cases z
/-- how many copies a round from a book has; none: it goes on for ever -/
def cntN (n L S d : Nat) (t b : Nat → Nat) (w k : Nat) : Option Nat := (endN n L S d t b w k).map (·.2)
theorem bM_le {best : Option (Nat × Nat)} {i c : Nat} (hc : c < 2 ^ 30) (hb : ∀ p, best = some p → p.2 < 2 ^ 30) : (nI c ≤ bM best) = (upB best i c = best ∧ best ≠ none) := by
  cases best with
  | none =>
    apply propext
    refine ⟨fun z => ?_, fun z => absurd rfl z.2⟩
    have z : nI c ≤ jm1 := z
    rw [nle1 hc] at z
    exact z.elim
  | some p =>
    have h2 := hb p rfl
    show (nI c ≤ nI p.2) = _
    rw [nleI (by omega) (by omega)]
    obtain ⟨a, m⟩ := p
    apply propext
    unfold upB
    dsimp only
    by_cases q : m < c
    · rw [if_pos q]
      refine ⟨fun z => by omega, fun z => ?_⟩
      have := z.1
      cases this
      omega
    · rw [if_neg q]
      exact ⟨fun _ => ⟨rfl, fun z => by cases z⟩, fun _ => by omega⟩
theorem upB_of {best : Option (Nat × Nat)} {i c : Nat} (h : ¬ (upB best i c = best ∧ best ≠ none)) : upB best i c = some (i, c) := by
  cases best with
  | none => rfl
  | some p =>
    obtain ⟨a, m⟩ := p
    unfold upB at h ⊢
    dsimp only at h ⊢
    by_cases q : m < c
    · rw [if_pos q]
    · rw [if_neg q] at h; exact absurd ⟨rfl, fun z => by cases z⟩ h
theorem cnt_cases {n L S d : Nat} {t b : Nat → Nat} {w k : Nat} (h : HOK n L S d t b) (hw : WOK S w) (w0 : w ≠ 0) (hk : k < n ^ L) : (∃ s i q, s < 6 ∧ cntN n L S d t b w k = some i ∧ i < 3750 ∧ RN n L d t b w (n ^ L * S) (nb w 0) k = (q, i, some s) ∧ RN n L d t b w 4000 (nb w 0) k = (q, i, some s)) ∨ (∃ q q' m, cntN n L S d t b w k = none ∧ RN n L d t b w (n ^ L * S) (nb w 0) k = (q, m, none) ∧ RN n L d t b w 4000 (nb w 0) k = (q', 4000, none)) := by
  have hle := nS_le h
  rcases end_cases h hw w0 hk with ⟨s, i, q, g1, g2, g3, g4, g5⟩ | ⟨q, q', g1, g2, g3⟩
  · exact Or.inl ⟨s, i, q, g2, by unfold cntN; rw [g1]; rfl, by omega, g4, g5⟩
  · exact Or.inr ⟨q, q', _, by unfold cntN; rw [g1]; rfl, g2, g3⟩
theorem longest_ok {n L S d : Nat} {t b : Nat → Nat} {made : Nat → Int32} (h : HOK n L S d t b) (hm : LWT n L S d t b made) {w : Nat} (hw : WOK S w) (w0 : w ≠ 0) (y1 y2 y3 y4 : Int32) : ∃ x1 x2 x3 x4, f_X5_longestBook y1 y2 y3 y4 (nI S) (nI (n ^ L)) made (nI w) = some ((lsN (cntN n L S d t b w) (n ^ L) 0 none).elim (-9) bA, x1, x2, x3, x4) := by
  obtain ⟨h1, h2, h3, h4, h5, h6, h7⟩ := id h
  have hB := npow_le (n := n) (L := L) h2 h3
  unfold f_X5_longestBook
  obtain ⟨r, hr, x1, x2, x3, x4, hx⟩ := lp_IU (B := b_X5_longestBook_8 (nI S) (nI (n ^ L)) made (nI w)) (fun z => ∃ i best y1 y2 y3 y4, i ≤ n ^ L ∧ okB (cntN n L S d t b w) (n ^ L) best ∧ z = (bA best, bM best, nI i, y1, y2, y3, y4) ∧ lsN (cntN n L S d t b w) (n ^ L - i) i best = lsN (cntN n L S d t b w) (n ^ L) 0 none) (fun z => n ^ L - z.2.2.1.toNatClampNeg) (fun r => ∃ x1 x2 x3 x4, r = ((lsN (cntN n L S d t b w) (n ^ L) 0 none).elim (-9) bA, x1, x2, x3, x4)) (fun z hz => by
    obtain ⟨i, best, y1, y2, y3, y4, hi, hok, rfl, hls⟩ := hz
    unfold b_X5_longestBook_8
    dsimp only
    by_cases c : n ^ L ≤ i
    · right
      rw [show n ^ L - i = 0 by omega] at hls
      rw [← hls]
      simp (disch := omega) only [↓km1, ↓km2, ↓km3, ↓km9, l0, l1, l2, l3, l4, l5, l6, l8, l9, l10, l64, l625, nlt0, nltI, nleI, neqI, njrem, ndiv, nI_add, pk_mul, pk_sub, nI_clamp, bnd_some, nne9, nne1, nm1, ↓reduceIte, Bool.false_eq_true, reduceCtorEq, Option.elim, oI_none, oI_some]
      rw [if_pos c]
      exact ⟨_, rfl, _, _, _, _, rfl⟩
    · obtain ⟨j, hj⟩ : ∃ j, n ^ L - i = j + 1 := ⟨n ^ L - i - 1, by omega⟩
      rw [hj] at hls
      rw [runToEnd_ok h hm hw (show i < n ^ L by omega)]
      rcases cnt_cases h hw w0 (show i < n ^ L by omega) with ⟨s, x, q, g1, g2, g3, g4, g5⟩ | ⟨q, q', m, g1, g2, g3⟩
      · left
        rw [lsN_s g2] at hls
        rw [g4]
        have hbm : (nI x ≤ bM best) = (upB best i x = best ∧ best ≠ none) := bM_le (by omega) (fun p hp => by
          have := hok p.1 p.2 hp
          rcases cnt_cases h hw w0 this.1 with ⟨s', x', q', e1, e2, e3, -⟩ | ⟨_, _, _, e1, -⟩
          · rw [e2] at this; have := Option.some.inj this.2; omega
          · rw [e1] at this; cases this.2)
        unfold goesI
        refine ⟨(bA (upB best i x), bM (upB best i x), nI (i + 1), nI q, nI x, nI s, nI 0), ?_, ⟨i + 1, upB best i x, _, _, _, _, by omega, okB_up hok (by omega) g2, rfl, by rw [show n ^ L - (i + 1) = j by omega]; exact hls⟩, ?_⟩
        · simp (disch := omega) only [↓km1, ↓km2, ↓km3, ↓km9, l0, l1, l2, l3, l4, l5, l6, l8, l9, l10, l64, l625, nlt0, nltI, nleI, neqI, njrem, ndiv, nI_add, pk_mul, pk_sub, nI_clamp, bnd_some, nne9, nne1, nm1, ↓reduceIte, Bool.false_eq_true, reduceCtorEq, Option.elim, oI_none, oI_some, hbm, Option.isSome, Bool.true_or]
          rw [if_neg c]
          by_cases e : upB best i x = best ∧ best ≠ none
          · rw [if_pos e, e.1]
          · rw [if_neg e, upB_of e]
            rfl
        · dsimp only
          rw [nI_clamp (by omega), nI_clamp (by omega)]
          omega
      · right
        rw [lsN_n g1] at hls
        rw [← hls, g2]
        unfold goesI
        have hw0 : (w == 0) = false := by simp [w0]
        simp (disch := omega) only [↓km1, ↓km2, ↓km3, ↓km9, l0, l1, l2, l3, l4, l5, l6, l8, l9, l10, l64, l625, nlt0, nltI, nleI, neqI, njrem, ndiv, nI_add, pk_mul, pk_sub, nI_clamp, bnd_some, nne9, nne1, nm1, ↓reduceIte, Bool.false_eq_true, reduceCtorEq, Option.elim, oI_none, oI_some, Option.isSome, Bool.false_or, hw0, Nat.one_ne_zero]
        rw [if_neg c]
        exact ⟨_, rfl, _, _, _, _, rfl⟩) ((-9 : Int32), (-1 : Int32), (0 : Int32), y1, y2, y3, y4) ⟨0, none, y1, y2, y3, y4, Nat.zero_le _, okB_none, rfl, rfl⟩ (by show n ^ L - _ < _; omega)
  exact ⟨x1, x2, x3, x4, by rw [hr, hx]⟩
theorem mlasts_ok {n L S d : Nat} {t b : Nat → Nat} {op li sc ne tu be now : Nat → Int32} (h : MH n L S d t b op li sc ne tu be) {w what : Nat} (hw : WOK S w) (w0 : w ≠ 0) (hbw : f_X9_boughtIn sc now = some (nI w)) (hwh : what < 2) (y1 y2 y3 : Int32) : ∃ x1 x2 x3, lpF (b_X9_lasts_38 op li sc tu be ne now (nI what)) FU ((-9 : Int32), (-1 : Int32), (0 : Int32), y1, y2, y3) = some ((lsN (cntN n L S d t b w) (n ^ L) 0 none).elim (-9) (fun r => if what = 0 then bA r else bM r), x1, x2, x3) := by
  obtain ⟨⟨g1, g2, g3, g4, g5, g6, g7⟩, h1, h2, h3, h4, h5⟩ := id h
  have hB := npow_le (n := n) (L := L) g2 g3
  obtain ⟨r, hr, x1, x2, x3, hx⟩ := lp_IU (B := b_X9_lasts_38 op li sc tu be ne now (nI what)) (fun z => ∃ i best y1 y2 y3, i ≤ n ^ L ∧ okB (cntN n L S d t b w) (n ^ L) best ∧ z = (bA best, bM best, nI i, y1, y2, y3) ∧ lsN (cntN n L S d t b w) (n ^ L - i) i best = lsN (cntN n L S d t b w) (n ^ L) 0 none) (fun z => n ^ L - z.2.2.1.toNatClampNeg) (fun r => ∃ x1 x2 x3, r = ((lsN (cntN n L S d t b w) (n ^ L) 0 none).elim (-9) (fun r => if what = 0 then bA r else bM r), x1, x2, x3)) (fun z hz => by
    obtain ⟨i, best, y1, y2, y3, hi, hok, rfl, hls⟩ := hz
    unfold b_X9_lasts_38
    dsimp only
    rw [mbooks_ok g1 g2 g3 h1 h2, bnd_some]
    by_cases c : n ^ L ≤ i
    · right
      rw [show n ^ L - i = 0 by omega] at hls
      rw [← hls]
      simp (disch := omega) only [↓km1, ↓km2, ↓km3, ↓km9, l0, l1, l2, l3, l4, l5, l6, l8, l9, l10, l64, l625, nlt0, nltI, nleI, neqI, njrem, ndiv, nI_add, pk_mul, pk_sub, nI_clamp, bnd_some, nne9, nne1, nm1, ↓reduceIte, Bool.false_eq_true, reduceCtorEq, Option.elim, oI_none, oI_some]
      rw [if_pos c]
      by_cases e : what = 0
      · rw [if_pos e]
        exact ⟨_, rfl, _, _, _, by show _ = (if what = 0 then bA best else bM best, _, _, _); rw [if_pos e]⟩
      · rw [if_neg e]
        exact ⟨_, rfl, _, _, _, by show _ = (if what = 0 then bA best else bM best, _, _, _); rw [if_neg e]⟩
    · obtain ⟨j, hj⟩ : ∃ j, n ^ L - i = j + 1 := ⟨n ^ L - i - 1, by omega⟩
      rw [hj] at hls
      rw [hbw, bnd_some, show (4000 : Int32) = nI 4000 from rfl, go_ok h hw (show i < n ^ L by omega) (Nat.le_refl 4000)]
      rcases cnt_cases h.1 hw w0 (show i < n ^ L by omega) with ⟨s, x, q, e1, e2, e3, e4, e5⟩ | ⟨q, q', m, e1, e2, e3⟩
      · left
        rw [lsN_s e2] at hls
        rw [e5]
        have hbm : (nI x ≤ bM best) = (upB best i x = best ∧ best ≠ none) := bM_le (by omega) (fun p hp => by
          have := hok p.1 p.2 hp
          rcases cnt_cases h.1 hw w0 this.1 with ⟨s', x', q', e1, e2, e3, -⟩ | ⟨_, _, _, e1, -⟩
          · rw [e2] at this; have := Option.some.inj this.2; omega
          · rw [e1] at this; cases this.2)
        refine ⟨(bA (upB best i x), bM (upB best i x), nI (i + 1), nI q, nI s, nI x), ?_, ⟨i + 1, upB best i x, _, _, _, by omega, okB_up hok (by omega) e2, rfl, by rw [show n ^ L - (i + 1) = j by omega]; exact hls⟩, ?_⟩
        · simp (disch := omega) only [↓km1, ↓km2, ↓km3, ↓km9, l0, l1, l2, l3, l4, l5, l6, l8, l9, l10, l64, l625, nlt0, nltI, nleI, neqI, njrem, ndiv, nI_add, pk_mul, pk_sub, nI_clamp, bnd_some, nne9, nne1, nm1, ↓reduceIte, Bool.false_eq_true, reduceCtorEq, Option.elim, oI_none, oI_some, hbm]
          rw [if_neg c, if_neg (by omega)]
          by_cases e : upB best i x = best ∧ best ≠ none
          · rw [if_pos e, e.1]
          · rw [if_neg e, upB_of e]
            rfl
        · dsimp only
          rw [nI_clamp (by omega), nI_clamp (by omega)]
          omega
      · right
        rw [lsN_n e1] at hls
        rw [← hls, e3]
        simp (disch := omega) only [↓km1, ↓km2, ↓km3, ↓km9, l0, l1, l2, l3, l4, l5, l6, l8, l9, l10, l64, l625, nlt0, nltI, nleI, neqI, njrem, ndiv, nI_add, pk_mul, pk_sub, nI_clamp, bnd_some, nne9, nne1, nm1, ↓reduceIte, Bool.false_eq_true, reduceCtorEq, Option.elim, oI_none, oI_some]
        rw [if_neg c]
        exact ⟨_, rfl, _, _, _, rfl⟩) ((-9 : Int32), (-1 : Int32), (0 : Int32), y1, y2, y3) ⟨0, none, y1, y2, y3, Nat.zero_le _, okB_none, rfl, rfl⟩ (by show n ^ L - _ < _; omega)
  exact ⟨x1, x2, x3, by rw [hr, hx]⟩
