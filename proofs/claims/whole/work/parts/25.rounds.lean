/-! ===== rounds ===== -/
def btN (w s : Nat) : Bool := w / 2 ^ s % 2 == 1
/-- the first scribe bought in from s on, and round -/
def nb (w s : Nat) : Option Nat := (srch (fun i => btN w ((s + i) % 6)) 6 0).map (fun i => (s + i) % 6)
def dst (w s : Nat) : Nat := (srch (fun i => btN w ((s + i) % 6)) 6 0).getD 0
/-- a round of at most m copies: the book, how many, who ended it -/
def rn (w : Nat) (cv : Nat → Nat → Bool) (cp : Nat → Nat → Nat) : Nat → Option Nat → Nat → Nat × Nat × Option Nat
  | 0, _, k => (k, 0, none)
  | _ + 1, none, k => (k, 0, none)
  | m + 1, some s, k => if cv s k then (k, 0, some s) else ((rn w cv cp m (nb w (s + 1)) (cp s k)).1, (rn w cv cp m (nb w (s + 1)) (cp s k)).2.1 + 1, (rn w cv cp m (nb w (s + 1)) (cp s k)).2.2)
theorem boughtFrom_ok : ∀ w, w < 64 → ∀ s, s < 7 → f_X5_boughtFrom (nI w) (nI s) = some (oI (nb w s)) := by decide +kernel
theorem nb_none : ∀ w, w < 64 → ∀ s, s < 7 → (nb w s = none ↔ w = 0) := by decide +kernel
theorem nb_hit : ∀ w, w < 64 → ∀ p, p < 7 → btN w (p % 6) = true → nb w p = some (p % 6) := by decide +kernel
theorem nb_skip : ∀ w, w < 64 → w ≠ 0 → ∀ p, p < 7 → btN w (p % 6) = false → nb w p = nb w (p % 6 + 1) ∧ dst w (p % 6 + 1) < dst w p := by decide +kernel
theorem dst_le : ∀ w, w < 64 → ∀ p, p < 7 → dst w p ≤ 5 := by decide +kernel
theorem nb_in {w s t : Nat} (h : nb w s = some t) : t < 6 ∧ btN w t = true := by
  unfold nb at h
  cases c : srch (fun i => btN w ((s + i) % 6)) 6 0 with
  | none => rw [c] at h; cases h
  | some i =>
    rw [c] at h
    have e : (s + i) % 6 = t := Option.some.inj h
    obtain ⟨g1, g2, g3, g4⟩ := srch_some c
    rw [← e]
    exact ⟨Nat.mod_lt _ (by decide), g3⟩
/-- a mask of scribes of the house -/
def WOK (S w : Nat) : Prop := w < 64 ∧ ∀ s, s < 6 → btN w s = true → s < S
theorem nb_S {S w s t : Nat} (hw : WOK S w) (h : nb w s = some t) : t < S := (nb_in h).elim (fun a b => hw.2 t a b)
/-- the class's table of laws -/
def LWT (n L S d : Nat) (t b : Nat → Nat) (made : Nat → Int32) : Prop := ∀ s, s < S → ∀ k, k < n ^ L → made (s * 625 + k) = if cvN n L d (sy n t b s) k then (-1 : Int32) else nI (cpN n (sy n t b s) L k)
theorem copyBy_ok {n L S d : Nat} {t b : Nat → Nat} {made : Nat → Int32} (h : HOK n L S d t b) (hm : LWT n L S d t b made) {s k : Nat} (hs : s < S) (hk : k < n ^ L) : f_X1_copyBy (nI S) (nI (n ^ L)) made (nI s) (nI k) = some (if cvN n L d (sy n t b s) k then (-1 : Int32) else nI (cpN n (sy n t b s) L k)) := by
  obtain ⟨h1, h2, h3, h4, h5, h6, h7⟩ := h
  have hB := npow_le (n := n) (L := L) h2 h3
  unfold f_X1_copyBy
  simp (disch := omega) only [↓km1, ↓km2, ↓km3, ↓km9, l0, l1, l2, l3, l4, l5, l6, l8, l9, l10, l64, l625, nlt0, nltI, nleI, neqI, njrem, ndiv, nI_add, pk_mul, pk_sub, nI_clamp, bnd_some, nne9, nne1, nm1]
  rw [if_neg (by omega), if_neg (by omega), if_neg (by omega), if_neg (by omega), if_neg (by omega), hm s hs k hk]
  rfl
/-- what a round in a house comes to -/
def RN (n L d : Nat) (t b : Nat → Nat) (w m : Nat) (o : Option Nat) (k : Nat) : Nat × Nat × Option Nat := rn w (fun s k => cvN n L d (sy n t b s) k) (fun s k => cpN n (sy n t b s) L k) m o k
theorem RN_0 {n L d : Nat} {t b : Nat → Nat} {w : Nat} {o : Option Nat} {k : Nat} : RN n L d t b w 0 o k = (k, 0, none) := by cases o <;> rfl
theorem RN_n {n L d : Nat} {t b : Nat → Nat} {w m : Nat} {k : Nat} : RN n L d t b w m none k = (k, 0, none) := by cases m <;> rfl
theorem RN_c {n L d : Nat} {t b : Nat → Nat} {w m s : Nat} {k : Nat} (h : cvN n L d (sy n t b s) k = true) : RN n L d t b w (m + 1) (some s) k = (k, 0, some s) := by
  show (if _ then _ else _) = _
  rw [if_pos h]
theorem RN_s {n L d : Nat} {t b : Nat → Nat} {w m s : Nat} {k : Nat} (h : cvN n L d (sy n t b s) k = false) : RN n L d t b w (m + 1) (some s) k = ((RN n L d t b w m (nb w (s + 1)) (cpN n (sy n t b s) L k)).1, (RN n L d t b w m (nb w (s + 1)) (cpN n (sy n t b s) L k)).2.1 + 1, (RN n L d t b w m (nb w (s + 1)) (cpN n (sy n t b s) L k)).2.2) := by
  show (if _ then _ else _) = _
  rw [if_neg (by show ¬ cvN n L d (sy n t b s) k = true; rw [h]; decide)]
  rfl
def goesI (r : Nat × Nat × Option Nat) (w : Nat) : Int32 := if r.2.2.isSome || w == 0 then 0 else 1
theorem oI_some (s : Nat) : oI (some s) = nI s := rfl
theorem oI_none : oI none = jm9 := rfl
theorem run_ok {n L S d : Nat} {t b : Nat → Nat} {made : Nat → Int32} (h : HOK n L S d t b) (hm : LWT n L S d t b made) {w k m : Nat} (hw : WOK S w) (hk : k < n ^ L) (hmm : m < 29000) : f_X5_run (nI S) (nI (n ^ L)) made (nI k) (nI w) (nI m) = some (nI (RN n L d t b w m (nb w 0) k).1, nI (RN n L d t b w m (nb w 0) k).2.1, oI (RN n L d t b w m (nb w 0) k).2.2, goesI (RN n L d t b w m (nb w 0) k) w) := by
  obtain ⟨h1, h2, h3, h4, h5, h6, h7⟩ := id h
  have hB := npow_le (n := n) (L := L) h2 h3
  unfold f_X5_run
  rw [l0, boughtFrom_ok w hw.1 0 (by decide), bnd_some]
  generalize hR : RN n L d t b w m (nb w 0) k = R
  refine lp_E (I := fun z => ∃ i os q, i ≤ m ∧ q < n ^ L ∧ (∀ s, os = some s → s < S) ∧ (os = none ↔ w = 0) ∧ z = (oI os, nI i, nI q, nI i, (-9 : Int32)) ∧ ((RN n L d t b w (m - i) os q).1, (RN n L d t b w (m - i) os q).2.1 + i, (RN n L d t b w (m - i) os q).2.2) = R) (μ := fun z => m - z.2.1.toNatClampNeg) _ _ ⟨0, nb w 0, k, Nat.zero_le _, hk, fun s hs => nb_S hw hs, nb_none w hw.1 0 (by decide), rfl, by rw [Nat.sub_zero, hR]; rfl⟩ (by show m - _ < _; omega) (fun z hz => ?_)
  obtain ⟨i, os, q, hi, hq, hos, how, rfl, hRe⟩ := hz
  unfold b_X5_run_31
  dsimp only
  by_cases c : m ≤ i
  · right
    have e : m - i = 0 := by omega
    rw [e, RN_0] at hRe
    rw [← hRe]
    unfold goesI
    cases os with
    | none =>
      rw [oI_none]
      simp (disch := omega) only [↓km1, ↓km2, ↓km3, ↓km9, l0, l1, l2, l3, l4, l5, l6, l8, l9, l10, l64, l625, nlt0, nltI, nleI, neqI, njrem, ndiv, nI_add, pk_mul, pk_sub, nI_clamp, bnd_some, nne9, nne1, nm1, ↓reduceIte, Bool.false_eq_true, reduceCtorEq, Option.elim, oI_none, oI_some]
      rw [if_pos c]
      simp [how.mp rfl, oI, jm9]
    | some s =>
      have := hos s rfl
      rw [oI_some]
      simp (disch := omega) only [↓km1, ↓km2, ↓km3, ↓km9, l0, l1, l2, l3, l4, l5, l6, l8, l9, l10, l64, l625, nlt0, nltI, nleI, neqI, njrem, ndiv, nI_add, pk_mul, pk_sub, nI_clamp, bnd_some, nne9, nne1, nm1, ↓reduceIte, Bool.false_eq_true, reduceCtorEq, Option.elim, oI_none, oI_some]
      rw [if_pos c]
      have hw0 : w ≠ 0 := fun z => by have := how.mpr z; cases this
      simp [hw0, oI, jm9]
  · cases os with
    | none =>
      right
      rw [RN_n] at hRe
      rw [← hRe, oI_none]
      unfold goesI
      simp (disch := omega) only [↓km1, ↓km2, ↓km3, ↓km9, l0, l1, l2, l3, l4, l5, l6, l8, l9, l10, l64, l625, nlt0, nltI, nleI, neqI, njrem, ndiv, nI_add, pk_mul, pk_sub, nI_clamp, bnd_some, nne9, nne1, nm1, ↓reduceIte, Bool.false_eq_true, reduceCtorEq, Option.elim, oI_none, oI_some]
      rw [if_neg c]
      simp [how.mp rfl, oI, jm9]
    | some s =>
      have hs := hos s rfl
      have hw0 : w ≠ 0 := fun z => by have := how.mpr z; cases this
      obtain ⟨j, hj⟩ : ∃ j, m - i = j + 1 := ⟨m - i - 1, by omega⟩
      rw [hj] at hRe
      rw [oI_some, copyBy_ok h hm hs hq]
      cases cvx : cvN n L d (sy n t b s) q with
      | true =>
        right
        rw [RN_c cvx] at hRe
        rw [← hRe]
        unfold goesI
        simp (disch := omega) only [↓km1, ↓km2, ↓km3, ↓km9, l0, l1, l2, l3, l4, l5, l6, l8, l9, l10, l64, l625, nlt0, nltI, nleI, neqI, njrem, ndiv, nI_add, pk_mul, pk_sub, nI_clamp, bnd_some, nne9, nne1, nm1, ↓reduceIte, Bool.false_eq_true, reduceCtorEq, Option.elim, oI_none, oI_some]
        rw [if_neg c]
        simp [oI, jm1]
      | false =>
        left
        rw [RN_s cvx] at hRe
        have hc : cpN n (sy n t b s) L q < n ^ L := cpN_lt (fun x => sy_lt h1) L q
        refine ⟨(oI (nb w (s + 1)), nI (i + 1), nI (cpN n (sy n t b s) L q), nI (i + 1), (-9 : Int32)), ?_, ⟨i + 1, nb w (s + 1), _, by omega, hc, fun x hx => nb_S hw hx, nb_none w hw.1 (s + 1) (by omega), rfl, ?_⟩, ?_⟩
        · rw [show nI s + (1 : Int32) = nI (s + 1) from nI_1 s, boughtFrom_ok w hw.1 (s + 1) (by omega)]
          simp (disch := omega) only [↓km1, ↓km2, ↓km3, ↓km9, l0, l1, l2, l3, l4, l5, l6, l8, l9, l10, l64, l625, nlt0, nltI, nleI, neqI, njrem, ndiv, nI_add, pk_mul, pk_sub, nI_clamp, bnd_some, nne9, nne1, nm1, ↓reduceIte, Bool.false_eq_true, reduceCtorEq, Option.elim, oI_none, oI_some]
          rw [if_neg c]
        · rw [← hRe, show m - (i + 1) = j by omega]
          rw [show (RN n L d t b w j (nb w (s + 1)) (cpN n (sy n t b s) L q)).2.1 + 1 + i = (RN n L d t b w j (nb w (s + 1)) (cpN n (sy n t b s) L q)).2.1 + (i + 1) by omega]
        · dsimp only
          rw [nI_clamp (by omega), nI_clamp (by omega)]
          omega
theorem go_ok {n L S d : Nat} {t b : Nat → Nat} {op li sc ne tu be : Nat → Int32} (h : MH n L S d t b op li sc ne tu be) {w k m : Nat} (hw : WOK S w) (hk : k < n ^ L) (hmm : m ≤ 4000) : f_X9_go op li tu be ne (nI k) (nI w) (nI m) = some (nI (RN n L d t b w m (nb w 0) k).1, oI (RN n L d t b w m (nb w 0) k).2.2, nI (RN n L d t b w m (nb w 0) k).2.1) := by
  obtain ⟨⟨g1, g2, g3, g4, g5, g6, g7⟩, h1, h2, h3, h4, h5⟩ := id h
  have hB := npow_le (n := n) (L := L) g2 g3
  unfold f_X9_go
  generalize hR : RN n L d t b w m (nb w 0) k = R
  refine lp_E (I := fun z => (∃ p i q, p < 7 ∧ i ≤ m ∧ q < n ^ L ∧ z = (nI p - (1 : Int32), nI q, (-9 : Int32), nI i) ∧ ((RN n L d t b w (m - i) (nb w p) q).1, (RN n L d t b w (m - i) (nb w p) q).2.1 + i, (RN n L d t b w (m - i) (nb w p) q).2.2) = R) ∨ (∃ x s i q, s < 6 ∧ z = (x, nI q, nI s, nI i) ∧ (q, i, some s) = R)) (μ := fun z => if z.2.2.1 = (-9 : Int32) then 7 * (m - z.2.2.2.toNatClampNeg) + dst w (z.1 + 1).toNatClampNeg + 1 else 0) _ _ (Or.inl ⟨0, 0, k, by decide, Nat.zero_le _, hk, rfl, by rw [Nat.sub_zero, hR]; rfl⟩) ?_ (fun z hz => ?_)
  · have := dst_le w hw.1 0 (by decide)
    dsimp only
    rw [if_pos rfl, show ((-1 : Int32) + 1).toNatClampNeg = 0 by decide]
    omega
  · rcases hz with ⟨p, i, q, hp, hi, hq, rfl, hRe⟩ | ⟨x, s, i, q, hs, rfl, hRe⟩
    · unfold b_X9_go_19
      dsimp only
      rw [if_pos rfl, Int32.sub_add_cancel]
      rw [show jrem (nI p) (6 : Int32) = nI (p % 6) from njrem (d := 6) (by omega) (by decide) (by decide)]
      by_cases c : m ≤ i
      · right
        have e : m - i = 0 := by omega
        rw [e, RN_0] at hRe
        rw [← hRe]
        simp (disch := omega) only [↓km1, ↓km2, ↓km3, ↓km9, l0, l1, l2, l3, l4, l5, l6, l8, l9, l10, l64, l625, nlt0, nltI, nleI, neqI, njrem, ndiv, nI_add, pk_mul, pk_sub, nI_clamp, bnd_some, nne9, nne1, nm1, ↓reduceIte, Bool.false_eq_true, reduceCtorEq, Option.elim, oI_none, oI_some]
        rw [if_pos c]
        simp [oI, jm9]
      · by_cases w0 : w = 0
        · right
          rw [(nb_none w hw.1 p hp).mpr w0, RN_n] at hRe
          rw [← hRe, w0]
          simp (disch := omega) only [↓km1, ↓km2, ↓km3, ↓km9, l0, l1, l2, l3, l4, l5, l6, l8, l9, l10, l64, l625, nlt0, nltI, nleI, neqI, njrem, ndiv, nI_add, pk_mul, pk_sub, nI_clamp, bnd_some, nne9, nne1, nm1, ↓reduceIte, Bool.false_eq_true, reduceCtorEq, Option.elim, oI_none, oI_some]
          rw [if_neg c]
          simp [oI, jm9]
        · left
          have hw1 := hw.1
          have hp6 : p % 6 < 6 := Nat.mod_lt _ (by decide)
          have hdst := dst_le w hw.1 (p % 6 + 1) (by omega)
          have hbit : (jshr (nI w) (nI (p % 6)) &&& (1 : Int32)) = nI (w / 2 ^ (p % 6) % 2) := by
            rw [njshr (by omega) (by omega), l1, nand1 (Nat.lt_of_le_of_lt (Nat.div_le_self _ _) (by omega))]
          rw [hbit]
          have hm2 : w / 2 ^ (p % 6) % 2 < 2 := Nat.mod_lt _ (by decide)
          obtain ⟨j, hj⟩ : ∃ j, m - i = j + 1 := ⟨m - i - 1, by omega⟩
          cases hb : btN w (p % 6) with
          | true =>
            have hbe : w / 2 ^ (p % 6) % 2 = 1 := by unfold btN at hb; simpa using hb
            have hS : p % 6 < S := hw.2 _ hp6 hb
            rw [nb_hit w hw.1 p hp hb, hj] at hRe
            rw [misConvinced_ok h hS hq, bnd_some, mcopyOf_ok h hS hq, hbe]
            cases cvx : cvN n L d (sy n t b (p % 6)) q with
            | true =>
              rw [RN_c cvx] at hRe
              refine ⟨(nI (p % 6), nI q, nI (p % 6), nI i), ?_, Or.inr ⟨_, p % 6, i, q, hp6, rfl, by rw [← hRe, Nat.zero_add]⟩, ?_⟩
              · unfold bI
                simp (disch := omega) only [↓km1, ↓km2, ↓km3, ↓km9, l0, l1, l2, l3, l4, l5, l6, l8, l9, l10, l64, l625, nlt0, nltI, nleI, neqI, njrem, ndiv, nI_add, pk_mul, pk_sub, nI_clamp, bnd_some, nne9, nne1, nm1, ↓reduceIte, Bool.false_eq_true, reduceCtorEq, Option.elim, oI_none, oI_some]
                rw [if_neg c, if_neg w0]
              · dsimp only
                rw [if_neg (by rw [km9, nne9 (by omega)]; exact fun z => z), if_pos rfl]
                omega
            | false =>
              rw [RN_s cvx] at hRe
              have hc : cpN n (sy n t b (p % 6)) L q < n ^ L := cpN_lt (fun x => sy_lt g1) L q
              refine ⟨(nI (p % 6 + 1) - (1 : Int32), nI (cpN n (sy n t b (p % 6)) L q), (-9 : Int32), nI (i + 1)), ?_, Or.inl ⟨p % 6 + 1, i + 1, _, by omega, by omega, hc, rfl, ?_⟩, ?_⟩
              · unfold bI
                rw [nI_pred]
                simp (disch := omega) only [↓km1, ↓km2, ↓km3, ↓km9, l0, l1, l2, l3, l4, l5, l6, l8, l9, l10, l64, l625, nlt0, nltI, nleI, neqI, njrem, ndiv, nI_add, pk_mul, pk_sub, nI_clamp, bnd_some, nne9, nne1, nm1, ↓reduceIte, Bool.false_eq_true, reduceCtorEq, Option.elim, oI_none, oI_some]
                rw [if_neg c, if_neg w0]
              · rw [← hRe, show m - (i + 1) = j by omega]
                rw [show (RN n L d t b w j (nb w (p % 6 + 1)) (cpN n (sy n t b (p % 6)) L q)).2.1 + 1 + i = (RN n L d t b w j (nb w (p % 6 + 1)) (cpN n (sy n t b (p % 6)) L q)).2.1 + (i + 1) by omega]
              · dsimp only
                rw [if_pos rfl, if_pos rfl, Int32.sub_add_cancel, nI_clamp (by omega), nI_clamp (by omega), nI_clamp (by omega), nI_clamp (by omega)]
                omega
          | false =>
            have hbe : w / 2 ^ (p % 6) % 2 = 0 := by unfold btN at hb; have : ¬ w / 2 ^ (p % 6) % 2 = 1 := by simpa using hb
                                                     omega
            obtain ⟨s1, s2⟩ := nb_skip w hw.1 w0 p hp hb
            rw [hbe]
            refine ⟨(nI (p % 6 + 1) - (1 : Int32), nI q, (-9 : Int32), nI i), ?_, Or.inl ⟨p % 6 + 1, i, q, by omega, hi, hq, rfl, by rw [← s1]; exact hRe⟩, ?_⟩
            · rw [nI_pred]
              simp (disch := omega) only [↓km1, ↓km2, ↓km3, ↓km9, l0, l1, l2, l3, l4, l5, l6, l8, l9, l10, l64, l625, nlt0, nltI, nleI, neqI, njrem, ndiv, nI_add, pk_mul, pk_sub, nI_clamp, bnd_some, nne9, nne1, nm1, ↓reduceIte, Bool.false_eq_true, reduceCtorEq, Option.elim, oI_none, oI_some]
              rw [if_neg c, if_neg w0]
            · dsimp only
              rw [if_pos rfl, if_pos rfl, Int32.sub_add_cancel, nI_clamp (by omega), nI_clamp (by omega), nI_clamp (by omega)]
              omega
    · right
      unfold b_X9_go_19
      dsimp only
      rw [if_neg (by rw [km9, nne9 (by omega)]; exact fun z => z), ← hRe]
      rfl
