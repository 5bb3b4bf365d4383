/-! ===== where a round ends ===== -/
/-- one copy, whoever is convinced -/
def stp (n L : Nat) (t b : Nat → Nat) (w : Nat) (z : Nat × Nat) : Nat × Nat := ((nb w (z.1 + 1)).getD 0, cpN n (sy n t b z.1) L z.2)
def cvz (n L d : Nat) (t b : Nat → Nat) (z : Nat × Nat) : Bool := cvN n L d (sy n t b z.1) z.2
def enS (n L d : Nat) (t b : Nat → Nat) (w m s k : Nat) : Option Nat := srch (fun i => cvz n L d t b (itr (stp n L t b w) i (s, k))) m 0
theorem itr_succ {α : Type} (f : α → α) (k : α) (m : Nat) : itr f (m + 1) k = itr f m (f k) := by
  have := itr_add f k m 1
  exact this
theorem nb_get {w s : Nat} (hw : w < 64) (w0 : w ≠ 0) (hs : s < 7) : nb w s = some ((nb w s).getD 0) := by
  cases h : nb w s with
  | none => exact absurd ((nb_none w hw s hs).mp h) w0
  | some t => rfl
theorem RN_srch {n L d : Nat} {t b : Nat → Nat} {w : Nat} (hw : w < 64) (w0 : w ≠ 0) : ∀ (m s k : Nat), s < 6 → RN n L d t b w m (some s) k = (enS n L d t b w m s k).elim ((itr (stp n L t b w) m (s, k)).2, m, none) (fun i => ((itr (stp n L t b w) i (s, k)).2, i, some (itr (stp n L t b w) i (s, k)).1))
  | 0, s, k, _ => rfl
  | m + 1, s, k, hs => by
    have hg := nb_get hw w0 (s := s + 1) (by omega)
    have h6 : (nb w (s + 1)).getD 0 < 6 := (nb_in hg).1
    cases c : cvN n L d (sy n t b s) k with
    | true =>
      rw [RN_c c]
      have : enS n L d t b w (m + 1) s k = some 0 := srch_is (Nat.le_refl _) (by omega) c (fun a _ h => by omega)
      rw [this]
      rfl
    | false =>
      rw [RN_s c, hg, RN_srch hw w0 m _ _ h6]
      have e1 : enS n L d t b w (m + 1) s k = (enS n L d t b w m ((nb w (s + 1)).getD 0) (cpN n (sy n t b s) L k)).map (· + 1) := by
        unfold enS
        show (if cvz n L d t b (s, k) then some 0 else srch _ m (0 + 1)) = _
        rw [if_neg (by show ¬ cvN n L d (sy n t b s) k = true; rw [c]; decide)]
        have e2 := srch_shift (p := fun i => cvz n L d t b (itr (stp n L t b w) i (s, k))) (m := m) (i := 0) (c := 1)
        have e3 : (fun a => cvz n L d t b (itr (stp n L t b w) (a + 1) (s, k))) = (fun a => cvz n L d t b (itr (stp n L t b w) a ((nb w (s + 1)).getD 0, cpN n (sy n t b s) L k))) := by
          funext a
          rw [itr_succ]
          rfl
        rw [e3] at e2
        rw [e2]
        cases h : srch (fun i => cvz n L d t b (itr (stp n L t b w) i (s, k))) m (0 + 1) with
        | none => rfl
        | some j =>
          obtain ⟨g1, -⟩ := srch_some h
          show some j = some (j - 1 + 1)
          congr 1
          omega
      rw [e1]
      cases h : enS n L d t b w m ((nb w (s + 1)).getD 0) (cpN n (sy n t b s) L k) with
      | none =>
        show (_, m + 1, none) = (_, m + 1, none)
        rw [itr_succ]
        rfl
      | some i =>
        show (_, i + 1, some _) = (_, i + 1, some _)
        rw [itr_succ]
        rfl
theorem stp_in {n L S d : Nat} {t b : Nat → Nat} {w s k : Nat} (h : HOK n L S d t b) (hw : WOK S w) (w0 : w ≠ 0) (hs : s < S) (hk : k < n ^ L) : ∀ i, (itr (stp n L t b w) i (s, k)).1 < S ∧ (itr (stp n L t b w) i (s, k)).2 < n ^ L
  | 0 => ⟨hs, hk⟩
  | i + 1 => by
    obtain ⟨h1, h2⟩ := stp_in h hw w0 hs hk i
    have hS := h.2.2.2.1
    exact ⟨nb_S hw (nb_get hw.1 w0 (s := (itr (stp n L t b w) i (s, k)).1 + 1) (by omega)), cpN_lt (fun x => sy_lt h.1) L _⟩
/-- a round that ends does so within as many copies as there are books and scribes -/
theorem end_in {n L S d : Nat} {t b : Nat → Nat} {w s k : Nat} (h : HOK n L S d t b) (hw : WOK S w) (w0 : w ≠ 0) (hs : s < S) (hk : k < n ^ L) : ∀ j, cvz n L d t b (itr (stp n L t b w) j (s, k)) = true → ∃ a, a < n ^ L * S ∧ cvz n L d t b (itr (stp n L t b w) a (s, k)) = true := by
  intro j
  induction j using Nat.strongRecOn with
  | _ j ih =>
    intro hj
    by_cases c : j < n ^ L * S
    · exact ⟨j, c, hj⟩
    · have hin := stp_in h hw w0 hs hk
      obtain ⟨x, y, g1, g2, g3⟩ := php (n ^ L * S) (fun i => (itr (stp n L t b w) i (s, k)).1 * n ^ L + (itr (stp n L t b w) i (s, k)).2) (fun i _ => by
        obtain ⟨a1, a2⟩ := hin i
        have : ((itr (stp n L t b w) i (s, k)).1 + 1) * n ^ L ≤ S * n ^ L := Nat.mul_le_mul_right _ a1
        rw [Nat.add_mul, Nat.one_mul] at this
        rw [Nat.mul_comm (n ^ L) S]
        omega)
      obtain ⟨x1, x2⟩ := hin x
      obtain ⟨y1, y2⟩ := hin y
      have hB : 0 < n ^ L := npow_pos h.1
      have e2 : (itr (stp n L t b w) x (s, k)).2 = (itr (stp n L t b w) y (s, k)).2 := by
        have := congrArg (· % n ^ L) g3
        simpa [Nat.mul_add_mod_of_lt, x2, y2, Nat.mod_eq_of_lt] using this
      have e1 : (itr (stp n L t b w) x (s, k)).1 = (itr (stp n L t b w) y (s, k)).1 := by
        rw [e2] at g3
        exact Nat.eq_of_mul_eq_mul_right hB (by omega)
      have e3 : itr (stp n L t b w) x (s, k) = itr (stp n L t b w) y (s, k) := Prod.ext e1 e2
      refine ih (j - y + x) (by omega) ?_
      rw [itr_add, e3, ← itr_add, show j - y + y = j by omega]
      exact hj
theorem enS_ext {n L S d : Nat} {t b : Nat → Nat} {w s k N : Nat} (h : HOK n L S d t b) (hw : WOK S w) (w0 : w ≠ 0) (hs : s < S) (hk : k < n ^ L) (hN : n ^ L * S ≤ N) : enS n L d t b w N s k = enS n L d t b w (n ^ L * S) s k := by
  refine srch_ext hN (fun j _ _ h3 => ?_)
  obtain ⟨a, g1, g2⟩ := end_in h hw w0 hs hk j h3
  exact ⟨a, Nat.zero_le _, by omega, g2⟩
theorem nS_le {n L S d : Nat} {t b : Nat → Nat} (h : HOK n L S d t b) : n ^ L * S ≤ 3750 := Nat.mul_le_mul (npow_le h.2.1 h.2.2.1) h.2.2.2.1
/-- who ends a round and behind how many copies; none: nobody ever -/
def endN (n L S d : Nat) (t b : Nat → Nat) (w k : Nat) : Option (Nat × Nat) := (enS n L d t b w (n ^ L * S) ((nb w 0).getD 0) k).map (fun i => ((itr (stp n L t b w) i ((nb w 0).getD 0, k)).1, i))
theorem end_cases {n L S d : Nat} {t b : Nat → Nat} {w k : Nat} (h : HOK n L S d t b) (hw : WOK S w) (w0 : w ≠ 0) (hk : k < n ^ L) : (∃ s i q, endN n L S d t b w k = some (s, i) ∧ s < 6 ∧ i < n ^ L * S ∧ RN n L d t b w (n ^ L * S) (nb w 0) k = (q, i, some s) ∧ RN n L d t b w 4000 (nb w 0) k = (q, i, some s)) ∨ (∃ q q', endN n L S d t b w k = none ∧ RN n L d t b w (n ^ L * S) (nb w 0) k = (q, n ^ L * S, none) ∧ RN n L d t b w 4000 (nb w 0) k = (q', 4000, none)) := by
  have hg := nb_get hw.1 w0 (s := 0) (by decide)
  have hS := nb_S hw hg
  have h6 := (nb_in hg).1
  have hle := nS_le h
  have e4 := enS_ext (N := 4000) h hw w0 hS hk (by omega)
  rw [hg, RN_srch hw.1 w0 _ _ _ h6, RN_srch hw.1 w0 _ _ _ h6, e4]
  unfold endN
  cases c : enS n L d t b w (n ^ L * S) ((nb w 0).getD 0) k with
  | none => exact Or.inr ⟨_, _, rfl, rfl, rfl⟩
  | some i =>
    obtain ⟨g1, g2, g3, g4⟩ := srch_some c
    have := (stp_in h hw w0 hS hk i).1
    have h4 := h.2.2.2.1
    exact Or.inl ⟨_, i, _, rfl, by omega, by omega, rfl, rfl⟩
theorem RN_had {n L d : Nat} {t b : Nat → Nat} {w : Nat} : ∀ (m : Nat) (o : Option Nat) (k : Nat), (RN n L d t b w m o k).2.1 ≤ m
  | 0, o, k => by rw [RN_0]; exact Nat.le_refl _
  | m + 1, none, k => by rw [RN_n]; exact Nat.zero_le _
  | m + 1, some s, k => by
    cases c : cvN n L d (sy n t b s) k with
    | true => rw [RN_c c]; exact Nat.zero_le _
    | false => rw [RN_s c]; exact Nat.succ_le_succ (RN_had m _ _)
theorem RN_book {n L S d : Nat} {t b : Nat → Nat} {w : Nat} (h : HOK n L S d t b) : ∀ (m : Nat) (o : Option Nat) (k : Nat), k < n ^ L → (RN n L d t b w m o k).1 < n ^ L
  | 0, o, k, hk => by rw [RN_0]; exact hk
  | m + 1, none, k, hk => by rw [RN_n]; exact hk
  | m + 1, some s, k, hk => by
    cases c : cvN n L d (sy n t b s) k with
    | true => rw [RN_c c]; exact hk
    | false => rw [RN_s c]; exact RN_book h m _ _ (cpN_lt (fun x => sy_lt h.1) L k)
theorem runToEnd_ok {n L S d : Nat} {t b : Nat → Nat} {made : Nat → Int32} (h : HOK n L S d t b) (hm : LWT n L S d t b made) {w k : Nat} (hw : WOK S w) (hk : k < n ^ L) : f_X5_runToEnd (nI S) (nI (n ^ L)) made (nI k) (nI w) = some (nI (RN n L d t b w (n ^ L * S) (nb w 0) k).1, nI (RN n L d t b w (n ^ L * S) (nb w 0) k).2.1, oI (RN n L d t b w (n ^ L * S) (nb w 0) k).2.2, goesI (RN n L d t b w (n ^ L * S) (nb w 0) k) w) := by
  have := nS_le h
  unfold f_X5_runToEnd
  rw [pk_mul, run_ok h hm hw hk (by omega), bnd_some]
theorem reaches_ok {n L S d : Nat} {t b : Nat → Nat} {made : Nat → Int32} (h : HOK n L S d t b) (hm : LWT n L S d t b made) {w k m : Nat} (hw : WOK S w) (hk : k < n ^ L) (hmm : m < 29000) : ∃ x1 x2 x3 x4, f_X5_reaches (nI S) (nI (n ^ L)) made (nI k) (nI w) (nI m) = some (bI (decide ((RN n L d t b w m (nb w 0) k).2.1 = m)), x1, x2, x3, x4) := by
  have hh := RN_had (n := n) (L := L) (d := d) (t := t) (b := b) (w := w) m (nb w 0) k
  unfold f_X5_reaches
  rw [run_ok h hm hw hk hmm]
  simp (disch := omega) only [↓km1, ↓km2, ↓km3, ↓km9, l0, l1, l2, l3, l4, l5, l6, l8, l9, l10, l64, l625, nlt0, nltI, nleI, neqI, njrem, ndiv, nI_add, pk_mul, pk_sub, nI_clamp, bnd_some, nne9, nne1, nm1, ↓reduceIte, Bool.false_eq_true, reduceCtorEq, Option.elim, oI_none, oI_some]
  by_cases c : (RN n L d t b w m (nb w 0) k).2.1 = m
  · rw [if_neg (by omega), show bI (decide ((RN n L d t b w m (nb w 0) k).2.1 = m)) = nI 1 by rw [decide_eq_true c]; rfl]
    exact ⟨_, _, _, _, rfl⟩
  · rw [if_pos (by omega), show bI (decide ((RN n L d t b w m (nb w 0) k).2.1 = m)) = nI 0 by rw [decide_eq_false c]; rfl]
    exact ⟨_, _, _, _, rfl⟩
