/-! ===== the laws learned ===== -/
theorem l19 : (19 : Int32) = nI 19 := rfl
theorem l81 : (81 : Int32) = nI 81 := rfl
theorem l99 : (99 : Int32) = nI 99 := rfl
theorem l100 : (100 : Int32) = nI 100 := rfl
theorem l120 : (120 : Int32) = nI 120 := rfl
theorem l255 : (255 : Int32) = nI 255 := rfl
theorem l999 : (999 : Int32) = nI 999 := rfl
theorem l48 : (48 : Int32) = nI 48 := rfl
theorem l57 : (57 : Int32) = nI 57 := rfl
theorem l97 : (97 : Int32) = nI 97 := rfl
theorem l122 : (122 : Int32) = nI 122 := rfl
theorem l32 : (32 : Int32) = nI 32 := rfl
theorem l59 : (59 : Int32) = nI 59 := rfl
theorem l98 : (98 : Int32) = nI 98 := rfl
theorem l110 : (110 : Int32) = nI 110 := rfl
theorem l111 : (111 : Int32) = nI 111 := rfl
theorem l115 : (115 : Int32) = nI 115 := rfl
theorem upd_eq {f : Nat → Int32} {k : Nat} {x : Int32} : upd f k x k = x := if_pos rfl
theorem upd_ne {f : Nat → Int32} {k j : Nat} {x : Int32} (h : j ≠ k) : upd f k x j = f j := if_neg h
theorem gN {k n : Nat} (hk : k < n) (hn : n < 2 ^ 31) : ¬ (nI k < 0 ∨ n ≤ (nI k).toNatClampNeg) := by
  rw [l0, gIx hk hn]
  exact id
theorem learn_ok {n L S d : Nat} {t b : Nat → Nat} {tu be : Nat → Int32} (h : CH n L S d t b tu be) (made : Nat → Int32) : ∃ made', f_X1_learn made (nI n) (nI L) (nI (n ^ L)) (nI S) (nI d) tu be = some (nI S, nI (n ^ L), made') ∧ LWT n L S d t b made' := by
  obtain ⟨⟨h1, h2, h3, h4, h5, h6, h7⟩, h8⟩ := id h
  have hB := npow_le (n := n) (L := L) h2 h3
  have inner : ∀ s made, s < S → LWT n L s d t b made → ∃ r, lpF (b_X1_learn_39 (nI (n ^ L)) (nI n) (nI L) (nI S) (nI d) tu be (nI s)) FU ((0 : Int32), made) = some r ∧ ∃ made', r = .inl (nI (s + 1), made') ∧ LWT n L (s + 1) d t b made' := by
    intro s made hs hm
    refine lp_IU (B := b_X1_learn_39 (nI (n ^ L)) (nI n) (nI L) (nI S) (nI d) tu be (nI s)) (fun z => ∃ i made, i ≤ n ^ L ∧ z = (nI i, made) ∧ LWT n L s d t b made ∧ ∀ k, k < i → made (s * 625 + k) = if cvN n L d (sy n t b s) k then (-1 : Int32) else nI (cpN n (sy n t b s) L k)) (fun z => n ^ L - z.1.toNatClampNeg) _ (fun z hz => ?_) _ ⟨0, made, Nat.zero_le _, rfl, hm, fun k hk => by omega⟩ (by show n ^ L - _ < _; omega)
    obtain ⟨i, made, hi, rfl, hm, hk⟩ := hz
    unfold b_X1_learn_39
    dsimp only
    by_cases c : n ^ L ≤ i
    · right
      rw [if_pos (by rw [nleI (by omega) (by omega)]; omega), n1]
      refine ⟨_, rfl, made, rfl, fun s' hs' k hk' => ?_⟩
      by_cases e : s' = s
      · subst e; exact hk k (by omega)
      · exact hm s' (by omega) k hk'
    · left
      have hi' : i < n ^ L := by omega
      have hc : cpN n (sy n t b s) L i < n ^ L := cpN_lt (fun x => sy_lt h1) L i
      have ix : nI s * (625 : Int32) + nI i = nI (s * 625 + i) := by rw [l625, pk_mul, nI_add]
      have meas : n ^ L - (nI (i + 1)).toNatClampNeg < n ^ L - (nI i).toNatClampNeg := by rw [nI_clamp (by omega), nI_clamp (by omega)]; omega
      have key : ∀ v, v = (if cvN n L d (sy n t b s) i then (-1 : Int32) else nI (cpN n (sy n t b s) L i)) → (∃ i' made', i' ≤ n ^ L ∧ (nI (i + 1), upd made (s * 625 + i) v) = (nI i', made') ∧ LWT n L s d t b made' ∧ ∀ k, k < i' → made' (s * 625 + k) = if cvN n L d (sy n t b s) k then (-1 : Int32) else nI (cpN n (sy n t b s) L k)) := by
        intro v hv
        refine ⟨i + 1, _, by omega, rfl, fun s' hs' k hk' => ?_, fun k hk' => ?_⟩
        · rw [upd_ne (by omega)]; exact hm s' hs' k hk'
        · by_cases e : k = i
          · subst e; rw [upd_eq]; exact hv
          · rw [upd_ne (by omega)]; exact hk k (by omega)
      rw [if_neg (by rw [nleI (by omega) (by omega)]; omega), isConvinced_ok h hs hi', bnd_some, becomes_ok h hs hi', ix, bnd_some, n1]
      cases cv : cvN n L d (sy n t b s) i with
      | true =>
        rw [if_neg (by decide), if_neg (gN (by omega) (by omega)), nI_clamp (by omega)]
        exact ⟨_, rfl, key _ (by rw [cv]; rfl), meas⟩
      | false =>
        rw [if_pos bIf, if_neg (gN (by omega) (by omega)), nI_clamp (by omega)]
        exact ⟨_, rfl, key _ (by rw [cv]; rfl), meas⟩
  unfold f_X1_learn
  rw [if_neg (by rw [l6, nltI (by omega) (by omega)]; omega), if_neg (by rw [l625, nltI (by omega) (by omega)]; omega)]
  obtain ⟨r, hr, made', rfl, hm⟩ := lp_IU (B := b_X1_learn_29 (nI S) (nI (n ^ L)) (nI n) (nI L) (nI S) (nI d) tu be) (fun z => ∃ i made, i ≤ S ∧ z = (nI i, made) ∧ LWT n L i d t b made) (fun z => S - z.1.toNatClampNeg) (fun r => ∃ made', r = (nI S, nI (n ^ L), made') ∧ LWT n L S d t b made') (fun z hz => by
    obtain ⟨i, made, hi, rfl, hm⟩ := hz
    unfold b_X1_learn_29
    dsimp only
    by_cases c : S ≤ i
    · right
      have e : i = S := by omega
      subst e
      rw [if_pos (by rw [nleI (by omega) (by omega)]; omega)]
      exact ⟨_, rfl, made, rfl, hm⟩
    · left
      rw [if_neg (by rw [nleI (by omega) (by omega)]; omega)]
      obtain ⟨r, h1, made', rfl, h2⟩ := inner i made (by omega) hm
      refine ⟨_, h1, ⟨i + 1, made', by omega, rfl, h2⟩, ?_⟩
      dsimp only
      rw [nI_clamp (by omega), nI_clamp (by omega)]
      omega) ((0 : Int32), made) ⟨0, made, Nat.zero_le _, rfl, fun s hs => by omega⟩ (by show S - _ < _; omega)
  exact ⟨made', hr, hm⟩
/-! ===== where it stands ===== -/
/-- the reference's place for a field of the class's row -/
def psi (j : Nat) : Nat := if j < 2 then j else if j = 2 then 8 else j - 1
theorem psi_lt {j : Nat} (h : j < 9) : psi j < 9 := by unfold psi; by_cases c : j < 2 <;> by_cases e : j = 2 <;> simp [c, e] <;> omega
theorem psi_inj {i j : Nat} (hi : i < 9) (hj : j < 9) (h : psi i = psi j) : i = j := by
  unfold psi at h
  by_cases c : i < 2 <;> by_cases e : i = 2 <;> by_cases c' : j < 2 <;> by_cases e' : j = 2 <;> simp [c, e, c', e'] at h <;> omega
theorem psi_sur {x : Nat} (h : x < 9) : ∃ j, j < 9 ∧ psi j = x := by
  by_cases c : x < 2
  · exact ⟨x, h, by unfold psi; simp [c]⟩
  · by_cases e : x = 8
    · exact ⟨2, by omega, by rw [e]; rfl⟩
    · exact ⟨x + 1, by omega, by unfold psi; rw [if_neg (by omega), if_neg (by omega)]; omega⟩
def RW (B S : Nat) (row : Nat → Int32) : Prop := (∃ k, row 0 = nI k ∧ k < B) ∧ (∃ c, row 1 = nI c ∧ c ≤ 999) ∧ ∃ w, row 2 = nI w ∧ w < 2 ^ S
def SD (B S o K : Nat) (rows : Nat → Nat → Int32) (now : Nat → Int32) : Prop := now (o + 9) = nI K ∧ K ≤ 10 ∧ (∀ j, j < 9 → now (o + psi j) = rows K j) ∧ (∀ i, i < K → ∀ j, j < 9 → now (o + 10 + 9 * i + psi j) = rows i j) ∧ ∀ i, i ≤ K → RW B S (rows i)
theorem at_ok {K j : Nat} {rows : Nat → Nat → Int32} (hK : K ≤ 10) (hj : j < 9) : f_X6_at (nI K) rows (nI j) = some (rows K j) := by
  unfold f_X6_at
  simp (disch := omega) only [↓km1, ↓km2, ↓km3, ↓km9, l0, l1, l2, l3, l4, l5, l6, l8, l9, l10, l64, l625, nlt0, nltI, nleI, neqI, njrem, ndiv, nI_add, pk_mul, pk_sub, nI_clamp, bnd_some, nne9, nne1, nm1, ↓reduceIte, Bool.false_eq_true, reduceCtorEq, Option.elim, oI_none, oI_some, l19, l81, l99, l100, l120, l255, l999, l48, l57, l97, l122, l32, l59, l98, l110, l111, l115]
  rw [if_neg (by omega), if_neg (by omega), if_neg (by omega), if_neg (by omega), if_neg (by omega), if_neg (by omega)]
theorem put_ok {K j : Nat} {rows : Nat → Nat → Int32} {v : Int32} (hK : K ≤ 10) (hj : j < 9) : f_X6_put (nI K) rows (nI j) v = some (va_up rows K (upd (rows K) j v)) := by
  unfold f_X6_put
  simp (disch := omega) only [↓km1, ↓km2, ↓km3, ↓km9, l0, l1, l2, l3, l4, l5, l6, l8, l9, l10, l64, l625, nlt0, nltI, nleI, neqI, njrem, ndiv, nI_add, pk_mul, pk_sub, nI_clamp, bnd_some, nne9, nne1, nm1, ↓reduceIte, Bool.false_eq_true, reduceCtorEq, Option.elim, oI_none, oI_some, l19, l81, l99, l100, l120, l255, l999, l48, l57, l97, l122, l32, l59, l98, l110, l111, l115]
  rw [if_neg (by omega), if_neg (by omega), if_neg (by omega), if_neg (by omega), if_neg (by omega), if_neg (by omega)]
theorem bookAt {K : Nat} {rows : Nat → Nat → Int32} (hK : K ≤ 10) : f_X6_book (nI K) rows = some (rows K 0) := by
  unfold f_X6_book
  rw [l0, at_ok hK (by decide), bnd_some]
theorem copiesAt {K : Nat} {rows : Nat → Nat → Int32} (hK : K ≤ 10) : f_X6_copiesNow (nI K) rows = some (rows K 1) := by
  unfold f_X6_copiesNow
  rw [l1, at_ok hK (by decide), bnd_some]
theorem relAt {K : Nat} {rows : Nat → Nat → Int32} (hK : K ≤ 10) : f_X6_released (nI K) rows = some (rows K 2) := by
  unfold f_X6_released
  rw [l2, at_ok hK (by decide), bnd_some]
theorem timesAt {K s : Nat} {rows : Nat → Nat → Int32} (hK : K ≤ 10) (hs : s < 6) : f_X6_timesOf (nI K) rows (nI s) = some (rows K (3 + s)) := by
  unfold f_X6_timesOf
  rw [l3, nI_add, at_ok hK (by omega), bnd_some]
theorem vaup_eq {f : Nat → Nat → Int32} {k : Nat} {x : Nat → Int32} : va_up f k x k = x := if_pos rfl
theorem vaup_ne {f : Nat → Nat → Int32} {k j : Nat} {x : Nat → Int32} (h : j ≠ k) : va_up f k x j = f j := if_neg h
/-- one field of the row of now put anew on both sides -/
theorem SD_put {B S K j : Nat} {rows : Nat → Nat → Int32} {now : Nat → Int32} {v : Int32} (h : SD B S 0 K rows now) (hj : j < 9) (hr : RW B S (upd (rows K) j v)) : SD B S 0 K (va_up rows K (upd (rows K) j v)) (upd now (psi j) v) := by
  obtain ⟨h1, h2, h3, h4, h5⟩ := h
  have hp := psi_lt hj
  refine ⟨?_, h2, fun a ha => ?_, fun i hi a ha => ?_, fun i hi => ?_⟩
  · rw [upd_ne (by omega)]; exact h1
  · rw [vaup_eq]
    by_cases e : a = j
    · subst e; rw [Nat.zero_add, upd_eq, upd_eq]
    · rw [upd_ne (fun z => e (psi_inj ha hj (by omega))), upd_ne e]; exact h3 a ha
  · rw [vaup_ne (by omega), upd_ne (by omega)]; exact h4 i hi a ha
  · by_cases e : i = K
    · subst e; rw [vaup_eq]; exact hr
    · rw [vaup_ne e]; exact h5 i hi
theorem RW_times {B S s : Nat} {row : Nat → Int32} {v : Int32} (h : RW B S row) : RW B S (upd row (3 + s) v) := by
  unfold RW at *
  rw [upd_ne (by omega), upd_ne (by omega), upd_ne (by omega)]
  exact h
theorem RW_book {B S k : Nat} {row : Nat → Int32} (h : RW B S row) (hk : k < B) : RW B S (upd row 0 (nI k)) := by
  unfold RW at *
  rw [upd_eq, upd_ne (by omega), upd_ne (by omega)]
  exact ⟨⟨k, rfl, hk⟩, h.2⟩
theorem RW_copies {B S c : Nat} {row : Nat → Int32} (h : RW B S row) (hc : c ≤ 999) : RW B S (upd row 1 (nI c)) := by
  unfold RW at *
  rw [upd_eq, upd_ne (by omega), upd_ne (by omega)]
  exact ⟨h.1, ⟨c, rfl, hc⟩, h.2.2⟩
theorem RW_rel {B S w : Nat} {row : Nat → Int32} (h : RW B S row) (hw : w < 2 ^ S) : RW B S (upd row 2 (nI w)) := by
  unfold RW at *
  rw [upd_eq, upd_ne (by omega), upd_ne (by omega)]
  exact ⟨h.1, h.2.1, ⟨w, rfl, hw⟩⟩
/-! now kept as one that may be undone -/
theorem copyRow_self_ok {i j : Nat} {rows : Nat → Nat → Int32} (hi : i ≤ 10) (hj : j ≤ 10) : f_X6_copyRow_self rows (nI i) (nI j) = some (va_up rows j (va_cpy (rows i) (rows j) 0 0 9)) := by
  unfold f_X6_copyRow_self
  simp (disch := omega) only [↓km1, ↓km2, ↓km3, ↓km9, l0, l1, l2, l3, l4, l5, l6, l8, l9, l10, l64, l625, nlt0, nltI, nleI, neqI, njrem, ndiv, nI_add, pk_mul, pk_sub, nI_clamp, bnd_some, nne9, nne1, nm1, ↓reduceIte, Bool.false_eq_true, reduceCtorEq, Option.elim, oI_none, oI_some, l19, l81, l99, l100, l120, l255, l999, l48, l57, l97, l122, l32, l59, l98, l110, l111, l115]
  rw [if_neg (by omega), if_neg (by omega), if_neg (by omega), if_neg (by omega), if_neg (by omega), if_neg (by omega)]
theorem copyRow_other_ok {i j : Nat} {rows to : Nat → Nat → Int32} (hi : i ≤ 10) (hj : j ≤ 10) : f_X6_copyRow_other rows to (nI i) (nI j) = some (va_up to j (va_cpy (rows i) (to j) 0 0 9)) := by
  unfold f_X6_copyRow_other
  simp (disch := omega) only [↓km1, ↓km2, ↓km3, ↓km9, l0, l1, l2, l3, l4, l5, l6, l8, l9, l10, l64, l625, nlt0, nltI, nleI, neqI, njrem, ndiv, nI_add, pk_mul, pk_sub, nI_clamp, bnd_some, nne9, nne1, nm1, ↓reduceIte, Bool.false_eq_true, reduceCtorEq, Option.elim, oI_none, oI_some, l19, l81, l99, l100, l120, l255, l999, l48, l57, l97, l122, l32, l59, l98, l110, l111, l115]
  rw [if_neg (by omega), if_neg (by omega), if_neg (by omega), if_neg (by omega), if_neg (by omega), if_neg (by omega)]
theorem cpy9 {f g : Nat → Int32} {j : Nat} (hj : j < 9) : va_cpy f g 0 0 9 j = f j := by
  unfold va_cpy
  rw [if_pos (by omega)]
  congr 1
  omega
theorem RW_congr {B S : Nat} {row row' : Nat → Int32} (h : RW B S row) (e : ∀ j, j < 9 → row' j = row j) : RW B S row' := by
  unfold RW at *
  rw [e 0 (by omega), e 1 (by omega), e 2 (by omega)]
  exact h
theorem remember_ok {K : Nat} {rows : Nat → Nat → Int32} (hK : K ≤ 10) : ∃ K' rows', f_X6_remember (nI K) rows = some (nI K', rows') ∧ K' = (if K = 10 then 10 else K + 1) ∧ (∀ j, j < 9 → rows' K' j = rows K j) ∧ ∀ i, i < K' → ∀ j, j < 9 → rows' i j = rows (if K = 10 then i + 1 else i) j := by
  unfold f_X6_remember
  by_cases e : K = 10
  · subst e
    rw [if_pos (show (10 : Int32) ≤ nI 10 by decide)]
    obtain ⟨r, hr, rows', rfl, h1, h2⟩ := lp_IU (B := b_X6_remember_40 (nI 10)) (fun z => ∃ i rs, i ≤ 10 ∧ z = (nI i, rs) ∧ (∀ a, a < i → ∀ j, j < 9 → rs a j = rows (a + 1) j) ∧ ∀ a, i ≤ a → rs a = rows a) (fun z => 10 - z.1.toNatClampNeg) (fun r => ∃ rows', r = (nI 10, rows') ∧ (∀ j, j < 9 → rows' 10 j = rows 10 j) ∧ ∀ i, i < 10 → ∀ j, j < 9 → rows' i j = rows (i + 1) j) (fun z hz => by
      obtain ⟨i, rs, hi, rfl, g1, g2⟩ := hz
      unfold b_X6_remember_40
      dsimp only
      by_cases c : 10 ≤ i
      · right
        have e : i = 10 := by omega
        subst e
        rw [if_pos (by decide)]
        exact ⟨_, rfl, rs, rfl, fun j _ => by rw [g2 10 (Nat.le_refl _)], g1⟩
      · left
        rw [if_neg (by rw [l10, nleI (by omega) (by omega)]; omega), n1, copyRow_self_ok (by omega) (by omega), bnd_some]
        refine ⟨_, rfl, ⟨i + 1, _, by omega, rfl, fun a ha j hj => ?_, fun a ha => ?_⟩, ?_⟩
        · by_cases e : a = i
          · subst e; rw [vaup_eq, cpy9 hj, g2 _ (by omega)]
          · rw [vaup_ne e]; exact g1 a (by omega) j hj
        · rw [vaup_ne (by omega)]; exact g2 a (by omega)
        · dsimp only
          rw [nI_clamp (by omega), nI_clamp (by omega)]
          omega) ((0 : Int32), rows) ⟨0, rows, Nat.zero_le _, rfl, fun a ha => by omega, fun a _ => rfl⟩ (by show 10 - _ < _; omega)
    exact ⟨10, rows', hr, rfl, h1, h2⟩
  · rw [if_neg (by rw [l10, nleI (by omega) (by omega)]; omega), n1, show nI (K + 1) - (1 : Int32) = nI K from nI_pred K, copyRow_self_ok (by omega) (by omega), bnd_some]
    refine ⟨K + 1, _, rfl, by rw [if_neg e], fun j hj => by rw [vaup_eq, cpy9 hj], fun i hi j hj => ?_⟩
    rw [vaup_ne (by omega), if_neg e]
def knF (now : Nat → Int32) (M i : Nat) : Nat → Int32 := fun x => if 10 + 9 * M ≤ x ∧ x < 10 + 9 * M + i then now (x - (10 + 9 * M)) else now x
theorem knF_o {now : Nat → Int32} {M i x : Nat} (h : x < 10 + 9 * M ∨ 10 + 9 * M + i ≤ x) : knF now M i x = now x := if_neg (by omega)
theorem knF_i {now : Nat → Int32} {M i j : Nat} (h : j < i) : knF now M i (10 + 9 * M + j) = now j := by
  unfold knF
  rw [if_pos (by omega), Nat.add_sub_cancel_left]
theorem know57_ok {M : Nat} {now : Nat → Int32} (hM : M ≤ 9) (h9 : now 9 = nI M) : lpF b_X9_know_57 FU ((0 : Int32), now) = some (upd (knF now M 9) 9 (nI (M + 1))) := by
  have e0 : now = knF now M 0 := funext fun x => (knF_o (by omega)).symm
  have k9 : ∀ i, knF now M i 9 = nI M := fun i => by rw [knF_o (by omega)]; exact h9
  conv => lhs; rw [e0]
  refine lp_run0 (st := fun i => (nI i, knF now M i)) 9 _ (by omega) (fun i hi => ?_) ?_
  · unfold b_X9_know_57
    dsimp only
    simp only [show knF now M i (9 : Int32).toNatClampNeg = nI M from k9 i]
    rw [show (10 : Int32) + (9 : Int32) * nI M + nI i = nI (10 + 9 * M + i) by rw [l10, l9, pk_mul, nI_add, nI_add], if_neg (by rw [l9, nleI (by omega) (by omega)]; omega), if_neg (gN (by omega) (by omega)), if_neg (gN (by omega) (by omega)), nI_clamp (by omega), nI_clamp (by omega), n1, knF_o (x := i) (by omega)]
    congr 3
    funext x
    by_cases e : x = 10 + 9 * M + i
    · subst e; rw [upd_eq, knF_i (by omega)]
    · rw [upd_ne e]
      by_cases c : 10 + 9 * M ≤ x ∧ x < 10 + 9 * M + i
      · obtain ⟨j, hj⟩ : ∃ j, x = 10 + 9 * M + j := ⟨x - (10 + 9 * M), by omega⟩
        subst hj
        rw [knF_i (by omega), knF_i (by omega)]
      · rw [knF_o (by omega), knF_o (by omega)]
  · unfold b_X9_know_57
    dsimp only
    rw [if_pos (by decide), show knF now M 9 (9 : Int32).toNatClampNeg = nI M from k9 9, n1]
    rfl
def shF (now : Nat → Int32) (i : Nat) : Nat → Int32 := fun x => if 10 ≤ x ∧ x < 10 + i then now (x + 9) else now x
theorem shF_o {now : Nat → Int32} {i x : Nat} (h : x < 10 ∨ 10 + i ≤ x) : shF now i x = now x := if_neg (by omega)
theorem shF_i {now : Nat → Int32} {i x : Nat} (h : 10 ≤ x ∧ x < 10 + i) : shF now i x = now (x + 9) := if_pos h
theorem know14_ok {now : Nat → Int32} (h9 : now 9 = nI 10) : lpF b_X9_know_14 FU ((0 : Int32), now) = some (upd (knF (upd (shF now 81) 9 (nI 9)) 9 9) 9 (nI 10)) := by
  have e0 : now = shF now 0 := funext fun x => (shF_o (by omega)).symm
  conv => lhs; rw [e0]
  refine lp_run0 (st := fun i => (nI i, shF now i)) 81 _ (by omega) (fun i hi => ?_) ?_
  · unfold b_X9_know_14
    dsimp only
    rw [show (19 : Int32) + nI i = nI (19 + i) by rw [l19, nI_add], show (10 : Int32) + nI i = nI (10 + i) by rw [l10, nI_add], if_neg (by rw [l81, nleI (by omega) (by omega)]; omega), if_neg (gN (by omega) (by omega)), if_neg (gN (by omega) (by omega)), nI_clamp (by omega), nI_clamp (by omega), n1, shF_o (x := 19 + i) (by omega)]
    congr 3
    funext x
    by_cases e : x = 10 + i
    · subst e; rw [upd_eq, shF_i (by omega)]; congr 1; omega
    · rw [upd_ne e]
      by_cases c : 10 ≤ x ∧ x < 10 + i
      · rw [shF_i c, shF_i (by omega)]
      · rw [shF_o (by omega), shF_o (by omega)]
  · unfold b_X9_know_14
    dsimp only
    rw [if_pos (by decide), show shF now 81 (9 : Int32).toNatClampNeg = nI 10 by rw [← h9]; exact shF_o (by decide), show nI 10 - (1 : Int32) = nI 9 from rfl, show (9 : Int32).toNatClampNeg = 9 from rfl, know57_ok (M := 9) (by omega) upd_eq]
    rfl
theorem know_ok {B S K : Nat} {rows : Nat → Nat → Int32} {now : Nat → Int32} (h : SD B S 0 K rows now) : ∃ K' rows' now', f_X6_remember (nI K) rows = some (nI K', rows') ∧ f_X9_know now = some now' ∧ SD B S 0 K' rows' now' ∧ (∀ j, j < 9 → rows' K' j = rows K j) ∧ ∀ x, 100 ≤ x → now' x = now x := by
  obtain ⟨h1, h2, h3, h4, h5⟩ := h
  obtain ⟨K', rows', r1, r2, r3, r4⟩ := remember_ok (rows := rows) h2
  rw [Nat.zero_add] at h1
  refine ⟨K', rows', ?_⟩
  unfold f_X9_know
  rw [show now (9 : Int32).toNatClampNeg = nI K from h1]
  by_cases e : K = 10
  · subst e
    rw [if_pos rfl] at r2
    subst r2
    have h3' : ∀ j, j < 9 → now (psi j) = rows 10 j := fun j hj => by rw [← h3 j hj, Nat.zero_add]
    have low : ∀ j, j < 9 → upd (knF (upd (shF now 81) 9 (nI 9)) 9 9) 9 (nI 10) j = now j := fun j hj => by
      rw [upd_ne (by omega), knF_o (by omega), upd_ne (by omega), shF_o (by omega)]
    refine ⟨_, r1, by rw [if_pos (show nI 10 = (10 : Int32) from rfl)]; exact know14_ok h1, ⟨upd_eq, h2, fun j hj => ?_, fun i hi j hj => ?_, fun i hi => ?_⟩, r3, fun x hx => ?_⟩
    · have := psi_lt hj
      rw [Nat.zero_add (psi j), low _ this, h3' j hj, r3 j hj]
    · have := psi_lt hj
      rw [r4 i hi j hj, if_pos rfl, upd_ne (by omega)]
      by_cases e : i = 9
      · subst e
        rw [show 0 + 10 + 9 * 9 + psi j = 10 + 9 * 9 + psi j by omega, knF_i this, upd_ne (by omega), shF_o (by omega), h3' j hj]
      · rw [knF_o (by omega), upd_ne (by omega), shF_i (by omega), ← h4 (i + 1) (by omega) j hj]
        congr 1
        omega
    · by_cases e : i = 10
      · subst e; exact RW_congr (h5 10 (Nat.le_refl _)) r3
      · exact RW_congr (h5 (i + 1) (by omega)) (fun j hj => by rw [r4 i (by omega) j hj, if_pos rfl])
    · rw [upd_ne (by omega), knF_o (by omega), upd_ne (by omega), shF_o (by omega)]
  · rw [if_neg e] at r2
    subst r2
    refine ⟨_, r1, by rw [if_neg (by rw [l10, neqI (by omega) (by omega)]; exact e)]; exact know57_ok (M := K) (by omega) h1, ⟨upd_eq, by omega, fun j hj => ?_, fun i hi j hj => ?_, fun i hi => ?_⟩, r3, fun x hx => ?_⟩
    · have := psi_lt hj
      rw [Nat.zero_add, upd_ne (by omega), knF_o (by omega), r3 j hj, ← h3 j hj, Nat.zero_add]
    · have := psi_lt hj
      rw [r4 i hi j hj, if_neg e, upd_ne (by omega)]
      by_cases q : i = K
      · subst q
        rw [show 0 + 10 + 9 * i + psi j = 10 + 9 * i + psi j by omega, knF_i this, ← h3 j hj, Nat.zero_add]
      · rw [knF_o (by omega)]
        exact h4 i (by omega) j hj
    · by_cases q : i = K + 1
      · subst q; exact RW_congr (h5 K (Nat.le_refl _)) r3
      · exact RW_congr (h5 i (by omega)) (fun j hj => by rw [r4 i (by omega) j hj, if_neg e])
    · rw [upd_ne (by omega), knF_o (by omega)]
/-! undo -/
def unF (now : Nat → Int32) (M i : Nat) : Nat → Int32 := fun x => if x < i then now (10 + 9 * M + x) else now x
theorem unF_o {now : Nat → Int32} {M i x : Nat} (h : i ≤ x) : unF now M i x = now x := if_neg (by omega)
theorem unF_i {now : Nat → Int32} {M i x : Nat} (h : x < i) : unF now M i x = now (10 + 9 * M + x) := if_pos h
theorem undo26_ok {M : Nat} {now : Nat → Int32} (hM : M ≤ 9) (h9 : now 9 = nI M) : lpF b_X9_undo_26 FU ((0 : Int32), now) = some (nI M, unF now M 9) := by
  have e0 : now = unF now M 0 := funext fun x => (unF_o (by omega)).symm
  have k9 : ∀ i, i ≤ 9 → unF now M i 9 = nI M := fun i hi => by rw [unF_o hi]; exact h9
  conv => lhs; rw [e0]
  refine lp_run0 (st := fun i => (nI i, unF now M i)) 9 _ (by omega) (fun i hi => ?_) ?_
  · unfold b_X9_undo_26
    dsimp only
    simp only [show unF now M i (9 : Int32).toNatClampNeg = nI M from k9 i (by omega)]
    rw [show (10 : Int32) + (9 : Int32) * nI M + nI i = nI (10 + 9 * M + i) by rw [l10, l9, pk_mul, nI_add, nI_add], if_neg (by rw [l9, nleI (by omega) (by omega)]; omega), if_neg (gN (by omega) (by omega)), if_neg (gN (by omega) (by omega)), nI_clamp (by omega), nI_clamp (by omega), n1, unF_o (x := 10 + 9 * M + i) (by omega)]
    congr 3
    funext x
    by_cases e : x = i
    · subst e; rw [upd_eq, unF_i (by omega)]
    · rw [upd_ne e]
      by_cases c : x < i
      · rw [unF_i c, unF_i (by omega)]
      · rw [unF_o (by omega), unF_o (by omega)]
  · unfold b_X9_undo_26
    dsimp only
    rw [if_pos (by decide), show unF now M 9 (9 : Int32).toNatClampNeg = nI M from k9 9 (by omega)]
theorem undo_ok {B S K : Nat} {rows : Nat → Nat → Int32} {now : Nat → Int32} (h : SD B S 0 K rows now) : ∃ K' r now', f_X8_undo (nI K) = some (r, nI K') ∧ f_X9_undo now = some (r, now') ∧ SD B S 0 K' rows now' ∧ ∀ x, 100 ≤ x → now' x = now x := by
  obtain ⟨h1, h2, h3, h4, h5⟩ := id h
  rw [Nat.zero_add] at h1
  unfold f_X8_undo f_X6_takeBack f_X9_undo
  rw [show now (9 : Int32).toNatClampNeg = nI K from h1]
  cases K with
  | zero =>
    rw [if_neg (by decide), if_pos (show nI 0 = 0 from rfl)]
    exact ⟨0, _, now, by rw [bnd_some, if_pos rfl], rfl, h, fun x _ => rfl⟩
  | succ M =>
    rw [if_pos (by rw [l1, nleI (by omega) (by omega)]; omega), if_neg (by rw [l0, neqI (by omega) (by omega)]; omega), nI_pred, show (9 : Int32).toNatClampNeg = 9 from rfl, undo26_ok (M := M) (by omega) upd_eq]
    refine ⟨M, _, _, by rw [bnd_some, if_neg (show ¬ (1 : Int32) = 0 by decide)], rfl, ⟨?_, by omega, fun j hj => ?_, fun i hi j hj => ?_, fun i hi => h5 i (by omega)⟩, fun x hx => ?_⟩
    · rw [unF_o (by omega)]; exact upd_eq
    · have := psi_lt hj
      rw [Nat.zero_add (psi j), unF_i this, upd_ne (by omega), ← h4 M (by omega) j hj, Nat.zero_add]
    · rw [unF_o (by omega), upd_ne (by omega)]
      exact h4 i (by omega) j hj
    · rw [unF_o (by omega), upd_ne (by omega)]
/-! images -/
theorem become_ok {K : Nat} {rows rows0 : Nat → Nat → Int32} (hK : K ≤ 10) : ∃ rows', f_X6_become rows0 (nI K) rows = some (nI K, rows') ∧ ∀ i, i ≤ K → ∀ j, j < 9 → rows' i j = rows i j := by
  unfold f_X6_become
  obtain ⟨r, hr, rows', rfl, h1⟩ := lp_IU (B := b_X6_become_10 (nI K) rows) (fun z => ∃ i rs, i ≤ K + 1 ∧ z = (nI i, rs) ∧ (∀ a, a < i → ∀ j, j < 9 → rs a j = rows a j)) (fun z => K + 1 - z.1.toNatClampNeg) (fun r => ∃ rows', r = (nI K, rows') ∧ ∀ i, i ≤ K → ∀ j, j < 9 → rows' i j = rows i j) (fun z hz => by
    obtain ⟨i, rs, hi, rfl, g1⟩ := hz
    unfold b_X6_become_10
    dsimp only
    by_cases c : K < i
    · right
      rw [if_pos (by rw [nltI (by omega) (by omega)]; exact c)]
      exact ⟨_, rfl, rs, rfl, fun a ha j hj => g1 a (by omega) j hj⟩
    · left
      rw [if_neg (by rw [nltI (by omega) (by omega)]; exact c), n1, copyRow_other_ok (by omega) (by omega), bnd_some]
      refine ⟨_, rfl, ⟨i + 1, _, by omega, rfl, fun a ha j hj => ?_⟩, ?_⟩
      · by_cases e : a = i
        · subst e; rw [vaup_eq, cpy9 hj]
        · rw [vaup_ne e]; exact g1 a (by omega) j hj
      · dsimp only
        rw [nI_clamp (by omega), nI_clamp (by omega)]
        omega) ((0 : Int32), rows0) ⟨0, rows0, Nat.zero_le _, rfl, fun a ha => by omega⟩ (by show K + 1 - _ < _; omega)
  exact ⟨rows', hr, h1⟩
theorem SD_move {B S o o' K : Nat} {rows rows' : Nat → Nat → Int32} {now now' : Nat → Int32} (h : SD B S o K rows now) (hr : ∀ i, i ≤ K → ∀ j, j < 9 → rows' i j = rows i j) (hn : ∀ x, x < 100 → now' (o' + x) = now (o + x)) : SD B S o' K rows' now' := by
  obtain ⟨h1, h2, h3, h4, h5⟩ := h
  refine ⟨by rw [hn 9 (by omega)]; exact h1, h2, fun j hj => ?_, fun i hi j hj => ?_, fun i hi => RW_congr (h5 i hi) (hr i hi)⟩
  · rw [hn _ (by have := psi_lt hj; omega), h3 j hj, hr K (Nat.le_refl _) j hj]
  · have := psi_lt hj
    have e := hn (10 + 9 * i + psi j) (by omega)
    rw [show o' + 10 + 9 * i + psi j = o' + (10 + 9 * i + psi j) by omega, e, show o + (10 + 9 * i + psi j) = o + 10 + 9 * i + psi j by omega, h4 i hi j hj, hr i (by omega) j hj]
theorem SD_stay {B S o K : Nat} {rows : Nat → Nat → Int32} {now now' : Nat → Int32} (h : SD B S o K rows now) (hn : ∀ x, x < 100 → now' (o + x) = now (o + x)) : SD B S o K rows now' := SD_move h (fun _ _ _ _ => rfl) hn
def kpF (now : Nat → Int32) (o i : Nat) : Nat → Int32 := fun x => if o ≤ x ∧ x < o + i then now (x - o) else now x
theorem kpF_o {now : Nat → Int32} {o i x : Nat} (h : x < o ∨ o + i ≤ x) : kpF now o i x = now x := if_neg (by omega)
theorem kpF_i {now : Nat → Int32} {o i j : Nat} (h : j < i) : kpF now o i (o + j) = now j := by
  unfold kpF
  rw [if_pos (by omega), Nat.add_sub_cancel_left]
theorem keep13_ok {m : Nat} {now ik : Nat → Int32} (hm : m < 2) : lpF (b_X9_keep_13 ik (nI m)) FU ((0 : Int32), now) = some (now 1, kpF now (100 * (1 + m)) 100, upd ik m (vp_nar .boolean (1 : Int32))) := by
  have e0 : now = kpF now (100 * (1 + m)) 0 := funext fun x => (kpF_o (by omega)).symm
  conv => lhs; rw [e0]
  refine lp_run0 (st := fun i => (nI i, kpF now (100 * (1 + m)) i)) 100 _ (by omega) (fun i hi => ?_) ?_
  · unfold b_X9_keep_13
    dsimp only
    rw [show (100 : Int32) * ((1 : Int32) + nI m) + nI i = nI (100 * (1 + m) + i) by rw [l100, l1, nI_add, pk_mul, nI_add], if_neg (by rw [l100, nleI (by omega) (by omega)]; omega), if_neg (gN (by omega) (by omega)), if_neg (gN (by omega) (by omega)), nI_clamp (by omega), nI_clamp (by omega), n1, kpF_o (x := i) (by omega)]
    congr 3
    funext x
    by_cases e : x = 100 * (1 + m) + i
    · subst e; rw [upd_eq, kpF_i (by omega)]
    · rw [upd_ne e]
      by_cases c : 100 * (1 + m) ≤ x ∧ x < 100 * (1 + m) + i
      · obtain ⟨j, hj⟩ : ∃ j, x = 100 * (1 + m) + j := ⟨x - 100 * (1 + m), by omega⟩
        subst hj
        rw [kpF_i (by omega), kpF_i (by omega)]
      · rw [kpF_o (by omega), kpF_o (by omega)]
  · unfold b_X9_keep_13
    dsimp only
    rw [if_pos (by decide), if_neg (gN (by omega) (by omega)), nI_clamp (by omega), show kpF now (100 * (1 + m)) 100 (1 : Int32).toNatClampNeg = now 1 from kpF_o (by show 1 < _ ∨ _; omega)]
def bkF (now : Nat → Int32) (o i : Nat) : Nat → Int32 := fun x => if x < i then now (o + x) else now x
theorem bkF_o {now : Nat → Int32} {o i x : Nat} (h : i ≤ x) : bkF now o i x = now x := if_neg (by omega)
theorem bkF_i {now : Nat → Int32} {o i x : Nat} (h : x < i) : bkF now o i x = now (o + x) := if_pos h
theorem back25_ok {m : Nat} {now : Nat → Int32} (hm : m < 2) : lpF (b_X9_back_25 (nI m)) FU ((0 : Int32), now) = some (now (100 * (1 + m) + 1), bkF now (100 * (1 + m)) 100) := by
  have e0 : now = bkF now (100 * (1 + m)) 0 := funext fun x => (bkF_o (by omega)).symm
  conv => lhs; rw [e0]
  refine lp_run0 (st := fun i => (nI i, bkF now (100 * (1 + m)) i)) 100 _ (by omega) (fun i hi => ?_) ?_
  · unfold b_X9_back_25
    dsimp only
    rw [show (100 : Int32) * ((1 : Int32) + nI m) + nI i = nI (100 * (1 + m) + i) by rw [l100, l1, nI_add, pk_mul, nI_add], if_neg (by rw [l100, nleI (by omega) (by omega)]; omega), if_neg (gN (by omega) (by omega)), if_neg (gN (by omega) (by omega)), nI_clamp (by omega), nI_clamp (by omega), n1, bkF_o (x := 100 * (1 + m) + i) (by omega)]
    congr 3
    funext x
    by_cases e : x = i
    · subst e; rw [upd_eq, bkF_i (by omega)]
    · rw [upd_ne e]
      by_cases c : x < i
      · rw [bkF_i c, bkF_i (by omega)]
      · rw [bkF_o (by omega), bkF_o (by omega)]
  · unfold b_X9_back_25
    dsimp only
    rw [if_pos (by decide), show bkF now (100 * (1 + m)) 100 (1 : Int32).toNatClampNeg = now (100 * (1 + m) + 1) from bkF_i (by decide)]
