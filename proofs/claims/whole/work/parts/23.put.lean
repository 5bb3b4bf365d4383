/-! ===== a line put anew ===== -/
def putN (n L k l x : Nat) : Nat := cmN n (fun j => if j = l then x else dgt n L k j) L
theorem div_split {n L k j : Nat} (hj : j < L) : k / n ^ (L - (j + 1)) = k / n ^ (L - j) * n + dgt n L k j := by
  have e : k / n ^ (L - j) = k / n ^ (L - (j + 1)) / n := by
    rw [Nat.div_div_eq_div_mul, ← Nat.pow_succ, show Nat.succ (L - (j + 1)) = L - j by omega]
  unfold dgt
  rw [e, show L - 1 - j = L - (j + 1) by omega, Nat.mul_comm]
  exact (Nat.div_add_mod _ _).symm
theorem put_aux {n L k l x : Nat} (hn : 2 ≤ n) (hk : k < n ^ L) (hl : l < L) : ∀ j, l < j → j ≤ L → cmN n (fun i => if i = l then x else dgt n L k i) j + dgt n L k l * n ^ (j - 1 - l) = k / n ^ (L - j) + x * n ^ (j - 1 - l)
  | 0, h, _ => by omega
  | j + 1, h, hL => by
    unfold cmN
    rw [div_split (by omega)]
    by_cases e : j = l
    · subst e
      rw [cmN_congr (g' := dgt n L k) (fun i hi => by simp [show i ≠ j by omega]), cm_id hn hk j (by omega)]
      simp
      omega
    · have ih := put_aux hn hk hl (x := x) j (by omega) (by omega)
      rw [if_neg e]
      have e2 : n ^ (j + 1 - 1 - l) = n ^ (j - 1 - l) * n := by rw [← Nat.pow_succ, show Nat.succ (j - 1 - l) = j + 1 - 1 - l by omega]
      rw [e2]
      have h2 := congrArg (· * n) ih
      simp only [Nat.add_mul, Nat.mul_assoc] at h2
      omega
theorem put_eq {n L k l x : Nat} (hn : 2 ≤ n) (hk : k < n ^ L) (hl : l < L) : putN n L k l x + dgt n L k l * n ^ (L - 1 - l) = k + x * n ^ (L - 1 - l) := by
  have h := put_aux (x := x) hn hk hl L hl (Nat.le_refl L)
  rw [Nat.sub_self, Nat.pow_zero, Nat.div_one] at h
  exact h
theorem putN_lt {n L k l x : Nat} (hn : 2 ≤ n) (hx : x < n) : putN n L k l x < n ^ L := by
  refine cmN_lt (L := L) (fun j _ => ?_) L (Nat.le_refl L)
  by_cases e : j = l
  · rw [if_pos e]; exact hx
  · rw [if_neg e]; exact dgt_lt hn
theorem i32_lin {k x g w P : Int32} (h : k + x * w = P + g * w) : k + (x - g) * w = P := by
  have h2 : (x - g) * w = x * w - g * w := by grind
  grind
theorem withLine_ok {n L k l x : Nat} (hn : 2 ≤ n) (hn5 : n ≤ 5) (hL : L ≤ 4) (hl : l < L) (hk : k < n ^ L) (hx : x < n) : f_X0_withLine (nI n) (nI L) (nI k) (nI l) (nI x) = some (nI (putN n L k l x)) := by
  unfold f_X0_withLine
  rw [lineOf_ok hn hn5 hL hl hk, bnd_some, weightOf_ok hn hn5 hL hl, bnd_some]
  congr 1
  apply i32_lin
  rw [pk_mul, pk_mul, nI_add, nI_add, put_eq hn hk hl]
theorem mput_ok {n L S d : Nat} {t b : Nat → Nat} {op li sc ne tu be : Nat → Int32} (h : MH n L S d t b op li sc ne tu be) {k l x : Nat} (hl : l < L) (hk : k < n ^ L) (hx : x < n) : f_X9_put op li (nI k) (nI l) (nI x) = some (nI (putN n L k l x)) := by
  obtain ⟨⟨g1, g2, g3, g4, g5, g6, g7⟩, h1, h2, h3, h4, h5⟩ := id h
  unfold f_X9_put putN
  refine lp_run0 (st := fun i => (nI (cmN n (fun j => if j = l then x else dgt n L k j) i), nI i)) L _ (by omega) (fun i hi => ?_) ?_
  · show b_X9_put_6 _ _ _ _ _ _ = _
    unfold b_X9_put_6
    have hc := cmN_lt (n := n) (g := fun j => if j = l then x else dgt n L k j) (L := L) (fun j _ => by by_cases e : j = l; rw [if_pos e]; exact hx; rw [if_neg e]; exact dgt_lt g1) i (by omega)
    have hp : n ^ i ≤ 625 := npow_le g2 (by omega)
    have hd2 : dgt n L k i < n := dgt_lt g1
    have hmul : cmN n (fun j => if j = l then x else dgt n L k j) i * n ≤ 625 * 5 := Nat.mul_le_mul (by omega) g2
    dsimp only
    rw [mlineOf_ok g1 g2 g3 h1 h2 hi hk]
    simp (disch := omega) only [↓km1, ↓km2, ↓km3, ↓km9, l0, l1, l2, l3, l4, l5, l6, l8, l9, l10, l64, l625, nlt0, nltI, nleI, neqI, njrem, ndiv, nI_add, pk_mul, pk_sub, nI_clamp, bnd_some, nne9, nne1, nm1, h1, h2]
    rw [if_neg (by omega)]
    by_cases e : i = l
    · rw [if_pos e]; simp [cmN, e]
    · rw [if_neg e]; simp [cmN, e]
  · show b_X9_put_6 _ _ _ _ _ _ = _
    unfold b_X9_put_6
    simp (disch := omega) only [↓km1, ↓km2, ↓km3, ↓km9, l0, l1, l2, l3, l4, l5, l6, l8, l9, l10, l64, l625, nlt0, nltI, nleI, neqI, njrem, ndiv, nI_add, pk_mul, pk_sub, nI_clamp, bnd_some, nne9, nne1, nm1, h1, h2]
    rw [if_pos (by omega)]
