theorem init_ok2 : ∃ op' li' sc' tu' be' ne' now' ik', f_X9_takeDraft (upd (fun _ => 0) 1 5) (upd (fun _ => 0) 1 0) (fun _ => 0) (upd (fun _ => 0) 1 0) (fun _ => 0) (fun _ => 0) (upd (fun _ => 0) 1 1) (fun _ => 0) (fun _ => 0) = some (nI 0, nI 0, op', li', sc', tu', be', ne', now', ik') ∧ MH 5 0 0 1 (fun _ => 0) (fun _ => 0) op' li' sc' ne' tu' be' ∧ SD (5 ^ 0) 0 0 0 (fun _ _ => 0) now' ∧ ik' 0 = 0 ∧ ik' 1 = 0 := by
  obtain ⟨op', li', sc', tu', be', ne', now', ik', k0, k1, k2, k3, k4, k5⟩ := takeDraft_ok (n := 5) (L := 0) (S := 0) (d := 1) (t := fun _ => 0) (b := fun _ => 0) (g := fun _ => 0) (mop := upd (fun _ => 0) 1 (nI 5)) (mli := upd (fun _ => 0) 1 (nI 0)) (mdb := fun _ => 0) (msc := upd (fun _ => 0) 1 (nI 0)) (mtu := fun _ => 0) (mbe := fun _ => 0) (mne := upd (fun _ => 0) 1 (nI 1)) (now := fun _ => 0) (ik := fun _ => 0) ⟨by decide, by decide, by decide, by decide, by decide, by decide, fun s hs => absurd hs (Nat.not_lt_zero s)⟩ upd_eq upd_eq upd_eq upd_eq (fun l hl => absurd hl (Nat.not_lt_zero l)) (fun s hs => absurd hs (Nat.not_lt_zero s))
  exact ⟨op', li', sc', tu', be', ne', now', ik', k0, k1, SD_new (by decide) rfl (fun _ _ _ => rfl) k2 k3, k4, k5⟩
theorem st_start {s : State} {sb : Nat} (hts : ∀ w ∈ lw_tbl, w.before #[Value.ref sb] s = true) (hgv : (Jvm.Cond.and given_1 narrow_1).before #[Value.ref sb] s = true) : ST (fun q : Nat => s.heap.size ≤ q) s s.heap := by
  have hfl := flat_of_before _ hgv
  have hAn : ∀ a : Nat, a < s.heap.size → ¬ (fun q : Nat => s.heap.size ≤ q) a := fun a h => Nat.not_le.mpr h
  have eABOVE : ∀ j : Nat, j < 6 → (Term.elem (.static "MarginBooks$Marks" "ABOVE" "[I") (.int (Int32.ofNat j))).eval #[Value.ref sb] s none [] s = some (.int (tAb j)) := fun j hj => by
    rcases (show j = 0 ∨ j = 1 ∨ j = 2 ∨ j = 3 ∨ j = 4 ∨ j = 5 by omega) with rfl | rfl | rfl | rfl | rfl | rfl
    · exact va_eqt (z := (-1)) (hfl (Cond.eq (.elem (.static "MarginBooks$Marks" "ABOVE" "[I") (.int 0)) (.int (-1))) (by decide +kernel))
    · exact va_eqt (z := 0) (hfl (Cond.eq (.elem (.static "MarginBooks$Marks" "ABOVE" "[I") (.int 1)) (.int 0)) (by decide +kernel))
    · exact va_eqt (z := 0) (hfl (Cond.eq (.elem (.static "MarginBooks$Marks" "ABOVE" "[I") (.int 2)) (.int 0)) (by decide +kernel))
    · exact va_eqt (z := 1) (hfl (Cond.eq (.elem (.static "MarginBooks$Marks" "ABOVE" "[I") (.int 3)) (.int 1)) (by decide +kernel))
    · exact va_eqt (z := 2) (hfl (Cond.eq (.elem (.static "MarginBooks$Marks" "ABOVE" "[I") (.int 4)) (.int 2)) (by decide +kernel))
    · exact va_eqt (z := 0) (hfl (Cond.eq (.elem (.static "MarginBooks$Marks" "ABOVE" "[I") (.int 5)) (.int 0)) (by decide +kernel))
  obtain ⟨tABOVE, aABOVE, bABOVE⟩ := va_Tof (tm := (.static "MarginBooks$Marks" "ABOVE" "[I")) (ty := .int) (N := 6) (f := fun k => .int (tAb k)) (A := fun q : Nat => s.heap.size ≤ q) (by decide) (hfl (Cond.arrayOf (.static "MarginBooks$Marks" "ABOVE" "[I") .int) (by decide +kernel)) (va_eqt (z := 6) (hfl (Cond.eq (.length (.static "MarginBooks$Marks" "ABOVE" "[I")) (.int 6)) (by decide +kernel))) eABOVE hAn
  have eTRACED : ∀ j : Nat, j < 6 → (Term.elem (.static "MarginBooks$Marks" "TRACED" "[I") (.int (Int32.ofNat j))).eval #[Value.ref sb] s none [] s = some (.int (tTr j)) := fun j hj => by
    rcases (show j = 0 ∨ j = 1 ∨ j = 2 ∨ j = 3 ∨ j = 4 ∨ j = 5 by omega) with rfl | rfl | rfl | rfl | rfl | rfl
    · exact va_eqt (z := 1) (hfl (Cond.eq (.elem (.static "MarginBooks$Marks" "TRACED" "[I") (.int 0)) (.int 1)) (by decide +kernel))
    · exact va_eqt (z := 10) (hfl (Cond.eq (.elem (.static "MarginBooks$Marks" "TRACED" "[I") (.int 1)) (.int 10)) (by decide +kernel))
    · exact va_eqt (z := 100) (hfl (Cond.eq (.elem (.static "MarginBooks$Marks" "TRACED" "[I") (.int 2)) (.int 100)) (by decide +kernel))
    · exact va_eqt (z := 1000) (hfl (Cond.eq (.elem (.static "MarginBooks$Marks" "TRACED" "[I") (.int 3)) (.int 1000)) (by decide +kernel))
    · exact va_eqt (z := 10000) (hfl (Cond.eq (.elem (.static "MarginBooks$Marks" "TRACED" "[I") (.int 4)) (.int 10000)) (by decide +kernel))
    · exact va_eqt (z := 100000) (hfl (Cond.eq (.elem (.static "MarginBooks$Marks" "TRACED" "[I") (.int 5)) (.int 100000)) (by decide +kernel))
  obtain ⟨tTRACED, aTRACED, bTRACED⟩ := va_Tof (tm := (.static "MarginBooks$Marks" "TRACED" "[I")) (ty := .int) (N := 6) (f := fun k => .int (tTr k)) (A := fun q : Nat => s.heap.size ≤ q) (by decide) (hfl (Cond.arrayOf (.static "MarginBooks$Marks" "TRACED" "[I") .int) (by decide +kernel)) (va_eqt (z := 6) (hfl (Cond.eq (.length (.static "MarginBooks$Marks" "TRACED" "[I")) (.int 6)) (by decide +kernel))) eTRACED hAn
  exact ⟨tABOVE, tTRACED, va_Zref (hts _ nX_X3_ABOVE_l) (hts _ (GW_in gN_X3)) aABOVE hAn, bABOVE, va_Zref (hts _ nX_X3_TRACED_l) (hts _ (GW_in gN_X3)) aTRACED hAn, bTRACED⟩
theorem kt_start {s : State} {sb : Nat} (hts : ∀ w ∈ lw_tbl, w.before #[Value.ref sb] s = true) : ∃ (G : va_G) (cs : Nat → ClassId), KT G cs s := by
  have hg : ∀ w ∈ GW, w.before #[Value.ref sb] s = true := fun w h => hts w (GW_in h)
  obtain ⟨cX0, iX0, kX0⟩ := u_known (C := RX0) (T := TX0) (N := 8) (n := 8) hg inX0 (hg _ gT_X0)
  obtain ⟨cX1, iX1, kX1⟩ := u_known (C := RX1) (T := TX1) (N := 3) (n := 3) hg inX1 (hg _ gT_X1)
  obtain ⟨cX2, iX2, kX2⟩ := u_known (C := RX2) (T := TX2) (N := 3) (n := 3) hg inX2 (hg _ gT_X2)
  obtain ⟨cX3, iX3, kX3⟩ := u_known (C := RX3) (T := TX3) (N := 6) (n := 6) hg inX3 (hg _ gT_X3)
  obtain ⟨cX4, iX4, kX4⟩ := u_known (C := RX4) (T := TX4) (N := 8) (n := 8) hg inX4 (hg _ gT_X4)
  obtain ⟨cX5, iX5, kX5⟩ := u_known (C := RX5) (T := TX5) (N := 5) (n := 5) hg inX5 (hg _ gT_X5)
  obtain ⟨cX6, iX6, kX6⟩ := u_known (C := RX6) (T := TX6) (N := 2) (n := 2) hg inX6 (hg _ gT_X6)
  obtain ⟨cX7, iX7, kX7⟩ := u_known (C := RX7) (T := TX7) (N := 6) (n := 6) hg inX7 (hg _ gT_X7)
  obtain ⟨cX8, iX8, kX8⟩ := u_known (C := RX8) (T := TX8) (N := 14) (n := 14) hg inX8 (hg _ gT_X8)
  obtain ⟨cX9, iX9, kX9⟩ := u_known (C := RX9) (T := TX9) (N := 26) (n := 26) hg inX9 (hg _ gT_X9)
  obtain ⟨aI, kaI, paI, faI, gaI, haI⟩ := Cond.arrayClass_spec (hg _ gA_int)
  obtain ⟨aB, kaB, paB, faB, gaB, haB⟩ := Cond.arrayClass_spec (hg _ gA_byte)
  obtain ⟨aZ, kaZ, paZ, faZ, gaZ, haZ⟩ := Cond.arrayClass_spec (hg _ gA_boolean)
  obtain ⟨pO, aO, kaO, f1, f2, gaO, haO, faO⟩ := arrayOverA_spec (hts _ nO_l)
  refine ⟨(fun k => ([cX0, cX1, cX2, cX3, cX4, cX5, cX6, cX7, cX8, cX9] : List ClassId).getD k cX0, fun k => ([iX0, iX1, iX2, iX3, iX4, iX5, iX6, iX7, iX8, iX9] : List (Nat → Nat)).getD k iX0), fun k => ([aI, aB, aZ, aO] : List ClassId).getD k aI, fun k q hq => ?_, fun k q hq => ?_⟩
  · match k, hq with
    | 0, hq => cases hq; exact kX0
    | 1, hq => cases hq; exact kX1
    | 2, hq => cases hq; exact kX2
    | 3, hq => cases hq; exact kX3
    | 4, hq => cases hq; exact kX4
    | 5, hq => cases hq; exact kX5
    | 6, hq => cases hq; exact kX6
    | 7, hq => cases hq; exact kX7
    | 8, hq => cases hq; exact kX8
    | 9, hq => cases hq; exact kX9
    | k + 10, hq => cases hq
  · match k, hq with
    | 0, hq => cases hq; exact ⟨fun n z => ⟨fun k h => (by cases h), kaI, gaI, paI, haI⟩, faI⟩
    | 1, hq => cases hq; exact ⟨fun n z => ⟨fun k h => (by cases h), kaB, gaB, paB, haB⟩, faB⟩
    | 2, hq => cases hq; exact ⟨fun n z => ⟨fun k h => (by cases h), kaZ, gaZ, paZ, haZ⟩, faZ⟩
    | 3, hq => cases hq; exact ⟨fun n z => ⟨fun k h => (by cases h), kaO, gaO, pO, haO⟩, faO⟩
    | k + 4, hq => cases hq
set_option maxHeartbeats 4000000 in
set_option maxRecDepth 100000 in
theorem whole_start {p : Program} {e : Env} {s : State} {m : MethodId} {below : List Frame} {meth : Method} {c : Code} (l : Launch) {b L : Nat} {xs : Nat → Int32} (hL : L ≤ 256) (C0 : lw_At p s m meth c b L xs) : W p l e room_1 s m #[Value.ref b] below meth c s.heap [] 0 0 (lw_Z below #[Value.ref b] s) (entryFrame m ([Value.ref b] : List Value).toArray 4) := by
  obtain ⟨hx, hb, hr, hml, hown, hts, hX, hbl, hlocks, hgv⟩ := id C0
  have hg : ∀ w ∈ GW, w.before #[Value.ref b] s = true := fun w h => hts w (GW_in h)
  have hA : ∀ q : Nat, s.heap.size ≤ q → (fun q : Nat => s.heap.size ≤ q) q := fun _ h => h
  have hN : NW s := NW.of hts
  have hO : va_AOA .int s := hts _ nO_l
  have hST := st_start hts hgv
  obtain ⟨G, cs, hKT⟩ := kt_start hts
  have hS : va_S (fun q : Nat => s.heap.size ≤ q) s.heap s.heap [] := va_S.rf
  have hP : va_P G vwCl [] s.heap := fun k q h => by simp at h
  have hD : va_D (fun q : Nat => s.heap.size ≤ q) [] := ⟨fun i j p q h => by simp at h, fun k q h => by simp at h⟩
  have hl := lv_entry ([.ref b]) (n := 4) (Nat.le_of_ble_eq_true rfl)
  rw [lg_entry_eq]
  generalize (lg_sl ([.ref b]) ++ List.replicate (4 - (lg_sl ([.ref b])).length) Slot.unset).toArray = ls at hl ⊢
  have hl : lv_has ls 4 [(0, .ref b)] := hl
  refine va_new (ci := 8) (fs := [.null, .null, .null, .null, .null, .null, .null, .int 0, .int 0, .int 0, .null, .null, .null, .null]) (C := RX8) (T := TX8) (N := 14) hx hb hg inX8 tyX8 tyX8_ok hown (hg _ gL_L_7) (hg _ gT_X8) (hg _ gN_X8) hKT hP hD hS hA rfl (fun j hj => by rcases (show j = 0 ∨ j = 1 ∨ j = 2 ∨ j = 3 ∨ j = 4 ∨ j = 5 ∨ j = 6 ∨ j = 7 ∨ j = 8 ∨ j = 9 ∨ j = 10 ∨ j = 11 ∨ j = 12 ∨ j = 13 by omega) with rfl | rfl | rfl | rfl | rfl | rfl | rfl | rfl | rfl | rfl | rfl | rfl | rfl | rfl <;> rfl) (Nat.le_of_ble_eq_true rfl) (Nat.le_of_ble_eq_true rfl) dL_law_0 (fun q0 H hP hD hS => ?_)
  have hP : va_P G vwCl [(q0, .inr (8, [.null, .null, .null, .null, .null, .null, .null, .int 0, .int 0, .int 0, .null, .null, .null, .null]))] H := hP
  have hD : va_D (fun q : Nat => s.heap.size ≤ q) [(q0, .inr (8, [.null, .null, .null, .null, .null, .null, .null, .int 0, .int 0, .int 0, .null, .null, .null, .null]))] := hD
  refine W.widen (k := 1) (n := 14) (Nat.le_of_ble_eq_true rfl) (Nat.le_of_ble_eq_true rfl) ?_
  refine lv_dup hx hb dL_law_3 rfl ?_
  refine kn_v (WC := [(q0, .inr (8, [.null, .null, .null, .null, .null, .null, .null, .int 0, .int 0, .int 0, .null, .null, .null, .null]))]) (W1 := wn_X8_init cs q0) (W2 := wn_X8_init cs q0) (rl_I (As := []) (rest := [.ref q0]) ⟨hx, hb, hml, hown, hg⟩ (k_X8_init l G cs q0 H.size) gM_L_9 mN_X8_init (rmn rfl) ⟨PcG_blind, fun U hU hWm => ⟨rfl, by rw [hU], by rw [hU]; exact hP.subM [0] rfl, (hD.sub [0] rfl rfl).weaken (fun _ _ _ _ => trivial), va_K.moved hWm.alike hKT, NW.warm hWm hN, va_AOA.warm hWm hO⟩⟩ rfl hl.1 rfl (Nat.le_of_ble_eq_true rfl) dL_law_4) hP hD hS hA [0] [] [0, 1, 2, 3, 4, 5, 6, 7, 8, 9, 10, 11, 12, 13, 14, 15, 16, 17, 18, 19, 20, 21, 22, 23, 24, 25, 26, 27, 28, 29, 30, 31, 32, 33, 34, 35, 36, 37, 38, 39, 40, 41, 42, 43, 44, 45, 46, 47, 48, 49, 50, 51, 52, 53, 54, 55, 56, 57, 58, 59] rfl (fun _ => ⟨rfl, rfl, rfl, rfl, rfl, rfl, rfl⟩) (fun u H locs hP hD hS => ?_)
  refine W.widen (k := 60) (n := 6803) (Nat.le_of_ble_eq_true rfl) (Nat.le_of_ble_eq_true rfl) ?_
  refine lv_astore_n (lv' := [(1, .ref q0), (0, .ref b)]) hx hb dL_law_7 rfl hl (by decide) rfl (fun ls hl => ?_)
  refine va_new (ci := 9) (fs := [.long 0, .null, .int 0, .null, .null, .null, .null, .null, .null, .null, .int 0, .int 0, .int 0, .int 0, .int 0, .int 0, .null, .null, .int 0, .int 0, .int 0, .int 0, .null, .null, .null, .int 0]) (C := RX9) (T := TX9) (N := 26) hx hb hg inX9 tyX9 tyX9_ok hown (hg _ gL_L_10) (hg _ gT_X9) (hg _ gN_X9) hKT hP hD hS hA rfl (fun j hj => by rcases (show j = 0 ∨ j = 1 ∨ j = 2 ∨ j = 3 ∨ j = 4 ∨ j = 5 ∨ j = 6 ∨ j = 7 ∨ j = 8 ∨ j = 9 ∨ j = 10 ∨ j = 11 ∨ j = 12 ∨ j = 13 ∨ j = 14 ∨ j = 15 ∨ j = 16 ∨ j = 17 ∨ j = 18 ∨ j = 19 ∨ j = 20 ∨ j = 21 ∨ j = 22 ∨ j = 23 ∨ j = 24 ∨ j = 25 by omega) with rfl | rfl | rfl | rfl | rfl | rfl | rfl | rfl | rfl | rfl | rfl | rfl | rfl | rfl | rfl | rfl | rfl | rfl | rfl | rfl | rfl | rfl | rfl | rfl | rfl | rfl <;> rfl) (Nat.le_of_ble_eq_true rfl) (Nat.le_of_ble_eq_true rfl) dL_law_8 (fun q1 H hP hD hS => ?_)
  refine W.widen (k := 61) (n := 6829) (Nat.le_of_ble_eq_true rfl) (Nat.le_of_ble_eq_true rfl) ?_
  refine lv_dup hx hb dL_law_11 rfl ?_
  obtain ⟨op', li', sc', tu', be', ne', now', ik', k0, k1, k2, k3, k4⟩ := init_ok2
  have hF := va_free (wc := [(q1, .inr (9, [.long 0, .null, .int 0, .null, .null, .null, .null, .null, .null, .null, .int 0, .int 0, .int 0, .int 0, .int 0, .int 0, .null, .null, .int 0, .int 0, .int 0, .int 0, .null, .null, .null, .int 0]))]) hD hS hA [60] rfl
  refine va_callv (rl_I (As := []) (rest := [.ref q1]) ⟨hx, hb, hml, hown, hg⟩ (k_X9_init l G cs q1 H.size ((0 : Int32), upd (fun _ => (0 : Int32)) 1 5, upd (fun _ => (0 : Int32)) 1 0, upd (fun _ => (0 : Int32)) 1 0, upd (fun _ => (0 : Int32)) 1 1) rfl (nI 0, nI 0, op', li', sc', tu', be', ne', now', ik') k0) gM_L_12 mN_X9_init (rmn rfl) ⟨PcW_blind, fun U hU hWm => ⟨rfl, by rw [hU], by rw [hU]; exact hP.subM [60] rfl, (hD.sub [60] rfl rfl).weaken (fun _ _ _ _ => trivial), va_K.moved hWm.alike hKT, NW.warm hWm hN⟩⟩ rfl hl.1 rfl (Nat.le_of_ble_eq_true rfl) dL_law_12) hS (fun q _ h => hF q h) hF (fun v t H1 locs1 ht hvm hw hB hz1 hk1 hS => ?_)
  obtain ⟨hP1, hD1⟩ := hB
  rw [ht] at hP1
  obtain ⟨jP, jD⟩ := va_join (wr := wn_X8_init cs q0 u) (w1 := wn_X9_init cs q1 ((0 : Int32), upd (fun _ => (0 : Int32)) 1 5, upd (fun _ => (0 : Int32)) 1 0, upd (fun _ => (0 : Int32)) 1 0, upd (fun _ => (0 : Int32)) 1 1) (nI 0, nI 0, op', li', sc', tu', be', ne', now', ik') v) hP hD [60] [0, 1, 2, 3, 4, 5, 6, 7, 8, 9, 10, 11, 12, 13, 14, 15, 16, 17, 18, 19, 20, 21, 22, 23, 24, 25, 26, 27, 28, 29, 30, 31, 32, 33, 34, 35, 36, 37, 38, 39, 40, 41, 42, 43, 44, 45, 46, 47, 48, 49, 50, 51, 52, 53, 54, 55, 56, 57, 58, 59] rfl rfl rfl (by decide) hk1 hF hP1 hD1
  refine W.widen (k := 74) (n := 7924) (Nat.le_of_ble_eq_true rfl) (Nat.le_of_ble_eq_true rfl) ?_
  refine lv_astore_n (lv' := [(2, .ref q1), (1, .ref q0), (0, .ref b)]) hx hb dL_law_15 rfl hl (by decide) rfl (fun ls hl => ?_)
  refine lv_iconst (v := 0) hx hb dL_law_16 (by decide) ?_
  refine lv_istore_n (lv' := [(3, .int 0), (2, .ref q1), (1, .ref q0), (0, .ref b)]) hx hb dL_law_17 rfl hl (by decide) rfl (fun ls hl => ?_)
  have hI : INV G cs (fun q : Nat => s.heap.size ≤ q) s.heap (q0) (u.2.2.2.2.2.2.1) (u.2.2.2.2.2.2.2.2.1) (u.2.2.2.2.2.2.2.2.2.2.1) (u.2.2.2.2.2.2.2.2.2.2.2.2.2.1) (u.2.2.2.2.2.2.2.2.2.2.2.2.2.2.2.2.1) (u.2.2.2.2.2.2.2.2.2.2.2.2.2.2.2.2.2.2.2.1) (u.2.2.2.2.2.2.2.2.2.2.2.2.2.2.2.2.2.2.2.2.1) (u.2.2.2.2.2.2.2.2.2.2.2.2.2.2.2.2.2.2.2.2.2.2.2.2.2.1) (u.2.2.2.2.2.2.2.2.2.2.2.2.2.2.2.2.2.2.2.2.2.2.2.2.2.2.2.2) (u.2.2.2.2.2.2.2.1) (u.2.2.2.2.2.2.2.2.2.1) (u.2.2.2.2.2.2.2.2.2.2.2.1) (u.2.2.2.2.2.2.2.2.2.2.2.2.2.2.1) (u.2.2.2.2.2.2.2.2.2.2.2.2.2.2.2.2.2.1) (u.2.2.2.2.2.2.2.2.2.2.2.2.2.2.2.2.2.2.2.2.2.1) (u.2.2.2.2.2.2.2.2.2.2.2.2.2.2.2.2.2.2.2.2.2.2.1) (u.2.2.2.2.2.2.2.2.2.2.2.2.2.2.2.2.2.2.2.2.2.2.2.1) (u.2.2.2.2.2.2.2.2.2.2.2.2.2.2.2.2.2.2.2.2.2.2.2.2.1) (u.2.2.2.2.2.2.2.2.2.2.2.2.2.2.2.2.2.2.2.2.2.2.2.2.2.2.1) (u.2.2.2.2.2.2.2.2.2.2.2.2.2.2.2.2.2.2.2.2.2.2.2.2.2.2.2.1) (q1) (v.1) (v.2.1) (v.2.2.1) (v.2.2.2.1) (v.2.2.2.2.1) (v.2.2.2.2.2.1) (v.2.2.2.2.2.2.1) (v.2.2.2.2.2.2.2.1) (v.2.2.2.2.2.2.2.2.1) (v.2.2.2.2.2.2.2.2.2.1) (v.2.2.2.2.2.2.2.2.2.2.1) (v.2.2.2.2.2.2.2.2.2.2.2.1) (v.2.2.2.2.2.2.2.2.2.2.2.2) (u.2.2.2.2.2.2.2.2.2.2.2.2.1) (u.2.2.2.2.2.2.2.2.2.2.2.2.2.2.2.1) (u.2.2.2.2.2.2.2.2.2.2.2.2.2.2.2.2.2.2.1) H1 locs1 := fun Z hz => hz (u.1) (u.2.1) (u.2.2.1) (u.2.2.2.1) (u.2.2.2.2.1) (u.2.2.2.2.2.1) (5) (0) (0) (1) (0) (0) (0) (0) ((fun _ => 0)) ((fun _ => 0)) ((fun _ => 0)) ((fun _ => 0)) ((fun _ => 0)) (0) (0) (0) (5) (0) (1) (0) (0) (1) (0) (0) (0) (0) (0) (0) (0) (0) (0) (0) (0) (0) (0) (0) (0) (0) (0) (0) (0) (0) (0) (0) (0) (0) (0) (0) (0) ((fun _ => 0)) ((fun _ => 0)) ((fun _ => 0)) ((fun _ => 0)) ((fun _ => 0)) ((fun _ => 0)) ((fun _ => 0)) ((fun _ => 0)) ((fun _ => 0)) ((fun _ => 0)) ((fun _ => 0)) ((fun _ => 0)) ((fun _ => 0)) (op') (li') ((fun _ => 0)) (sc') (tu') (be') (ne') (now') (ik') ((fun _ => 0)) ((fun _ => 0)) ((fun _ => 0)) ((fun _ _ => 0)) ((fun _ _ => 0)) ((fun _ _ => 0)) (0) jP jD hS ⟨⟨k1.1, fun s hs => absurd hs (Nat.not_lt_zero s)⟩, k1, ⟨Nat.zero_le _, fun i hi => absurd hi (Nat.not_lt_zero i)⟩, ⟨Nat.zero_le _, fun i hi => absurd hi (Nat.not_lt_zero i)⟩, (fun s hs => absurd hs (Nat.not_lt_zero s)), k2, (by decide), k3, k4, (Or.inl rfl), (Or.inl rfl), ⟨Nat.zero_le _, fun i hi => absurd hi (Nat.not_lt_zero i)⟩, ⟨Nat.zero_le _, fun i hi => absurd hi (Nat.not_lt_zero i)⟩⟩
  exact law_loop hL hr hlocks ⟨hx, hb, hml, hown, hg, hX, hbl, hKT, hN, hST⟩ (L + 1) 0 (Nat.zero_le L) (by omega) H1 locs1 hI ls (lv_sub hl [3, 2, 1, 0] rfl)
