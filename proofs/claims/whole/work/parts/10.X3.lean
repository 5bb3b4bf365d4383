theorem inX3 : ∀ w ∈ u_ws RX3 TX3 6, w ∈ GW := by
  intro w h
  obtain ⟨k, hk, rfl⟩ := List.mem_map.mp h
  have hk := List.mem_range.mp hk
  rcases (show k = 0 ∨ k = 1 ∨ k = 2 ∨ k = 3 ∨ k = 4 ∨ k = 5 by omega) with rfl | rfl | rfl | rfl | rfl | rfl
  · exact gY_X3_unlike
  · exact gY_X3_turn
  · exact gY_X3_bent
  · exact gY_X3_times
  · exact gY_X3_copies
  · exact gY_X3_traced
def wd_X3_isKind (cs : Nat → ClassId) : va_W := []
def rm_X3_isKind : Room := { frames := 0, cells := 0, slots := 0, locals := 0 }
theorem mS_X3_isKind : MS yX3_isKind cX3_isKind 1 (some .boolean) 1 := ⟨gS_X3_isKind, gN_X3, gC_X3_isKind, by decide +kernel⟩
set_option maxHeartbeats 4000000 in
set_option maxRecDepth 100000 in
theorem k_X3_isKind (l : Launch) (G : va_G) (cs : Nat → ClassId) (p0 : Int32) (R0 : Int32) (hB : f_X3_isKind p0 = some R0) : Met l yX3_isKind (.code yX3_isKind cX3_isKind 1 (some .boolean) :: GW) rm_X3_isKind (PcR G cs [.int p0] (wd_X3_isKind cs )) (vp_Si (fun r => r = R0)) 0 0 (fun _ => False) := by
  refine Met.ofW (cc := cX3_isKind) (maxL := 1) (ret := (some .boolean)) (by decide) rfl ?_
  intro p e s m args below meth c s₁ B hml hv
  obtain ⟨rfl, hP, hK, hN⟩ := hv
  have hx := B.exec
  have hb := B.bytes
  have hr := B.returns
  have hts := atoms_spec (ws := .code yX3_isKind cX3_isKind 1 (some .boolean) :: GW) B.pre
  have hg : ∀ w ∈ GW, w.before _ s = true := fun w h => hts w (List.mem_cons_of_mem _ h)
  have hown : s.vm.findClass RX3 = some m.cls := findClass_of_methodNamed B.named
  have hlocks := B.notSynchronized
  have hl := lv_entry ([.int p0]) (n := 1) (Nat.le_of_ble_eq_true rfl)
  rw [lg_entry_eq]
  generalize (lg_sl ([.int p0]) ++ List.replicate (1 - (lg_sl ([.int p0])).length) Slot.unset).toArray = ls at hl ⊢
  have hl : lv_has ls 1 [(0, .int p0)] := hl
  obtain ⟨y, hB, hK0⟩ : ∃ y, f_X3_isKind p0 = some y ∧ KEnd R0 y := ⟨R0, hB, rfl⟩
  have hKT := hK
  have hK := hK0
  show W p l e rm_X3_isKind s m ([.int p0] : List Value).toArray below meth c s.heap [] 0 0 (MQ below (vp_Si (fun r => r = R0)) ([.int p0] : List Value).toArray s 0 0 (fun _ => False)) (F0 m 0 ls [])
  refine lv_iload_n hx hb dX3_isKind_0 rfl (lv_at hl 0 rfl) ?_
  refine lv_if_lt (tgt := 14) hx hb dX3_isKind_1 (by decide) (fun c_1 => ?_) (fun c_1 => ?_)
  · have hB := ifP c_1 hB
    refine lv_iconst (v := 0) hx hb dX3_isKind_14 (by decide) ?_
    have hK := leafK hB hK
    have hK : (0 : Int32) = R0 := hK
    subst hK
    exact W.zret (v := (0 : Int32)) (ty := .boolean) hx hb hr rfl (fun t ht hW => ⟨_, rfl, rfl, ht⟩) (fun _ h => by cases h) dX3_isKind_15
  · have hB := ifN c_1 hB
    refine lv_iload_n hx hb dX3_isKind_4 rfl (lv_at hl 0 rfl) ?_
    refine lv_bipush (v := 6) hx hb dX3_isKind_5 (by decide) ?_
    refine lv_icmp_ge (tgt := 14) hx hb dX3_isKind_7 (by decide) (fun c_2 => ?_) (fun c_2 => ?_)
    · have hB := ifP c_2 hB
      refine lv_iconst (v := 0) hx hb dX3_isKind_14 (by decide) ?_
      have hK := leafK hB hK
      have hK : (0 : Int32) = R0 := hK
      subst hK
      exact W.zret (v := (0 : Int32)) (ty := .boolean) hx hb hr rfl (fun t ht hW => ⟨_, rfl, rfl, ht⟩) (fun _ h => by cases h) dX3_isKind_15
    · have hB := ifN c_2 hB
      refine lv_iconst (v := 1) hx hb dX3_isKind_10 (by decide) ?_
      refine lv_goto (tgt := 15) hx hb dX3_isKind_11 (by decide) ?_
      have hK := leafK hB hK
      have hK : (1 : Int32) = R0 := hK
      subst hK
      exact W.zret (v := (1 : Int32)) (ty := .boolean) hx hb hr rfl (fun t ht hW => ⟨_, rfl, rfl, ht⟩) (fun _ h => by cases h) dX3_isKind_15
def wd_X3_ask (cs : Nat → ClassId) (a_t : Nat) (v_t_unlike : Int32) (v_t_turn : Int32) (v_t_bent : Int32) (v_t_times : Int32) (v_t_copies : Int32) (v_t_traced : Int64) : va_W := [(a_t, .inr (3, [.int v_t_unlike, .int v_t_turn, .int v_t_bent, .int v_t_times, .int v_t_copies, .long v_t_traced]))]
theorem mI_X3_ask : MI yX3_ask RX3 cX3_ask 4 (some .int) 2 := ⟨gI_X3_ask, gE_X3_ask, gN_X3, gC_X3_ask, by decide +kernel⟩
set_option maxHeartbeats 4000000 in
set_option maxRecDepth 100000 in
theorem k_X3_ask (l : Launch) (G : va_G) (cs : Nat → ClassId) : ∀ (n : Nat) (a_t : Nat) (v_t_unlike : Int32) (v_t_turn : Int32) (v_t_bent : Int32) (v_t_times : Int32) (v_t_copies : Int32) (v_t_traced : Int64) (p1 p2 : Int32) (sz : Nat) (R0 : Int32 × Int64), f_X3_ask n v_t_unlike v_t_turn v_t_bent v_t_times v_t_copies v_t_traced p1 p2 = some R0 → Met l yX3_ask (.code yX3_ask cX3_ask 4 (some .int) :: GW) (rm_X3_ask n) (PcS G cs [.ref a_t, .int p1, .int p2] (wd_X3_ask cs a_t v_t_unlike v_t_turn v_t_bent v_t_times v_t_copies v_t_traced) sz) (QcI G (va_A (wd_X3_ask cs a_t v_t_unlike v_t_turn v_t_bent v_t_times v_t_copies v_t_traced) sz) (wd_X3_ask cs a_t v_t_unlike v_t_turn v_t_bent v_t_times v_t_copies R0.2) R0.1) 0 0 (va_A (wd_X3_ask cs a_t v_t_unlike v_t_turn v_t_bent v_t_times v_t_copies v_t_traced) sz) := by
  intro n
  induction n with
  | zero => intros; rename_i h; cases h
  | succ n ih =>
  intro a_t v_t_unlike v_t_turn v_t_bent v_t_times v_t_copies v_t_traced p1 p2 sz R0 hB
  refine Met.ofW (cc := cX3_ask) (maxL := 4) (ret := (some .int)) (by decide) rfl ?_
  intro p e s m args below meth c s₁ B hml hv
  obtain ⟨rfl, hsz, hP, hD0, hK, hN, hST⟩ := hv
  have hx := B.exec
  have hb := B.bytes
  have hr := B.returns
  have hts := atoms_spec (ws := .code yX3_ask cX3_ask 4 (some .int) :: GW) B.pre
  have hg : ∀ w ∈ GW, w.before _ s = true := fun w h => hts w (List.mem_cons_of_mem _ h)
  have hown : s.vm.findClass RX3 = some m.cls := findClass_of_methodNamed B.named
  have hlocks := B.notSynchronized
  subst hsz
  have hD := hD0.self (sz := s.heap.size)
  generalize hAe : va_A (wd_X3_ask cs a_t v_t_unlike v_t_turn v_t_bent v_t_times v_t_copies v_t_traced) s.heap.size = A at hD hST ⊢
  have hA : ∀ q : Nat, s.heap.size ≤ q → A q := fun q h => by rw [← hAe]; exact Or.inr h
  have hS : va_S A s.heap s.heap [] := va_S.rf
  have hl := lv_entry ([.ref a_t, .int p1, .int p2]) (n := 4) (Nat.le_of_ble_eq_true rfl)
  rw [lg_entry_eq]
  generalize (lg_sl ([.ref a_t, .int p1, .int p2]) ++ List.replicate (4 - (lg_sl ([.ref a_t, .int p1, .int p2])).length) Slot.unset).toArray = ls at hl ⊢
  have hl : lv_has ls 4 [(0, .ref a_t), (1, .int p1), (2, .int p2)] := hl
  obtain ⟨y, hB, hK0⟩ : ∃ y, f_X3_ask (n + 1) v_t_unlike v_t_turn v_t_bent v_t_times v_t_copies v_t_traced p1 p2 = some y ∧ KEnd R0 y := ⟨R0, hB, rfl⟩
  have hKT := hK
  obtain ⟨tA, tT, hZ_ABOVE, hT_ABOVE, hZ_TRACED, hT_TRACED⟩ := id hST
  have rmN : RmOk (rm_X3_ask (n + 1)) (rm_X3_ask n) 4 0 0 := ⟨rfl, rfl, Nat.le_refl _, by show 8 + (4 + 11) + (23 * n + 23) ≤ 23 * (n + 1) + 23; omega, Nat.zero_le _, Nat.zero_le _⟩
  have rmN0 : RmOk (rm_X3_ask (n + 1)) rm_X3_isKind 1 0 0 := ⟨rfl, rfl, by show 0 + 1 ≤ n + 1 + 1; omega, by show 8 + (1 + 11) + 0 ≤ 23 * (n + 1) + 23; omega, Nat.zero_le _, Nat.zero_le _⟩
  have hK := hK0
  obtain ⟨H, hHe⟩ : ∃ H, H = s.heap := ⟨_, rfl⟩
  obtain ⟨locs, hLe⟩ : ∃ L : List Loc, L = [] := ⟨_, rfl⟩
  rw [← hHe] at hP
  have hS : va_S A s.heap H locs := by rw [hHe, hLe]; exact hS
  show W p l e (rm_X3_ask (n + 1)) s m ([.ref a_t, .int p1, .int p2] : List Value).toArray below meth c s.heap [] 0 0 _ _
  suffices hgo : W p l e (rm_X3_ask (n + 1)) s m ([.ref a_t, .int p1, .int p2] : List Value).toArray below meth c H locs 0 0 (MQ below (QcI G A (wd_X3_ask cs a_t v_t_unlike v_t_turn v_t_bent v_t_times v_t_copies R0.2) R0.1) ([.ref a_t, .int p1, .int p2] : List Value).toArray s 0 0 A) (F0 m 0 ls []) by rw [hHe, hLe] at hgo; exact hgo
  refine lv_iload_n hx hb dX3_ask_0 rfl (lv_at hl 1 rfl) ?_
  obtain ⟨q1, hq1, hB⟩ := bnd hB
  refine kr_S (WC := wd_X3_isKind cs ) (As := [.int p1]) (rest := []) (r0 := q1) ⟨hx, hb, hml, hown, hg⟩ (k_X3_isKind l G cs p1 q1 hq1) gM_X3_9 mS_X3_isKind (rmN0) hP hKT hN [] rfl rfl hl.1 rfl (Nat.le_of_ble_eq_true rfl) dX3_ask_1 ?_
  refine lv_if_eq (tgt := 13) hx hb dX3_ask_4 (by decide) (fun c_2 => ?_) (fun c_2 => ?_)
  · have hB := ifP c_2 hB
    refine lv_iconst (v := 0) hx hb dX3_ask_13 (by decide) ?_
    have hK := leafK hB hK
    have hK : ((0 : Int32), v_t_traced) = R0 := hK
    subst hK
    exact W.iret (v := (0 : Int32)) hx hb hr (fun t ht hW => ⟨⟨_, (), rfl, rfl, by rw [ht]; exact hP, hD⟩, hS.F ht⟩) hS.2.2 dX3_ask_14
  · have hB := ifN c_2 hB
    refine lv_iload_n hx hb dX3_ask_7 rfl (lv_at hl 2 rfl) ?_
    refine lv_bipush (v := 6) hx hb dX3_ask_8 (by decide) ?_
    refine lv_icmp_lt (tgt := 15) hx hb dX3_ask_10 (by decide) (fun c_3 => ?_) (fun c_3 => ?_)
    · have hB := ifP c_3 hB
      refine lv_aload_n hx hb dX3_ask_15 rfl (lv_at hl 0 rfl) ?_
      refine lv_dup hx hb dX3_ask_16 rfl ?_
      refine va_get (D := G) (ci := 3) (v := .long v_t_traced) (C := RX3) (T := TX3) (N := 6) hx hb hg inX3 hown hKT hP 0 rfl rfl 5 (by decide) (hg _ gF_X3_13) (fun _ h9 => h9) rfl dX3_ask_17 ?_
      refine va_gets hx hb hZ_TRACED hS hown (hg _ gF_X3_17) (fun _ h9 => h9) dX3_ask_20 ?_
      refine lv_iload_n hx hb dX3_ask_23 rfl (lv_at hl 1 rfl) ?_
      obtain ⟨h_4, hB⟩ := ifS hB
      refine va_ti hx hb hT_TRACED hS h_4 rfl dX3_ask_24 ?_
      refine lv_i2l hx hb dX3_ask_25 rfl ?_
      refine lv_ladd hx hb dX3_ask_26 ?_
      refine va_put (D := G) (ci := 3) (v := .long (v_t_traced + ((tTr p1.toNatClampNeg).toInt64))) (ty := .long) (C := RX3) (T := TX3) (N := 6) hx hb hg inX3 tyX3 tyX3_ok nmX3 hown hKT hP hD hS 0 rfl rfl 5 (by decide) (hg _ gF_X3_13) (fun _ h9 => h9) rfl (by decide +kernel) rfl rfl (Nat.le_of_ble_eq_true rfl) dX3_ask_27 (fun H locs hP hD hS => ?_)
      have hP : va_P G vwCl (wd_X3_ask cs a_t v_t_unlike v_t_turn v_t_bent v_t_times v_t_copies (v_t_traced + ((tTr p1.toNatClampNeg).toInt64))) H := hP
      have hD : va_D A (wd_X3_ask cs a_t v_t_unlike v_t_turn v_t_bent v_t_times v_t_copies (v_t_traced + ((tTr p1.toNatClampNeg).toInt64))) := hD
      refine lv_aload_n hx hb dX3_ask_30 rfl (lv_at hl 0 rfl) ?_
      refine va_gets hx hb hZ_ABOVE hS hown (hg _ gF_X3_21) (fun _ h9 => h9) dX3_ask_31 ?_
      refine lv_iload_n hx hb dX3_ask_34 rfl (lv_at hl 1 rfl) ?_
      obtain ⟨h_5, hB⟩ := ifS hB
      refine va_ti hx hb hT_ABOVE hS h_5 rfl dX3_ask_35 ?_
      refine lv_iload_n hx hb dX3_ask_36 rfl (lv_at hl 2 rfl) ?_
      refine lv_iconst (v := 1) hx hb dX3_ask_37 (by decide) ?_
      refine lv_iadd hx hb dX3_ask_38 ?_
      obtain ⟨⟨q6_0, q6_1⟩, hq6, hB⟩ := bnd hB
      refine kw_i (WC := wd_X3_ask cs a_t v_t_unlike v_t_turn v_t_bent v_t_times v_t_copies (v_t_traced + ((tTr p1.toNatClampNeg).toInt64))) (W1 := wd_X3_ask cs a_t v_t_unlike v_t_turn v_t_bent v_t_times v_t_copies q6_1) (W2 := wd_X3_ask cs a_t v_t_unlike v_t_turn v_t_bent v_t_times v_t_copies q6_1) (r0 := q6_0) (rs_V (As := [.int (tAb p1.toNatClampNeg), .int (p2 + (1 : Int32))]) (rest := []) ⟨hx, hb, hml, hown, hg⟩ (ih a_t v_t_unlike v_t_turn v_t_bent v_t_times v_t_copies (v_t_traced + ((tTr p1.toNatClampNeg).toInt64)) (tAb p1.toNatClampNeg) (p2 + (1 : Int32)) H.size (q6_0, q6_1) hq6) gM_X3_24 mI_X3_ask (rmN) hP hD hS hA hST hKT hN 0 rfl rfl [0] rfl rfl rfl hl.1 rfl (Nat.le_of_ble_eq_true rfl) dX3_ask_39) hP hD hS hA [0] [] [0] ⟨rfl, rfl, rfl, rfl, rfl, rfl, rfl⟩ (fun H locs hP hD hS => ?_)
      refine lv_istore_n (lv' := [(3, .int q6_0), (0, .ref a_t), (1, .int p1), (2, .int p2)]) hx hb dX3_ask_42 rfl hl (by decide) rfl (fun ls hl => ?_)
      refine lv_iload_n hx hb dX3_ask_43 rfl (lv_at hl 2 rfl) ?_
      by_cases c_7_0 : p1 = 0
      · have hB := ifP c_7_0 hB
        refine lv_tableIn (off := 36) (tgt := 80) hx hb dX3_ask_44 (by rw [c_7_0]; decide) (by rw [c_7_0]; decide) (by rw [c_7_0]; decide) (by decide) ?_
        refine lv_aload_n hx hb dX3_ask_80 rfl (lv_at hl 1 rfl) ?_
        refine va_get (D := G) (ci := 3) (v := .int v_t_unlike) (C := RX3) (T := TX3) (N := 6) hx hb hg inX3 hown hKT hP 0 rfl rfl 0 (by decide) (hg _ gF_X3_28) (fun _ h9 => h9) rfl dX3_ask_81 ?_
        have hK := leafK hB hK
        have hK : (v_t_unlike, q6_1) = R0 := hK
        subst hK
        exact W.iret (v := v_t_unlike) hx hb hr (fun t ht hW => ⟨⟨_, (), rfl, rfl, by rw [ht]; exact hP, hD⟩, hS.F ht⟩) hS.2.2 dX3_ask_84
      have hB := ifN c_7_0 hB
      by_cases c_7_1 : p1 = 1
      · have hB := ifP c_7_1 hB
        refine lv_tableIn (off := 41) (tgt := 85) hx hb dX3_ask_44 (by rw [c_7_1]; decide) (by rw [c_7_1]; decide) (by rw [c_7_1]; decide) (by decide) ?_
        refine lv_iload_n hx hb dX3_ask_85 rfl (lv_at hl 0 rfl) ?_
        refine lv_aload_n hx hb dX3_ask_86 rfl (lv_at hl 1 rfl) ?_
        refine va_get (D := G) (ci := 3) (v := .int v_t_turn) (C := RX3) (T := TX3) (N := 6) hx hb hg inX3 hown hKT hP 0 rfl rfl 1 (by decide) (hg _ gF_X3_32) (fun _ h9 => h9) rfl dX3_ask_87 ?_
        refine lv_iadd hx hb dX3_ask_90 ?_
        have hK := leafK hB hK
        have hK : (q6_0 + v_t_turn, q6_1) = R0 := hK
        subst hK
        exact W.iret (v := q6_0 + v_t_turn) hx hb hr (fun t ht hW => ⟨⟨_, (), rfl, rfl, by rw [ht]; exact hP, hD⟩, hS.F ht⟩) hS.2.2 dX3_ask_91
      have hB := ifN c_7_1 hB
      by_cases c_7_2 : p1 = 2
      · have hB := ifP c_7_2 hB
        refine lv_tableIn (off := 48) (tgt := 92) hx hb dX3_ask_44 (by rw [c_7_2]; decide) (by rw [c_7_2]; decide) (by rw [c_7_2]; decide) (by decide) ?_
        refine lv_iload_n hx hb dX3_ask_92 rfl (lv_at hl 0 rfl) ?_
        refine lv_aload_n hx hb dX3_ask_93 rfl (lv_at hl 1 rfl) ?_
        refine va_get (D := G) (ci := 3) (v := .int v_t_times) (C := RX3) (T := TX3) (N := 6) hx hb hg inX3 hown hKT hP 0 rfl rfl 3 (by decide) (hg _ gF_X3_35) (fun _ h9 => h9) rfl dX3_ask_94 ?_
        refine lv_isub hx hb dX3_ask_97 ?_
        have hK := leafK hB hK
        have hK : (q6_0 - v_t_times, q6_1) = R0 := hK
        subst hK
        exact W.iret (v := q6_0 - v_t_times) hx hb hr (fun t ht hW => ⟨⟨_, (), rfl, rfl, by rw [ht]; exact hP, hD⟩, hS.F ht⟩) hS.2.2 dX3_ask_98
      have hB := ifN c_7_2 hB
      by_cases c_7_3 : p1 = 3
      · have hB := ifP c_7_3 hB
        refine lv_tableIn (off := 55) (tgt := 99) hx hb dX3_ask_44 (by rw [c_7_3]; decide) (by rw [c_7_3]; decide) (by rw [c_7_3]; decide) (by decide) ?_
        refine lv_iload_n hx hb dX3_ask_99 rfl (lv_at hl 0 rfl) ?_
        refine lv_iconst (v := 2) hx hb dX3_ask_100 (by decide) ?_
        refine lv_imul hx hb dX3_ask_101 ?_
        have hK := leafK hB hK
        have hK : (q6_0 * (2 : Int32), q6_1) = R0 := hK
        subst hK
        exact W.iret (v := q6_0 * (2 : Int32)) hx hb hr (fun t ht hW => ⟨⟨_, (), rfl, rfl, by rw [ht]; exact hP, hD⟩, hS.F ht⟩) hS.2.2 dX3_ask_102
      have hB := ifN c_7_3 hB
      by_cases c_7_4 : p1 = 4
      · have hB := ifP c_7_4 hB
        refine lv_tableIn (off := 59) (tgt := 103) hx hb dX3_ask_44 (by rw [c_7_4]; decide) (by rw [c_7_4]; decide) (by rw [c_7_4]; decide) (by decide) ?_
        refine lv_iload_n hx hb dX3_ask_103 rfl (lv_at hl 0 rfl) ?_
        refine lv_aload_n hx hb dX3_ask_104 rfl (lv_at hl 1 rfl) ?_
        refine va_get (D := G) (ci := 3) (v := .int v_t_bent) (C := RX3) (T := TX3) (N := 6) hx hb hg inX3 hown hKT hP 0 rfl rfl 2 (by decide) (hg _ gF_X3_38) (fun _ h9 => h9) rfl dX3_ask_105 ?_
        refine lv_iadd hx hb dX3_ask_108 ?_
        have hK := leafK hB hK
        have hK : (q6_0 + v_t_bent, q6_1) = R0 := hK
        subst hK
        exact W.iret (v := q6_0 + v_t_bent) hx hb hr (fun t ht hW => ⟨⟨_, (), rfl, rfl, by rw [ht]; exact hP, hD⟩, hS.F ht⟩) hS.2.2 dX3_ask_109
      have hB := ifN c_7_4 hB
      have c_7_0t := lv_neT (a := 0) c_7_0 rfl
      have c_7_1t := lv_neT (a := 1) c_7_1 rfl
      have c_7_2t := lv_neT (a := 2) c_7_2 rfl
      have c_7_3t := lv_neT (a := 3) c_7_3 rfl
      have c_7_4t := lv_neT (a := 4) c_7_4 rfl
      refine lv_tableOut (tgt := 110) hx hb dX3_ask_44 (by omega) (by decide) ?_
      refine lv_iload_n hx hb dX3_ask_110 rfl (lv_at hl 0 rfl) ?_
      refine lv_aload_n hx hb dX3_ask_111 rfl (lv_at hl 1 rfl) ?_
      refine va_get (D := G) (ci := 3) (v := .int v_t_copies) (C := RX3) (T := TX3) (N := 6) hx hb hg inX3 hown hKT hP 0 rfl rfl 4 (by decide) (hg _ gF_X3_41) (fun _ h9 => h9) rfl dX3_ask_112 ?_
      refine lv_iadd hx hb dX3_ask_115 ?_
      have hK := leafK hB hK
      have hK : (q6_0 + v_t_copies, q6_1) = R0 := hK
      subst hK
      exact W.iret (v := q6_0 + v_t_copies) hx hb hr (fun t ht hW => ⟨⟨_, (), rfl, rfl, by rw [ht]; exact hP, hD⟩, hS.F ht⟩) hS.2.2 dX3_ask_116
    · have hB := ifN c_3 hB
      refine lv_iconst (v := 0) hx hb dX3_ask_13 (by decide) ?_
      have hK := leafK hB hK
      have hK : ((0 : Int32), v_t_traced) = R0 := hK
      subst hK
      exact W.iret (v := (0 : Int32)) hx hb hr (fun t ht hW => ⟨⟨_, (), rfl, rfl, by rw [ht]; exact hP, hD⟩, hS.F ht⟩) hS.2.2 dX3_ask_14
