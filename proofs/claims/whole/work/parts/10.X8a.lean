theorem inX8 : ∀ w ∈ u_ws RX8 TX8 14, w ∈ GW := by
  intro w h
  obtain ⟨k, hk, rfl⟩ := List.mem_map.mp h
  have hk := List.mem_range.mp hk
  rcases (show k = 0 ∨ k = 1 ∨ k = 2 ∨ k = 3 ∨ k = 4 ∨ k = 5 ∨ k = 6 ∨ k = 7 ∨ k = 8 ∨ k = 9 ∨ k = 10 ∨ k = 11 ∨ k = 12 ∨ k = 13 by omega) with rfl | rfl | rfl | rfl | rfl | rfl | rfl | rfl | rfl | rfl | rfl | rfl | rfl | rfl
  · exact gY_X8_house
  · exact gY_X8_draft
  · exact gY_X8_reader
  · exact gY_X8_laws
  · exact gY_X8_standing
  · exact gY_X8_imageZero
  · exact gY_X8_imageOne
  · exact gY_X8_keptZero
  · exact gY_X8_keptOne
  · exact gY_X8_target
  · exact gY_X8_rounds
  · exact gY_X8_ways
  · exact gY_X8_margins
  · exact gY_X8_marks
def wd_X8_type (cs : Nat → ClassId) (a_t a_t_house a_t_draft a_t_reader a_t_laws a_t_standing a_t_imageZero a_t_imageOne a_t_rounds a_t_ways a_t_margins a_t_marks a_t_reader_text : Nat) (v_t_keptZero : Int32) (v_t_keptOne : Int32) (v_t_target : Int32) (v_t_reader_length : Int32) (v_t_reader_next : Int32) (v_t_reader_place : Int32) (v_t_reader_sort : Int32) (v_t_reader_value : Int32) (v_t_reader_bookTold : Int32) (v_t_reader_needTold : Int32) (g_t_reader_text : Nat → Int32) : va_W := [(a_t, .inr (8, [.ref a_t_house, .ref a_t_draft, .ref a_t_reader, .ref a_t_laws, .ref a_t_standing, .ref a_t_imageZero, .ref a_t_imageOne, .int v_t_keptZero, .int v_t_keptOne, .int v_t_target, .ref a_t_rounds, .ref a_t_ways, .ref a_t_margins, .ref a_t_marks])), (a_t_reader, .inr (4, [.ref a_t_reader_text, .int v_t_reader_length, .int v_t_reader_next, .int v_t_reader_place, .int v_t_reader_sort, .int v_t_reader_value, .int v_t_reader_bookTold, .int v_t_reader_needTold])), (a_t_reader_text, .inl (cs 0, 120, .inl g_t_reader_text))]
def rm_X8_type : Room := { frames := 1, cells := 0, slots := 0, locals := 21 }
theorem mI_X8_type : MI yX8_type RX8 cX8_type 2 (some .int) 1 := ⟨gI_X8_type, gE_X8_type, gN_X8, gC_X8_type, by decide +kernel⟩
set_option maxHeartbeats 4000000 in
set_option maxRecDepth 100000 in
theorem k_X8_type (l : Launch) (G : va_G) (cs : Nat → ClassId) (a_t a_t_house a_t_draft a_t_reader a_t_laws a_t_standing a_t_imageZero a_t_imageOne a_t_rounds a_t_ways a_t_margins a_t_marks a_t_reader_text : Nat) (v_t_keptZero : Int32) (v_t_keptOne : Int32) (v_t_target : Int32) (v_t_reader_length : Int32) (v_t_reader_next : Int32) (v_t_reader_place : Int32) (v_t_reader_sort : Int32) (v_t_reader_value : Int32) (v_t_reader_bookTold : Int32) (v_t_reader_needTold : Int32) (g_t_reader_text : Nat → Int32) (p1 : Int32) (sz : Nat) (R0 : Int32 × Int32 × (Nat → Int32)) (hB : f_X8_type v_t_reader_length g_t_reader_text p1 = some R0) : Met l yX8_type (.code yX8_type cX8_type 2 (some .int) :: GW) rm_X8_type (PcW G cs [.ref a_t, .int p1] (wd_X8_type cs a_t a_t_house a_t_draft a_t_reader a_t_laws a_t_standing a_t_imageZero a_t_imageOne a_t_rounds a_t_ways a_t_margins a_t_marks a_t_reader_text v_t_keptZero v_t_keptOne v_t_target v_t_reader_length v_t_reader_next v_t_reader_place v_t_reader_sort v_t_reader_value v_t_reader_bookTold v_t_reader_needTold g_t_reader_text) sz) (QcI G (va_A (wd_X8_type cs a_t a_t_house a_t_draft a_t_reader a_t_laws a_t_standing a_t_imageZero a_t_imageOne a_t_rounds a_t_ways a_t_margins a_t_marks a_t_reader_text v_t_keptZero v_t_keptOne v_t_target v_t_reader_length v_t_reader_next v_t_reader_place v_t_reader_sort v_t_reader_value v_t_reader_bookTold v_t_reader_needTold g_t_reader_text) sz) (wd_X8_type cs a_t a_t_house a_t_draft a_t_reader a_t_laws a_t_standing a_t_imageZero a_t_imageOne a_t_rounds a_t_ways a_t_margins a_t_marks a_t_reader_text v_t_keptZero v_t_keptOne v_t_target R0.2.1 v_t_reader_next v_t_reader_place v_t_reader_sort v_t_reader_value v_t_reader_bookTold v_t_reader_needTold R0.2.2) R0.1) 0 0 (va_A (wd_X8_type cs a_t a_t_house a_t_draft a_t_reader a_t_laws a_t_standing a_t_imageZero a_t_imageOne a_t_rounds a_t_ways a_t_margins a_t_marks a_t_reader_text v_t_keptZero v_t_keptOne v_t_target v_t_reader_length v_t_reader_next v_t_reader_place v_t_reader_sort v_t_reader_value v_t_reader_bookTold v_t_reader_needTold g_t_reader_text) sz) := by
  refine Met.ofW (cc := cX8_type) (maxL := 2) (ret := (some .int)) (by decide) rfl ?_
  intro p e s m args below meth c s₁ B hml hv
  obtain ⟨rfl, hsz, hP, hD0, hK, hN⟩ := hv
  have hx := B.exec
  have hb := B.bytes
  have hr := B.returns
  have hts := atoms_spec (ws := .code yX8_type cX8_type 2 (some .int) :: GW) B.pre
  have hg : ∀ w ∈ GW, w.before _ s = true := fun w h => hts w (List.mem_cons_of_mem _ h)
  have hown : s.vm.findClass RX8 = some m.cls := findClass_of_methodNamed B.named
  have hlocks := B.notSynchronized
  subst hsz
  have hD := hD0.self (sz := s.heap.size)
  generalize hAe : va_A (wd_X8_type cs a_t a_t_house a_t_draft a_t_reader a_t_laws a_t_standing a_t_imageZero a_t_imageOne a_t_rounds a_t_ways a_t_margins a_t_marks a_t_reader_text v_t_keptZero v_t_keptOne v_t_target v_t_reader_length v_t_reader_next v_t_reader_place v_t_reader_sort v_t_reader_value v_t_reader_bookTold v_t_reader_needTold g_t_reader_text) s.heap.size = A at hD ⊢
  have hA : ∀ q : Nat, s.heap.size ≤ q → A q := fun q h => by rw [← hAe]; exact Or.inr h
  have hS : va_S A s.heap s.heap [] := va_S.rf
  have hl := lv_entry ([.ref a_t, .int p1]) (n := 2) (Nat.le_of_ble_eq_true rfl)
  rw [lg_entry_eq]
  generalize (lg_sl ([.ref a_t, .int p1]) ++ List.replicate (2 - (lg_sl ([.ref a_t, .int p1])).length) Slot.unset).toArray = ls at hl ⊢
  have hl : lv_has ls 2 [(0, .ref a_t), (1, .int p1)] := hl
  obtain ⟨y, hB, hK0⟩ : ∃ y, f_X8_type v_t_reader_length g_t_reader_text p1 = some y ∧ KEnd R0 y := ⟨R0, hB, rfl⟩
  have hKT := hK
  have hK := hK0
  obtain ⟨H, hHe⟩ : ∃ H, H = s.heap := ⟨_, rfl⟩
  obtain ⟨locs, hLe⟩ : ∃ L : List Loc, L = [] := ⟨_, rfl⟩
  rw [← hHe] at hP
  have hS : va_S A s.heap H locs := by rw [hHe, hLe]; exact hS
  show W p l e rm_X8_type s m ([.ref a_t, .int p1] : List Value).toArray below meth c s.heap [] 0 0 _ _
  suffices hgo : W p l e rm_X8_type s m ([.ref a_t, .int p1] : List Value).toArray below meth c H locs 0 0 (MQ below (QcI G A (wd_X8_type cs a_t a_t_house a_t_draft a_t_reader a_t_laws a_t_standing a_t_imageZero a_t_imageOne a_t_rounds a_t_ways a_t_margins a_t_marks a_t_reader_text v_t_keptZero v_t_keptOne v_t_target R0.2.1 v_t_reader_next v_t_reader_place v_t_reader_sort v_t_reader_value v_t_reader_bookTold v_t_reader_needTold R0.2.2) R0.1) ([.ref a_t, .int p1] : List Value).toArray s 0 0 A) (F0 m 0 ls []) by rw [hHe, hLe] at hgo; exact hgo
  refine lv_iload_n hx hb dX8_type_0 rfl (lv_at hl 1 rfl) ?_
  refine lv_if_lt (tgt := 11) hx hb dX8_type_1 (by decide) (fun c_1 => ?_) (fun c_1 => ?_)
  · have hB := ifP c_1 hB
    refine lv_iconst (v := -1) hx hb dX8_type_11 (by decide) ?_
    have hK := leafK hB hK
    have hK : ((-1 : Int32), v_t_reader_length, g_t_reader_text) = R0 := hK
    subst hK
    exact W.iret (v := (-1 : Int32)) hx hb hr (fun t ht hW => ⟨⟨_, (), rfl, rfl, by rw [ht]; exact hP, hD⟩, hS.F ht⟩) hS.2.2 dX8_type_12
  · have hB := ifN c_1 hB
    refine lv_iload_n hx hb dX8_type_4 rfl (lv_at hl 1 rfl) ?_
    refine lv_sipush (v := 255) hx hb dX8_type_5 (by decide) ?_
    refine lv_icmp_le (tgt := 13) hx hb dX8_type_8 (by decide) (fun c_2 => ?_) (fun c_2 => ?_)
    · have hB := ifP c_2 hB
      refine lv_aload_n hx hb dX8_type_13 rfl (lv_at hl 0 rfl) ?_
      refine va_get (D := G) (ci := 8) (v := .ref a_t_reader) (C := RX8) (T := TX8) (N := 14) hx hb hg inX8 hown hKT hP 0 rfl rfl 2 (by decide) (hg _ gF_X8_22) (fun _ h9 => h9) rfl dX8_type_14 ?_
      refine lv_iload_n hx hb dX8_type_17 rfl (lv_at hl 1 rfl) ?_
      obtain ⟨⟨q3_0, q3_1, q3_2⟩, hq3, hB⟩ := bnd hB
      refine kw_i (WC := wd_X4_add cs a_t_reader a_t_reader_text v_t_reader_length v_t_reader_next v_t_reader_place v_t_reader_sort v_t_reader_value v_t_reader_bookTold v_t_reader_needTold g_t_reader_text) (W1 := wd_X4_add cs a_t_reader a_t_reader_text q3_1 v_t_reader_next v_t_reader_place v_t_reader_sort v_t_reader_value v_t_reader_bookTold v_t_reader_needTold q3_2) (W2 := wd_X8_type cs a_t a_t_house a_t_draft a_t_reader a_t_laws a_t_standing a_t_imageZero a_t_imageOne a_t_rounds a_t_ways a_t_margins a_t_marks a_t_reader_text v_t_keptZero v_t_keptOne v_t_target q3_1 v_t_reader_next v_t_reader_place v_t_reader_sort v_t_reader_value v_t_reader_bookTold v_t_reader_needTold q3_2) (r0 := q3_0) (rw_VN (As := [.int p1]) (rest := []) ⟨hx, hb, hml, hown, hg⟩ (k_X4_add l G cs a_t_reader a_t_reader_text v_t_reader_length v_t_reader_next v_t_reader_place v_t_reader_sort v_t_reader_value v_t_reader_bookTold v_t_reader_needTold g_t_reader_text p1 H.size (q3_0, q3_1, q3_2) hq3) nM_X8_76_l mI_X4_add (rmk rfl) hP hD hKT hN 1 rfl rfl [1, 2] rfl rfl rfl hl.1 rfl (Nat.le_of_ble_eq_true rfl) dX8_type_18) hP hD hS hA [1, 2] [0] [0, 1, 2] ⟨rfl, rfl, rfl, rfl, rfl, rfl, rfl⟩ (fun H locs hP hD hS => ?_)
      refine lv_if_eq (tgt := 34) hx hb dX8_type_21 (by decide) (fun c_4 => ?_) (fun c_4 => ?_)
      · have hB := ifP c_4 hB
        refine lv_bipush (v := -3) hx hb dX8_type_34 (by decide) ?_
        have hK := leafK hB hK
        have hK : ((-3 : Int32), q3_1, q3_2) = R0 := hK
        subst hK
        exact W.iret (v := (-3 : Int32)) hx hb hr (fun t ht hW => ⟨⟨_, (), rfl, rfl, by rw [ht]; exact hP, hD⟩, hS.F ht⟩) hS.2.2 dX8_type_36
      · have hB := ifN c_4 hB
        refine lv_aload_n hx hb dX8_type_24 rfl (lv_at hl 0 rfl) ?_
        refine va_get (D := G) (ci := 8) (v := .ref a_t_reader) (C := RX8) (T := TX8) (N := 14) hx hb hg inX8 hown hKT hP 0 rfl rfl 2 (by decide) (hg _ gF_X8_22) (fun _ h9 => h9) rfl dX8_type_25 ?_
        refine va_getN (D := G) (ci := 4) (v := .int q3_1) (C := RX4) (T := TX4) (N := 8) hx hb hg inX4 hown hKT hP 1 rfl rfl 1 (by decide) (va_Nw.use rfl (hN _ nF_X8_80_l rfl)) (fun _ h9 => h9) rfl dX8_type_28 ?_
        refine lv_goto (tgt := 36) hx hb dX8_type_31 (by decide) ?_
        have hK := leafK hB hK
        have hK : (q3_1, q3_1, q3_2) = R0 := hK
        subst hK
        exact W.iret (v := q3_1) hx hb hr (fun t ht hW => ⟨⟨_, (), rfl, rfl, by rw [ht]; exact hP, hD⟩, hS.F ht⟩) hS.2.2 dX8_type_36
    · have hB := ifN c_2 hB
      refine lv_iconst (v := -1) hx hb dX8_type_11 (by decide) ?_
      have hK := leafK hB hK
      have hK : ((-1 : Int32), v_t_reader_length, g_t_reader_text) = R0 := hK
      subst hK
      exact W.iret (v := (-1 : Int32)) hx hb hr (fun t ht hW => ⟨⟨_, (), rfl, rfl, by rw [ht]; exact hP, hD⟩, hS.F ht⟩) hS.2.2 dX8_type_12
def wd_X8_clear (cs : Nat → ClassId) (a_t a_t_house a_t_draft a_t_reader a_t_laws a_t_standing a_t_imageZero a_t_imageOne a_t_rounds a_t_ways a_t_margins a_t_marks a_t_reader_text : Nat) (v_t_keptZero : Int32) (v_t_keptOne : Int32) (v_t_target : Int32) (v_t_reader_length : Int32) (v_t_reader_next : Int32) (v_t_reader_place : Int32) (v_t_reader_sort : Int32) (v_t_reader_value : Int32) (v_t_reader_bookTold : Int32) (v_t_reader_needTold : Int32) : va_W := [(a_t, .inr (8, [.ref a_t_house, .ref a_t_draft, .ref a_t_reader, .ref a_t_laws, .ref a_t_standing, .ref a_t_imageZero, .ref a_t_imageOne, .int v_t_keptZero, .int v_t_keptOne, .int v_t_target, .ref a_t_rounds, .ref a_t_ways, .ref a_t_margins, .ref a_t_marks])), (a_t_reader, .inr (4, [.ref a_t_reader_text, .int v_t_reader_length, .int v_t_reader_next, .int v_t_reader_place, .int v_t_reader_sort, .int v_t_reader_value, .int v_t_reader_bookTold, .int v_t_reader_needTold]))]
def rm_X8_clear : Room := { frames := 1, cells := 0, slots := 0, locals := 21 }
theorem mI_X8_clear : MI yX8_clear RX8 cX8_clear 1 (some .int) 0 := ⟨gI_X8_clear, gE_X8_clear, gN_X8, gC_X8_clear, by decide +kernel⟩
set_option maxHeartbeats 4000000 in
set_option maxRecDepth 100000 in
theorem k_X8_clear (l : Launch) (G : va_G) (cs : Nat → ClassId) (a_t a_t_house a_t_draft a_t_reader a_t_laws a_t_standing a_t_imageZero a_t_imageOne a_t_rounds a_t_ways a_t_margins a_t_marks a_t_reader_text : Nat) (v_t_keptZero : Int32) (v_t_keptOne : Int32) (v_t_target : Int32) (v_t_reader_length : Int32) (v_t_reader_next : Int32) (v_t_reader_place : Int32) (v_t_reader_sort : Int32) (v_t_reader_value : Int32) (v_t_reader_bookTold : Int32) (v_t_reader_needTold : Int32) (sz : Nat) (R0 : Int32 × Int32) (hB : f_X8_clear v_t_reader_length = some R0) : Met l yX8_clear (.code yX8_clear cX8_clear 1 (some .int) :: GW) rm_X8_clear (PcW G cs [.ref a_t] (wd_X8_clear cs a_t a_t_house a_t_draft a_t_reader a_t_laws a_t_standing a_t_imageZero a_t_imageOne a_t_rounds a_t_ways a_t_margins a_t_marks a_t_reader_text v_t_keptZero v_t_keptOne v_t_target v_t_reader_length v_t_reader_next v_t_reader_place v_t_reader_sort v_t_reader_value v_t_reader_bookTold v_t_reader_needTold) sz) (QcI G (va_A (wd_X8_clear cs a_t a_t_house a_t_draft a_t_reader a_t_laws a_t_standing a_t_imageZero a_t_imageOne a_t_rounds a_t_ways a_t_margins a_t_marks a_t_reader_text v_t_keptZero v_t_keptOne v_t_target v_t_reader_length v_t_reader_next v_t_reader_place v_t_reader_sort v_t_reader_value v_t_reader_bookTold v_t_reader_needTold) sz) (wd_X8_clear cs a_t a_t_house a_t_draft a_t_reader a_t_laws a_t_standing a_t_imageZero a_t_imageOne a_t_rounds a_t_ways a_t_margins a_t_marks a_t_reader_text v_t_keptZero v_t_keptOne v_t_target R0.2 v_t_reader_next v_t_reader_place v_t_reader_sort v_t_reader_value v_t_reader_bookTold v_t_reader_needTold) R0.1) 0 0 (va_A (wd_X8_clear cs a_t a_t_house a_t_draft a_t_reader a_t_laws a_t_standing a_t_imageZero a_t_imageOne a_t_rounds a_t_ways a_t_margins a_t_marks a_t_reader_text v_t_keptZero v_t_keptOne v_t_target v_t_reader_length v_t_reader_next v_t_reader_place v_t_reader_sort v_t_reader_value v_t_reader_bookTold v_t_reader_needTold) sz) := by
  refine Met.ofW (cc := cX8_clear) (maxL := 1) (ret := (some .int)) (by decide) rfl ?_
  intro p e s m args below meth c s₁ B hml hv
  obtain ⟨rfl, hsz, hP, hD0, hK, hN⟩ := hv
  have hx := B.exec
  have hb := B.bytes
  have hr := B.returns
  have hts := atoms_spec (ws := .code yX8_clear cX8_clear 1 (some .int) :: GW) B.pre
  have hg : ∀ w ∈ GW, w.before _ s = true := fun w h => hts w (List.mem_cons_of_mem _ h)
  have hown : s.vm.findClass RX8 = some m.cls := findClass_of_methodNamed B.named
  have hlocks := B.notSynchronized
  subst hsz
  have hD := hD0.self (sz := s.heap.size)
  generalize hAe : va_A (wd_X8_clear cs a_t a_t_house a_t_draft a_t_reader a_t_laws a_t_standing a_t_imageZero a_t_imageOne a_t_rounds a_t_ways a_t_margins a_t_marks a_t_reader_text v_t_keptZero v_t_keptOne v_t_target v_t_reader_length v_t_reader_next v_t_reader_place v_t_reader_sort v_t_reader_value v_t_reader_bookTold v_t_reader_needTold) s.heap.size = A at hD ⊢
  have hA : ∀ q : Nat, s.heap.size ≤ q → A q := fun q h => by rw [← hAe]; exact Or.inr h
  have hS : va_S A s.heap s.heap [] := va_S.rf
  have hl := lv_entry ([.ref a_t]) (n := 1) (Nat.le_of_ble_eq_true rfl)
  rw [lg_entry_eq]
  generalize (lg_sl ([.ref a_t]) ++ List.replicate (1 - (lg_sl ([.ref a_t])).length) Slot.unset).toArray = ls at hl ⊢
  have hl : lv_has ls 1 [(0, .ref a_t)] := hl
  obtain ⟨y, hB, hK0⟩ : ∃ y, f_X8_clear v_t_reader_length = some y ∧ KEnd R0 y := ⟨R0, hB, rfl⟩
  have hKT := hK
  have hK := hK0
  obtain ⟨H, hHe⟩ : ∃ H, H = s.heap := ⟨_, rfl⟩
  obtain ⟨locs, hLe⟩ : ∃ L : List Loc, L = [] := ⟨_, rfl⟩
  rw [← hHe] at hP
  have hS : va_S A s.heap H locs := by rw [hHe, hLe]; exact hS
  show W p l e rm_X8_clear s m ([.ref a_t] : List Value).toArray below meth c s.heap [] 0 0 _ _
  suffices hgo : W p l e rm_X8_clear s m ([.ref a_t] : List Value).toArray below meth c H locs 0 0 (MQ below (QcI G A (wd_X8_clear cs a_t a_t_house a_t_draft a_t_reader a_t_laws a_t_standing a_t_imageZero a_t_imageOne a_t_rounds a_t_ways a_t_margins a_t_marks a_t_reader_text v_t_keptZero v_t_keptOne v_t_target R0.2 v_t_reader_next v_t_reader_place v_t_reader_sort v_t_reader_value v_t_reader_bookTold v_t_reader_needTold) R0.1) ([.ref a_t] : List Value).toArray s 0 0 A) (F0 m 0 ls []) by rw [hHe, hLe] at hgo; exact hgo
  refine lv_aload_n hx hb dX8_clear_0 rfl (lv_at hl 0 rfl) ?_
  refine va_get (D := G) (ci := 8) (v := .ref a_t_reader) (C := RX8) (T := TX8) (N := 14) hx hb hg inX8 hown hKT hP 0 rfl rfl 2 (by decide) (hg _ gF_X8_22) (fun _ h9 => h9) rfl dX8_clear_1 ?_
  obtain ⟨⟨q1_0, q1_1⟩, hq1, hB⟩ := bnd hB
  refine kw_i (WC := wd_X4_empty cs a_t_reader a_t_reader_text v_t_reader_length v_t_reader_next v_t_reader_place v_t_reader_sort v_t_reader_value v_t_reader_bookTold v_t_reader_needTold) (W1 := wd_X4_empty cs a_t_reader a_t_reader_text q1_1 v_t_reader_next v_t_reader_place v_t_reader_sort v_t_reader_value v_t_reader_bookTold v_t_reader_needTold) (W2 := wd_X8_clear cs a_t a_t_house a_t_draft a_t_reader a_t_laws a_t_standing a_t_imageZero a_t_imageOne a_t_rounds a_t_ways a_t_margins a_t_marks a_t_reader_text v_t_keptZero v_t_keptOne v_t_target q1_1 v_t_reader_next v_t_reader_place v_t_reader_sort v_t_reader_value v_t_reader_bookTold v_t_reader_needTold) (r0 := q1_0) (rw_VN (As := []) (rest := []) ⟨hx, hb, hml, hown, hg⟩ (k_X4_empty l G cs a_t_reader a_t_reader_text v_t_reader_length v_t_reader_next v_t_reader_place v_t_reader_sort v_t_reader_value v_t_reader_bookTold v_t_reader_needTold H.size (q1_0, q1_1) hq1) nM_X8_84_l mI_X4_empty (rmk rfl) hP hD hKT hN 1 rfl rfl [1] rfl rfl rfl hl.1 rfl (Nat.le_of_ble_eq_true rfl) dX8_clear_4) hP hD hS hA [1] [0] [0, 1] ⟨rfl, rfl, rfl, rfl, rfl, rfl, rfl⟩ (fun H locs hP hD hS => ?_)
  have hK := leafK hB hK
  have hK : (q1_0, q1_1) = R0 := hK
  subst hK
  exact W.iret (v := q1_0) hx hb hr (fun t ht hW => ⟨⟨_, (), rfl, rfl, by rw [ht]; exact hP, hD⟩, hS.F ht⟩) hS.2.2 dX8_clear_7
def wd_X8_house (cs : Nat → ClassId) (a_t a_t_house a_t_draft a_t_reader a_t_laws a_t_standing a_t_imageZero a_t_imageOne a_t_rounds a_t_ways a_t_margins a_t_marks a_t_draft_turn a_t_draft_bent a_t_reader_text a_t_laws_made a_t_standing_rows a_t_margins_of a_t_margins_said : Nat) (r_t_standing_rows : Nat → Nat) (v_t_keptZero : Int32) (v_t_keptOne : Int32) (v_t_target : Int32) (v_t_draft_opinions : Int32) (v_t_draft_lines : Int32) (v_t_draft_books : Int32) (v_t_draft_told : Int32) (v_t_draft_scribes : Int32) (v_t_draft_need : Int32) (g_t_draft_turn : Nat → Int32) (g_t_draft_bent : Nat → Int32) (v_t_reader_length : Int32) (v_t_reader_next : Int32) (v_t_reader_place : Int32) (v_t_reader_sort : Int32) (v_t_reader_value : Int32) (v_t_reader_bookTold : Int32) (v_t_reader_needTold : Int32) (g_t_reader_text : Nat → Int32) (v_t_laws_scribes : Int32) (v_t_laws_books : Int32) (g_t_laws_made : Nat → Int32) (v_t_standing_known : Int32) (g_t_standing_rows : Nat → Nat → Int32) (v_t_margins_size : Int32) (v_t_house : Nat) (v_t_draft : Nat) : va_W := [(a_t, .inr (8, [.ref v_t_house, .ref v_t_draft, .ref a_t_reader, .ref a_t_laws, .ref a_t_standing, .ref a_t_imageZero, .ref a_t_imageOne, .int v_t_keptZero, .int v_t_keptOne, .int v_t_target, .ref a_t_rounds, .ref a_t_ways, .ref a_t_margins, .ref a_t_marks])), (a_t_draft, .inr (0, [.int v_t_draft_opinions, .int v_t_draft_lines, .int v_t_draft_books, .int v_t_draft_told, .int v_t_draft_scribes, .int v_t_draft_need, .ref a_t_draft_turn, .ref a_t_draft_bent])), (a_t_draft_turn, .inl (cs 0, 6, .inl g_t_draft_turn)), (a_t_draft_bent, .inl (cs 0, 6, .inl g_t_draft_bent)), (a_t_reader, .inr (4, [.ref a_t_reader_text, .int v_t_reader_length, .int v_t_reader_next, .int v_t_reader_place, .int v_t_reader_sort, .int v_t_reader_value, .int v_t_reader_bookTold, .int v_t_reader_needTold])), (a_t_reader_text, .inl (cs 0, 120, .inl g_t_reader_text)), (a_t_laws, .inr (1, [.ref a_t_laws_made, .int v_t_laws_scribes, .int v_t_laws_books])), (a_t_laws_made, .inl (cs 0, 3750, .inl g_t_laws_made)), (a_t_standing, .inr (6, [.ref a_t_standing_rows, .int v_t_standing_known])), (a_t_standing_rows, .inl (cs 3, 11, .inr (.inr (.inr (.inr (gO r_t_standing_rows)))))), (r_t_standing_rows 0, .inl (cs 0, 9, .inl (g_t_standing_rows 0))), (r_t_standing_rows 1, .inl (cs 0, 9, .inl (g_t_standing_rows 1))), (r_t_standing_rows 2, .inl (cs 0, 9, .inl (g_t_standing_rows 2))), (r_t_standing_rows 3, .inl (cs 0, 9, .inl (g_t_standing_rows 3))), (r_t_standing_rows 4, .inl (cs 0, 9, .inl (g_t_standing_rows 4))), (r_t_standing_rows 5, .inl (cs 0, 9, .inl (g_t_standing_rows 5))), (r_t_standing_rows 6, .inl (cs 0, 9, .inl (g_t_standing_rows 6))), (r_t_standing_rows 7, .inl (cs 0, 9, .inl (g_t_standing_rows 7))), (r_t_standing_rows 8, .inl (cs 0, 9, .inl (g_t_standing_rows 8))), (r_t_standing_rows 9, .inl (cs 0, 9, .inl (g_t_standing_rows 9))), (r_t_standing_rows 10, .inl (cs 0, 9, .inl (g_t_standing_rows 10))), (a_t_margins, .inr (2, [.ref a_t_margins_of, .ref a_t_margins_said, .int v_t_margins_size]))]
def rm_X8_house : Room := { frames := 6, cells := 0, slots := 0, locals := 139 }
theorem mI_X8_house : MI yX8_house RX8 cX8_house 3 (some .int) 0 := ⟨gI_X8_house, gE_X8_house, gN_X8, gC_X8_house, by decide +kernel⟩
set_option maxHeartbeats 4000000 in
set_option maxRecDepth 100000 in
theorem k_X8_house (l : Launch) (G : va_G) (cs : Nat → ClassId) (a_t a_t_house a_t_draft a_t_reader a_t_laws a_t_standing a_t_imageZero a_t_imageOne a_t_rounds a_t_ways a_t_margins a_t_marks a_t_draft_turn a_t_draft_bent a_t_reader_text a_t_laws_made a_t_standing_rows a_t_margins_of a_t_margins_said : Nat) (r_t_standing_rows : Nat → Nat) (v_t_keptZero : Int32) (v_t_keptOne : Int32) (v_t_target : Int32) (v_t_draft_opinions : Int32) (v_t_draft_lines : Int32) (v_t_draft_books : Int32) (v_t_draft_told : Int32) (v_t_draft_scribes : Int32) (v_t_draft_need : Int32) (g_t_draft_turn : Nat → Int32) (g_t_draft_bent : Nat → Int32) (v_t_reader_length : Int32) (v_t_reader_next : Int32) (v_t_reader_place : Int32) (v_t_reader_sort : Int32) (v_t_reader_value : Int32) (v_t_reader_bookTold : Int32) (v_t_reader_needTold : Int32) (g_t_reader_text : Nat → Int32) (v_t_laws_scribes : Int32) (v_t_laws_books : Int32) (g_t_laws_made : Nat → Int32) (v_t_standing_known : Int32) (g_t_standing_rows : Nat → Nat → Int32) (v_t_margins_size : Int32) (sz : Nat) (R0 : Int32 × Int32 × Int32 × Int32 × Int32 × Int32 × Int32 × Int32 × Int32 × Int32 × (Nat → Int32) × (Nat → Int32) × Int32 × Int32 × Int32 × Int32 × Int32 × Int32 × Int32 × Int32 × Int32 × (Nat → Int32) × Int32 × (Nat → Nat → Int32) × Int32 × Nat × Nat) (hB : f_X8_house v_t_keptZero v_t_keptOne v_t_target g_t_draft_turn g_t_draft_bent v_t_reader_length v_t_reader_place v_t_reader_sort v_t_reader_value g_t_reader_text v_t_laws_scribes v_t_laws_books g_t_laws_made v_t_standing_known g_t_standing_rows v_t_margins_size a_t_house a_t_draft = some R0) : Met l yX8_house (.code yX8_house cX8_house 3 (some .int) :: GW) rm_X8_house (PcW G cs [.ref a_t] (wd_X8_house cs a_t a_t_house a_t_draft a_t_reader a_t_laws a_t_standing a_t_imageZero a_t_imageOne a_t_rounds a_t_ways a_t_margins a_t_marks a_t_draft_turn a_t_draft_bent a_t_reader_text a_t_laws_made a_t_standing_rows a_t_margins_of a_t_margins_said r_t_standing_rows v_t_keptZero v_t_keptOne v_t_target v_t_draft_opinions v_t_draft_lines v_t_draft_books v_t_draft_told v_t_draft_scribes v_t_draft_need g_t_draft_turn g_t_draft_bent v_t_reader_length v_t_reader_next v_t_reader_place v_t_reader_sort v_t_reader_value v_t_reader_bookTold v_t_reader_needTold g_t_reader_text v_t_laws_scribes v_t_laws_books g_t_laws_made v_t_standing_known g_t_standing_rows v_t_margins_size a_t_house a_t_draft) sz) (QcI G (va_A (wd_X8_house cs a_t a_t_house a_t_draft a_t_reader a_t_laws a_t_standing a_t_imageZero a_t_imageOne a_t_rounds a_t_ways a_t_margins a_t_marks a_t_draft_turn a_t_draft_bent a_t_reader_text a_t_laws_made a_t_standing_rows a_t_margins_of a_t_margins_said r_t_standing_rows v_t_keptZero v_t_keptOne v_t_target v_t_draft_opinions v_t_draft_lines v_t_draft_books v_t_draft_told v_t_draft_scribes v_t_draft_need g_t_draft_turn g_t_draft_bent v_t_reader_length v_t_reader_next v_t_reader_place v_t_reader_sort v_t_reader_value v_t_reader_bookTold v_t_reader_needTold g_t_reader_text v_t_laws_scribes v_t_laws_books g_t_laws_made v_t_standing_known g_t_standing_rows v_t_margins_size a_t_house a_t_draft) sz) (wd_X8_house cs a_t a_t_house a_t_draft a_t_reader a_t_laws a_t_standing a_t_imageZero a_t_imageOne a_t_rounds a_t_ways a_t_margins a_t_marks a_t_draft_turn a_t_draft_bent a_t_reader_text a_t_laws_made a_t_standing_rows a_t_margins_of a_t_margins_said r_t_standing_rows R0.2.1 R0.2.2.1 R0.2.2.2.1 R0.2.2.2.2.1 R0.2.2.2.2.2.1 R0.2.2.2.2.2.2.1 R0.2.2.2.2.2.2.2.1 R0.2.2.2.2.2.2.2.2.1 R0.2.2.2.2.2.2.2.2.2.1 R0.2.2.2.2.2.2.2.2.2.2.1 R0.2.2.2.2.2.2.2.2.2.2.2.1 R0.2.2.2.2.2.2.2.2.2.2.2.2.1 R0.2.2.2.2.2.2.2.2.2.2.2.2.2.1 R0.2.2.2.2.2.2.2.2.2.2.2.2.2.2.1 R0.2.2.2.2.2.2.2.2.2.2.2.2.2.2.2.1 R0.2.2.2.2.2.2.2.2.2.2.2.2.2.2.2.2.1 R0.2.2.2.2.2.2.2.2.2.2.2.2.2.2.2.2.2.1 R0.2.2.2.2.2.2.2.2.2.2.2.2.2.2.2.2.2.2.1 g_t_reader_text R0.2.2.2.2.2.2.2.2.2.2.2.2.2.2.2.2.2.2.2.1 R0.2.2.2.2.2.2.2.2.2.2.2.2.2.2.2.2.2.2.2.2.1 R0.2.2.2.2.2.2.2.2.2.2.2.2.2.2.2.2.2.2.2.2.2.1 R0.2.2.2.2.2.2.2.2.2.2.2.2.2.2.2.2.2.2.2.2.2.2.1 R0.2.2.2.2.2.2.2.2.2.2.2.2.2.2.2.2.2.2.2.2.2.2.2.1 R0.2.2.2.2.2.2.2.2.2.2.2.2.2.2.2.2.2.2.2.2.2.2.2.2.1 R0.2.2.2.2.2.2.2.2.2.2.2.2.2.2.2.2.2.2.2.2.2.2.2.2.2.1 R0.2.2.2.2.2.2.2.2.2.2.2.2.2.2.2.2.2.2.2.2.2.2.2.2.2.2) R0.1) 0 0 (va_A (wd_X8_house cs a_t a_t_house a_t_draft a_t_reader a_t_laws a_t_standing a_t_imageZero a_t_imageOne a_t_rounds a_t_ways a_t_margins a_t_marks a_t_draft_turn a_t_draft_bent a_t_reader_text a_t_laws_made a_t_standing_rows a_t_margins_of a_t_margins_said r_t_standing_rows v_t_keptZero v_t_keptOne v_t_target v_t_draft_opinions v_t_draft_lines v_t_draft_books v_t_draft_told v_t_draft_scribes v_t_draft_need g_t_draft_turn g_t_draft_bent v_t_reader_length v_t_reader_next v_t_reader_place v_t_reader_sort v_t_reader_value v_t_reader_bookTold v_t_reader_needTold g_t_reader_text v_t_laws_scribes v_t_laws_books g_t_laws_made v_t_standing_known g_t_standing_rows v_t_margins_size a_t_house a_t_draft) sz) := by
  refine Met.ofW (cc := cX8_house) (maxL := 3) (ret := (some .int)) (by decide) rfl ?_
  intro p e s m args below meth c s₁ B hml hv
  obtain ⟨rfl, hsz, hP, hD0, hK, hN⟩ := hv
  have hx := B.exec
  have hb := B.bytes
  have hr := B.returns
  have hts := atoms_spec (ws := .code yX8_house cX8_house 3 (some .int) :: GW) B.pre
  have hg : ∀ w ∈ GW, w.before _ s = true := fun w h => hts w (List.mem_cons_of_mem _ h)
  have hown : s.vm.findClass RX8 = some m.cls := findClass_of_methodNamed B.named
  have hlocks := B.notSynchronized
  subst hsz
  have hD := hD0.self (sz := s.heap.size)
  generalize hAe : va_A (wd_X8_house cs a_t a_t_house a_t_draft a_t_reader a_t_laws a_t_standing a_t_imageZero a_t_imageOne a_t_rounds a_t_ways a_t_margins a_t_marks a_t_draft_turn a_t_draft_bent a_t_reader_text a_t_laws_made a_t_standing_rows a_t_margins_of a_t_margins_said r_t_standing_rows v_t_keptZero v_t_keptOne v_t_target v_t_draft_opinions v_t_draft_lines v_t_draft_books v_t_draft_told v_t_draft_scribes v_t_draft_need g_t_draft_turn g_t_draft_bent v_t_reader_length v_t_reader_next v_t_reader_place v_t_reader_sort v_t_reader_value v_t_reader_bookTold v_t_reader_needTold g_t_reader_text v_t_laws_scribes v_t_laws_books g_t_laws_made v_t_standing_known g_t_standing_rows v_t_margins_size a_t_house a_t_draft) s.heap.size = A at hD ⊢
  have hA : ∀ q : Nat, s.heap.size ≤ q → A q := fun q h => by rw [← hAe]; exact Or.inr h
  have hS : va_S A s.heap s.heap [] := va_S.rf
  have hl := lv_entry ([.ref a_t]) (n := 3) (Nat.le_of_ble_eq_true rfl)
  rw [lg_entry_eq]
  generalize (lg_sl ([.ref a_t]) ++ List.replicate (3 - (lg_sl ([.ref a_t])).length) Slot.unset).toArray = ls at hl ⊢
  have hl : lv_has ls 3 [(0, .ref a_t)] := hl
  obtain ⟨y, hB, hK0⟩ : ∃ y, f_X8_house v_t_keptZero v_t_keptOne v_t_target g_t_draft_turn g_t_draft_bent v_t_reader_length v_t_reader_place v_t_reader_sort v_t_reader_value g_t_reader_text v_t_laws_scribes v_t_laws_books g_t_laws_made v_t_standing_known g_t_standing_rows v_t_margins_size a_t_house a_t_draft = some y ∧ KEnd R0 y := ⟨R0, hB, rfl⟩
  have hKT := hK
  have hK := hK0
  obtain ⟨H, hHe⟩ : ∃ H, H = s.heap := ⟨_, rfl⟩
  obtain ⟨locs, hLe⟩ : ∃ L : List Loc, L = [] := ⟨_, rfl⟩
  rw [← hHe] at hP
  have hS : va_S A s.heap H locs := by rw [hHe, hLe]; exact hS
  show W p l e rm_X8_house s m ([.ref a_t] : List Value).toArray below meth c s.heap [] 0 0 _ _
  suffices hgo : W p l e rm_X8_house s m ([.ref a_t] : List Value).toArray below meth c H locs 0 0 (MQ below (QcI G A (wd_X8_house cs a_t a_t_house a_t_draft a_t_reader a_t_laws a_t_standing a_t_imageZero a_t_imageOne a_t_rounds a_t_ways a_t_margins a_t_marks a_t_draft_turn a_t_draft_bent a_t_reader_text a_t_laws_made a_t_standing_rows a_t_margins_of a_t_margins_said r_t_standing_rows R0.2.1 R0.2.2.1 R0.2.2.2.1 R0.2.2.2.2.1 R0.2.2.2.2.2.1 R0.2.2.2.2.2.2.1 R0.2.2.2.2.2.2.2.1 R0.2.2.2.2.2.2.2.2.1 R0.2.2.2.2.2.2.2.2.2.1 R0.2.2.2.2.2.2.2.2.2.2.1 R0.2.2.2.2.2.2.2.2.2.2.2.1 R0.2.2.2.2.2.2.2.2.2.2.2.2.1 R0.2.2.2.2.2.2.2.2.2.2.2.2.2.1 R0.2.2.2.2.2.2.2.2.2.2.2.2.2.2.1 R0.2.2.2.2.2.2.2.2.2.2.2.2.2.2.2.1 R0.2.2.2.2.2.2.2.2.2.2.2.2.2.2.2.2.1 R0.2.2.2.2.2.2.2.2.2.2.2.2.2.2.2.2.2.1 R0.2.2.2.2.2.2.2.2.2.2.2.2.2.2.2.2.2.2.1 g_t_reader_text R0.2.2.2.2.2.2.2.2.2.2.2.2.2.2.2.2.2.2.2.1 R0.2.2.2.2.2.2.2.2.2.2.2.2.2.2.2.2.2.2.2.2.1 R0.2.2.2.2.2.2.2.2.2.2.2.2.2.2.2.2.2.2.2.2.2.1 R0.2.2.2.2.2.2.2.2.2.2.2.2.2.2.2.2.2.2.2.2.2.2.1 R0.2.2.2.2.2.2.2.2.2.2.2.2.2.2.2.2.2.2.2.2.2.2.2.1 R0.2.2.2.2.2.2.2.2.2.2.2.2.2.2.2.2.2.2.2.2.2.2.2.2.1 R0.2.2.2.2.2.2.2.2.2.2.2.2.2.2.2.2.2.2.2.2.2.2.2.2.2.1 R0.2.2.2.2.2.2.2.2.2.2.2.2.2.2.2.2.2.2.2.2.2.2.2.2.2.2) R0.1) ([.ref a_t] : List Value).toArray s 0 0 A) (F0 m 0 ls []) by rw [hHe, hLe] at hgo; exact hgo
  refine lv_aload_n hx hb dX8_house_0 rfl (lv_at hl 0 rfl) ?_
  refine va_get (D := G) (ci := 8) (v := .ref a_t_reader) (C := RX8) (T := TX8) (N := 14) hx hb hg inX8 hown hKT hP 0 rfl rfl 2 (by decide) (hg _ gF_X8_22) (fun _ h9 => h9) rfl dX8_house_1 ?_
  refine lv_aload_n hx hb dX8_house_4 rfl (lv_at hl 0 rfl) ?_
  refine va_get (D := G) (ci := 8) (v := .ref a_t_draft) (C := RX8) (T := TX8) (N := 14) hx hb hg inX8 hown hKT hP 0 rfl rfl 1 (by decide) (hg _ gF_X8_16) (fun _ h9 => h9) rfl dX8_house_5 ?_
  obtain ⟨⟨q1_0, q1_1, q1_2, q1_3, q1_4, q1_5, q1_6, q1_7, q1_8, q1_9, q1_10, q1_11, q1_12, q1_13, q1_14⟩, hq1, hB⟩ := bnd hB
  refine kw_i (WC := wd_X4_read cs a_t_reader a_t_reader_text a_t_draft a_t_draft_turn a_t_draft_bent v_t_reader_length v_t_reader_next v_t_reader_place v_t_reader_sort v_t_reader_value v_t_reader_bookTold v_t_reader_needTold g_t_reader_text v_t_draft_opinions v_t_draft_lines v_t_draft_books v_t_draft_told v_t_draft_scribes v_t_draft_need g_t_draft_turn g_t_draft_bent) (W1 := wd_X4_read cs a_t_reader a_t_reader_text a_t_draft a_t_draft_turn a_t_draft_bent v_t_reader_length q1_1 q1_2 q1_3 q1_4 q1_5 q1_6 g_t_reader_text q1_7 q1_8 q1_9 q1_10 q1_11 q1_12 q1_13 q1_14) (W2 := wd_X8_house cs a_t a_t_house a_t_draft a_t_reader a_t_laws a_t_standing a_t_imageZero a_t_imageOne a_t_rounds a_t_ways a_t_margins a_t_marks a_t_draft_turn a_t_draft_bent a_t_reader_text a_t_laws_made a_t_standing_rows a_t_margins_of a_t_margins_said r_t_standing_rows v_t_keptZero v_t_keptOne v_t_target q1_7 q1_8 q1_9 q1_10 q1_11 q1_12 q1_13 q1_14 v_t_reader_length q1_1 q1_2 q1_3 q1_4 q1_5 q1_6 g_t_reader_text v_t_laws_scribes v_t_laws_books g_t_laws_made v_t_standing_known g_t_standing_rows v_t_margins_size a_t_house a_t_draft) (r0 := q1_0) (rw_VN (As := [.ref a_t_draft]) (rest := []) ⟨hx, hb, hml, hown, hg⟩ (k_X4_read l G cs a_t_reader a_t_reader_text a_t_draft a_t_draft_turn a_t_draft_bent v_t_reader_length v_t_reader_next v_t_reader_place v_t_reader_sort v_t_reader_value v_t_reader_bookTold v_t_reader_needTold g_t_reader_text v_t_draft_opinions v_t_draft_lines v_t_draft_books v_t_draft_told v_t_draft_scribes v_t_draft_need g_t_draft_turn g_t_draft_bent H.size (q1_0, q1_1, q1_2, q1_3, q1_4, q1_5, q1_6, q1_7, q1_8, q1_9, q1_10, q1_11, q1_12, q1_13, q1_14) hq1) nM_X8_88_l mI_X4_read (rmk rfl) hP hD hKT hN 4 rfl rfl [4, 5, 1, 2, 3] rfl rfl rfl hl.1 rfl (Nat.le_of_ble_eq_true rfl) dX8_house_8) hP hD hS hA [4, 5, 1, 2, 3] [0, 6, 7, 8, 9, 10, 11, 12, 13, 14, 15, 16, 17, 18, 19, 20, 21] [0, 19, 20, 21, 17, 18, 1, 2, 3, 4, 5, 6, 7, 8, 9, 10, 11, 12, 13, 14, 15, 16] ⟨rfl, rfl, rfl, rfl, rfl, rfl, rfl⟩ (fun H locs hP hD hS => ?_)
  refine lv_istore_n (lv' := [(1, .int q1_0), (0, .ref a_t)]) hx hb dX8_house_11 rfl hl (by decide) rfl (fun ls hl => ?_)
  refine lv_iload_n hx hb dX8_house_12 rfl (lv_at hl 0 rfl) ?_
  refine lv_if_ge (tgt := 18) hx hb dX8_house_13 (by decide) (fun c_2 => ?_) (fun c_2 => ?_)
  · have hB := ifP c_2 hB
    refine lv_aload_n hx hb dX8_house_18 rfl (lv_at hl 1 rfl) ?_
    refine va_get (D := G) (ci := 8) (v := .ref a_t_draft) (C := RX8) (T := TX8) (N := 14) hx hb hg inX8 hown hKT hP 0 rfl rfl 1 (by decide) (hg _ gF_X8_16) (fun _ h9 => h9) rfl dX8_house_19 ?_
    refine lv_astore_n (lv' := [(2, .ref a_t_draft), (1, .int q1_0), (0, .ref a_t)]) hx hb dX8_house_22 rfl hl (by decide) rfl (fun ls hl => ?_)
    refine lv_aload_n hx hb dX8_house_23 rfl (lv_at hl 2 rfl) ?_
    refine lv_aload_n hx hb dX8_house_24 rfl (lv_at hl 2 rfl) ?_
    refine va_get (D := G) (ci := 8) (v := .ref a_t_house) (C := RX8) (T := TX8) (N := 14) hx hb hg inX8 hown hKT hP 0 rfl rfl 0 (by decide) (hg _ gF_X8_10) (fun _ h9 => h9) rfl dX8_house_25 ?_
    refine va_put (D := G) (ci := 8) (v := .ref a_t_house) (ty := .object "MarginBooks$House") (C := RX8) (T := TX8) (N := 14) hx hb hg inX8 tyX8 tyX8_ok nmX8 hown hKT hP hD hS 0 rfl rfl 1 (by decide) (hg _ gF_X8_16) (fun _ h9 => h9) rfl (by decide +kernel) rfl rfl (Nat.le_of_ble_eq_true rfl) dX8_house_28 (fun H locs hP hD hS => ?_)
    have hP : va_P G vwCl (wd_X8_house cs a_t a_t_house a_t_draft a_t_reader a_t_laws a_t_standing a_t_imageZero a_t_imageOne a_t_rounds a_t_ways a_t_margins a_t_marks a_t_draft_turn a_t_draft_bent a_t_reader_text a_t_laws_made a_t_standing_rows a_t_margins_of a_t_margins_said r_t_standing_rows v_t_keptZero v_t_keptOne v_t_target q1_7 q1_8 q1_9 q1_10 q1_11 q1_12 q1_13 q1_14 v_t_reader_length q1_1 q1_2 q1_3 q1_4 q1_5 q1_6 g_t_reader_text v_t_laws_scribes v_t_laws_books g_t_laws_made v_t_standing_known g_t_standing_rows v_t_margins_size a_t_house a_t_house) H := hP
    have hD : va_D A (wd_X8_house cs a_t a_t_house a_t_draft a_t_reader a_t_laws a_t_standing a_t_imageZero a_t_imageOne a_t_rounds a_t_ways a_t_margins a_t_marks a_t_draft_turn a_t_draft_bent a_t_reader_text a_t_laws_made a_t_standing_rows a_t_margins_of a_t_margins_said r_t_standing_rows v_t_keptZero v_t_keptOne v_t_target q1_7 q1_8 q1_9 q1_10 q1_11 q1_12 q1_13 q1_14 v_t_reader_length q1_1 q1_2 q1_3 q1_4 q1_5 q1_6 g_t_reader_text v_t_laws_scribes v_t_laws_books g_t_laws_made v_t_standing_known g_t_standing_rows v_t_margins_size a_t_house a_t_house) := hD
    refine lv_aload_n hx hb dX8_house_31 rfl (lv_at hl 2 rfl) ?_
    refine lv_aload_n hx hb dX8_house_32 rfl (lv_at hl 0 rfl) ?_
    refine va_put (D := G) (ci := 8) (v := .ref a_t_draft) (ty := .object "MarginBooks$House") (C := RX8) (T := TX8) (N := 14) hx hb hg inX8 tyX8 tyX8_ok nmX8 hown hKT hP hD hS 0 rfl rfl 0 (by decide) (hg _ gF_X8_10) (fun _ h9 => h9) rfl (by decide +kernel) rfl rfl (Nat.le_of_ble_eq_true rfl) dX8_house_33 (fun H locs hP hD hS => ?_)
    have hP : va_P G vwCl (wd_X8_house cs a_t a_t_house a_t_draft a_t_reader a_t_laws a_t_standing a_t_imageZero a_t_imageOne a_t_rounds a_t_ways a_t_margins a_t_marks a_t_draft_turn a_t_draft_bent a_t_reader_text a_t_laws_made a_t_standing_rows a_t_margins_of a_t_margins_said r_t_standing_rows v_t_keptZero v_t_keptOne v_t_target q1_7 q1_8 q1_9 q1_10 q1_11 q1_12 q1_13 q1_14 v_t_reader_length q1_1 q1_2 q1_3 q1_4 q1_5 q1_6 g_t_reader_text v_t_laws_scribes v_t_laws_books g_t_laws_made v_t_standing_known g_t_standing_rows v_t_margins_size a_t_draft a_t_house) H := hP
    have hD : va_D A (wd_X8_house cs a_t a_t_house a_t_draft a_t_reader a_t_laws a_t_standing a_t_imageZero a_t_imageOne a_t_rounds a_t_ways a_t_margins a_t_marks a_t_draft_turn a_t_draft_bent a_t_reader_text a_t_laws_made a_t_standing_rows a_t_margins_of a_t_margins_said r_t_standing_rows v_t_keptZero v_t_keptOne v_t_target q1_7 q1_8 q1_9 q1_10 q1_11 q1_12 q1_13 q1_14 v_t_reader_length q1_1 q1_2 q1_3 q1_4 q1_5 q1_6 g_t_reader_text v_t_laws_scribes v_t_laws_books g_t_laws_made v_t_standing_known g_t_standing_rows v_t_margins_size a_t_draft a_t_house) := hD
    refine lv_aload_n hx hb dX8_house_36 rfl (lv_at hl 2 rfl) ?_
    refine va_get (D := G) (ci := 8) (v := .ref a_t_reader) (C := RX8) (T := TX8) (N := 14) hx hb hg inX8 hown hKT hP 0 rfl rfl 2 (by decide) (hg _ gF_X8_22) (fun _ h9 => h9) rfl dX8_house_37 ?_
    obtain ⟨⟨q3_0, q3_1⟩, hq3, hB⟩ := bnd hB
    refine kw_i (WC := wd_X4_empty cs a_t_reader a_t_reader_text v_t_reader_length q1_1 q1_2 q1_3 q1_4 q1_5 q1_6) (W1 := wd_X4_empty cs a_t_reader a_t_reader_text q3_1 q1_1 q1_2 q1_3 q1_4 q1_5 q1_6) (W2 := wd_X8_house cs a_t a_t_house a_t_draft a_t_reader a_t_laws a_t_standing a_t_imageZero a_t_imageOne a_t_rounds a_t_ways a_t_margins a_t_marks a_t_draft_turn a_t_draft_bent a_t_reader_text a_t_laws_made a_t_standing_rows a_t_margins_of a_t_margins_said r_t_standing_rows v_t_keptZero v_t_keptOne v_t_target q1_7 q1_8 q1_9 q1_10 q1_11 q1_12 q1_13 q1_14 q3_1 q1_1 q1_2 q1_3 q1_4 q1_5 q1_6 g_t_reader_text v_t_laws_scribes v_t_laws_books g_t_laws_made v_t_standing_known g_t_standing_rows v_t_margins_size a_t_draft a_t_house) (r0 := q3_0) (rw_VN (As := []) (rest := []) ⟨hx, hb, hml, hown, hg⟩ (k_X4_empty l G cs a_t_reader a_t_reader_text v_t_reader_length q1_1 q1_2 q1_3 q1_4 q1_5 q1_6 H.size (q3_0, q3_1) hq3) nM_X8_84_l mI_X4_empty (rmk rfl) hP hD hKT hN 4 rfl rfl [4] rfl rfl rfl hl.1 rfl (Nat.le_of_ble_eq_true rfl) dX8_house_40) hP hD hS hA [4] [0, 1, 2, 3, 5, 6, 7, 8, 9, 10, 11, 12, 13, 14, 15, 16, 17, 18, 19, 20, 21] [0, 1, 2, 3, 21, 4, 5, 6, 7, 8, 9, 10, 11, 12, 13, 14, 15, 16, 17, 18, 19, 20] ⟨rfl, rfl, rfl, rfl, rfl, rfl, rfl⟩ (fun H locs hP hD hS => ?_)
    refine lv_pop hx hb dX8_house_43 rfl ?_
    refine lv_aload_n hx hb dX8_house_44 rfl (lv_at hl 2 rfl) ?_
    refine va_get (D := G) (ci := 8) (v := .ref a_t_laws) (C := RX8) (T := TX8) (N := 14) hx hb hg inX8 hown hKT hP 0 rfl rfl 3 (by decide) (hg _ gF_X8_29) (fun _ h9 => h9) rfl dX8_house_45 ?_
    refine lv_aload_n hx hb dX8_house_48 rfl (lv_at hl 2 rfl) ?_
    refine va_get (D := G) (ci := 8) (v := .ref a_t_draft) (C := RX8) (T := TX8) (N := 14) hx hb hg inX8 hown hKT hP 0 rfl rfl 0 (by decide) (hg _ gF_X8_10) (fun _ h9 => h9) rfl dX8_house_49 ?_
    obtain ⟨⟨q4_0, q4_1, q4_2⟩, hq4, hB⟩ := bnd hB
    refine kw_v (WC := wd_X1_learn cs a_t_laws a_t_laws_made a_t_draft a_t_draft_turn a_t_draft_bent v_t_laws_scribes v_t_laws_books g_t_laws_made q1_7 q1_8 q1_9 q1_10 q1_11 q1_12 q1_13 q1_14) (W1 := wd_X1_learn cs a_t_laws a_t_laws_made a_t_draft a_t_draft_turn a_t_draft_bent q4_0 q4_1 q4_2 q1_7 q1_8 q1_9 q1_10 q1_11 q1_12 q1_13 q1_14) (W2 := wd_X8_house cs a_t a_t_house a_t_draft a_t_reader a_t_laws a_t_standing a_t_imageZero a_t_imageOne a_t_rounds a_t_ways a_t_margins a_t_marks a_t_draft_turn a_t_draft_bent a_t_reader_text a_t_laws_made a_t_standing_rows a_t_margins_of a_t_margins_said r_t_standing_rows v_t_keptZero v_t_keptOne v_t_target q1_7 q1_8 q1_9 q1_10 q1_11 q1_12 q1_13 q1_14 q3_1 q1_1 q1_2 q1_3 q1_4 q1_5 q1_6 g_t_reader_text q4_0 q4_1 q4_2 v_t_standing_known g_t_standing_rows v_t_margins_size a_t_draft a_t_house) (rw_VN (As := [.ref a_t_draft]) (rest := []) ⟨hx, hb, hml, hown, hg⟩ (k_X1_learn l G cs a_t_laws a_t_laws_made a_t_draft a_t_draft_turn a_t_draft_bent v_t_laws_scribes v_t_laws_books g_t_laws_made q1_7 q1_8 q1_9 q1_10 q1_11 q1_12 q1_13 q1_14 H.size (q4_0, q4_1, q4_2) hq4) nM_X8_92_l mI_X1_learn (rmk rfl) hP hD hKT hN 6 rfl rfl [6, 7, 1, 2, 3] rfl rfl rfl hl.1 rfl (Nat.le_of_ble_eq_true rfl) dX8_house_52) hP hD hS hA [6, 7, 1, 2, 3] [0, 4, 5, 8, 9, 10, 11, 12, 13, 14, 15, 16, 17, 18, 19, 20, 21] [0, 19, 20, 21, 1, 2, 17, 18, 3, 4, 5, 6, 7, 8, 9, 10, 11, 12, 13, 14, 15, 16] ⟨rfl, rfl, rfl, rfl, rfl, rfl, rfl⟩ (fun H locs hP hD hS => ?_)
    refine lv_aload_n hx hb dX8_house_55 rfl (lv_at hl 2 rfl) ?_
    refine va_get (D := G) (ci := 8) (v := .ref a_t_standing) (C := RX8) (T := TX8) (N := 14) hx hb hg inX8 hown hKT hP 0 rfl rfl 4 (by decide) (hg _ gF_X8_36) (fun _ h9 => h9) rfl dX8_house_56 ?_
    refine lv_aload_n hx hb dX8_house_59 rfl (lv_at hl 2 rfl) ?_
    refine va_get (D := G) (ci := 8) (v := .ref a_t_draft) (C := RX8) (T := TX8) (N := 14) hx hb hg inX8 hown hKT hP 0 rfl rfl 0 (by decide) (hg _ gF_X8_10) (fun _ h9 => h9) rfl dX8_house_60 ?_
    refine va_getN (D := G) (ci := 0) (v := .int q1_10) (C := RX0) (T := TX0) (N := 8) hx hb hg inX0 hown hKT hP 1 rfl rfl 3 (by decide) (va_Nw.use rfl (hN _ nF_X8_96_l rfl)) (fun _ h9 => h9) rfl dX8_house_63 ?_
    obtain ⟨⟨q5_0, q5_1⟩, hq5, hB⟩ := bnd hB
    refine kw_v (WC := wd_X6_begin cs a_t_standing a_t_standing_rows r_t_standing_rows v_t_standing_known g_t_standing_rows) (W1 := wd_X6_begin cs a_t_standing a_t_standing_rows r_t_standing_rows q5_0 q5_1) (W2 := wd_X8_house cs a_t a_t_house a_t_draft a_t_reader a_t_laws a_t_standing a_t_imageZero a_t_imageOne a_t_rounds a_t_ways a_t_margins a_t_marks a_t_draft_turn a_t_draft_bent a_t_reader_text a_t_laws_made a_t_standing_rows a_t_margins_of a_t_margins_said r_t_standing_rows v_t_keptZero v_t_keptOne v_t_target q1_7 q1_8 q1_9 q1_10 q1_11 q1_12 q1_13 q1_14 q3_1 q1_1 q1_2 q1_3 q1_4 q1_5 q1_6 g_t_reader_text q4_0 q4_1 q4_2 q5_0 q5_1 v_t_margins_size a_t_draft a_t_house) (rw_VN (As := [.int q1_10]) (rest := []) ⟨hx, hb, hml, hown, hg⟩ (k_X6_begin l G cs a_t_standing a_t_standing_rows r_t_standing_rows v_t_standing_known g_t_standing_rows q1_10 H.size (q5_0, q5_1) hq5) nM_X8_99_l mI_X6_begin (rmk rfl) hP hD hKT hN 8 rfl rfl [8, 9, 10, 11, 12, 13, 14, 15, 16, 17, 18, 19, 20] rfl rfl rfl hl.1 rfl (Nat.le_of_ble_eq_true rfl) dX8_house_66) hP hD hS hA [8, 9, 10, 11, 12, 13, 14, 15, 16, 17, 18, 19, 20] [0, 1, 2, 3, 4, 5, 6, 7, 21] [0, 1, 2, 3, 4, 5, 6, 7, 9, 10, 11, 12, 13, 14, 15, 16, 17, 18, 19, 20, 21, 8] ⟨rfl, rfl, rfl, rfl, rfl, rfl, rfl⟩ (fun H locs hP hD hS => ?_)
    refine lv_aload_n hx hb dX8_house_69 rfl (lv_at hl 2 rfl) ?_
    refine lv_aload_n hx hb dX8_house_70 rfl (lv_at hl 2 rfl) ?_
    refine va_get (D := G) (ci := 8) (v := .ref a_t_draft) (C := RX8) (T := TX8) (N := 14) hx hb hg inX8 hown hKT hP 0 rfl rfl 0 (by decide) (hg _ gF_X8_10) (fun _ h9 => h9) rfl dX8_house_71 ?_
    refine va_getN (D := G) (ci := 0) (v := .int q1_10) (C := RX0) (T := TX0) (N := 8) hx hb hg inX0 hown hKT hP 1 rfl rfl 3 (by decide) (va_Nw.use rfl (hN _ nF_X8_96_l rfl)) (fun _ h9 => h9) rfl dX8_house_74 ?_
    refine va_put (D := G) (ci := 8) (v := .int q1_10) (ty := .int) (C := RX8) (T := TX8) (N := 14) hx hb hg inX8 tyX8 tyX8_ok nmX8 hown hKT hP hD hS 0 rfl rfl 9 (by decide) (hg _ gF_X8_103) (fun _ h9 => h9) rfl (by decide +kernel) rfl rfl (Nat.le_of_ble_eq_true rfl) dX8_house_77 (fun H locs hP hD hS => ?_)
    have hP : va_P G vwCl (wd_X8_house cs a_t a_t_house a_t_draft a_t_reader a_t_laws a_t_standing a_t_imageZero a_t_imageOne a_t_rounds a_t_ways a_t_margins a_t_marks a_t_draft_turn a_t_draft_bent a_t_reader_text a_t_laws_made a_t_standing_rows a_t_margins_of a_t_margins_said r_t_standing_rows v_t_keptZero v_t_keptOne q1_10 q1_7 q1_8 q1_9 q1_10 q1_11 q1_12 q1_13 q1_14 q3_1 q1_1 q1_2 q1_3 q1_4 q1_5 q1_6 g_t_reader_text q4_0 q4_1 q4_2 q5_0 q5_1 v_t_margins_size a_t_draft a_t_house) H := hP
    have hD : va_D A (wd_X8_house cs a_t a_t_house a_t_draft a_t_reader a_t_laws a_t_standing a_t_imageZero a_t_imageOne a_t_rounds a_t_ways a_t_margins a_t_marks a_t_draft_turn a_t_draft_bent a_t_reader_text a_t_laws_made a_t_standing_rows a_t_margins_of a_t_margins_said r_t_standing_rows v_t_keptZero v_t_keptOne q1_10 q1_7 q1_8 q1_9 q1_10 q1_11 q1_12 q1_13 q1_14 q3_1 q1_1 q1_2 q1_3 q1_4 q1_5 q1_6 g_t_reader_text q4_0 q4_1 q4_2 q5_0 q5_1 v_t_margins_size a_t_draft a_t_house) := hD
    refine lv_aload_n hx hb dX8_house_80 rfl (lv_at hl 2 rfl) ?_
    refine va_get (D := G) (ci := 8) (v := .ref a_t_margins) (C := RX8) (T := TX8) (N := 14) hx hb hg inX8 hown hKT hP 0 rfl rfl 12 (by decide) (hg _ gF_X8_65) (fun _ h9 => h9) rfl dX8_house_81 ?_
    obtain ⟨⟨q6_0, q6_1⟩, hq6, hB⟩ := bnd hB
    refine kw_i (WC := wd_X2_empty cs a_t_margins a_t_margins_of a_t_margins_said v_t_margins_size) (W1 := wd_X2_empty cs a_t_margins a_t_margins_of a_t_margins_said q6_1) (W2 := wd_X8_house cs a_t a_t_house a_t_draft a_t_reader a_t_laws a_t_standing a_t_imageZero a_t_imageOne a_t_rounds a_t_ways a_t_margins a_t_marks a_t_draft_turn a_t_draft_bent a_t_reader_text a_t_laws_made a_t_standing_rows a_t_margins_of a_t_margins_said r_t_standing_rows v_t_keptZero v_t_keptOne q1_10 q1_7 q1_8 q1_9 q1_10 q1_11 q1_12 q1_13 q1_14 q3_1 q1_1 q1_2 q1_3 q1_4 q1_5 q1_6 g_t_reader_text q4_0 q4_1 q4_2 q5_0 q5_1 q6_1 a_t_draft a_t_house) (r0 := q6_0) (rw_VN (As := []) (rest := []) ⟨hx, hb, hml, hown, hg⟩ (k_X2_empty l G cs a_t_margins a_t_margins_of a_t_margins_said v_t_margins_size H.size (q6_0, q6_1) hq6) nM_X8_106_l mI_X2_empty (rmk rfl) hP hD hKT hN 21 rfl rfl [21] rfl rfl rfl hl.1 rfl (Nat.le_of_ble_eq_true rfl) dX8_house_84) hP hD hS hA [21] [0, 1, 2, 3, 4, 5, 6, 7, 8, 9, 10, 11, 12, 13, 14, 15, 16, 17, 18, 19, 20] [0, 1, 2, 3, 4, 5, 6, 7, 8, 9, 10, 11, 12, 13, 14, 15, 16, 17, 18, 19, 20, 21] ⟨rfl, rfl, rfl, rfl, rfl, rfl, rfl⟩ (fun H locs hP hD hS => ?_)
    refine lv_pop hx hb dX8_house_87 rfl ?_
    refine lv_aload_n hx hb dX8_house_88 rfl (lv_at hl 2 rfl) ?_
    refine lv_iconst (v := 0) hx hb dX8_house_89 (by decide) ?_
    refine va_put (D := G) (ci := 8) (v := .int (0 : Int32)) (ty := .boolean) (C := RX8) (T := TX8) (N := 14) hx hb hg inX8 tyX8 tyX8_ok nmX8 hown hKT hP hD hS 0 rfl rfl 7 (by decide) (hg _ gF_X8_107) (fun _ h9 => h9) rfl (by decide +kernel) rfl rfl (Nat.le_of_ble_eq_true rfl) dX8_house_90 (fun H locs hP hD hS => ?_)
    have hP : va_P G vwCl (wd_X8_house cs a_t a_t_house a_t_draft a_t_reader a_t_laws a_t_standing a_t_imageZero a_t_imageOne a_t_rounds a_t_ways a_t_margins a_t_marks a_t_draft_turn a_t_draft_bent a_t_reader_text a_t_laws_made a_t_standing_rows a_t_margins_of a_t_margins_said r_t_standing_rows (0 : Int32) v_t_keptOne q1_10 q1_7 q1_8 q1_9 q1_10 q1_11 q1_12 q1_13 q1_14 q3_1 q1_1 q1_2 q1_3 q1_4 q1_5 q1_6 g_t_reader_text q4_0 q4_1 q4_2 q5_0 q5_1 q6_1 a_t_draft a_t_house) H := hP
    have hD : va_D A (wd_X8_house cs a_t a_t_house a_t_draft a_t_reader a_t_laws a_t_standing a_t_imageZero a_t_imageOne a_t_rounds a_t_ways a_t_margins a_t_marks a_t_draft_turn a_t_draft_bent a_t_reader_text a_t_laws_made a_t_standing_rows a_t_margins_of a_t_margins_said r_t_standing_rows (0 : Int32) v_t_keptOne q1_10 q1_7 q1_8 q1_9 q1_10 q1_11 q1_12 q1_13 q1_14 q3_1 q1_1 q1_2 q1_3 q1_4 q1_5 q1_6 g_t_reader_text q4_0 q4_1 q4_2 q5_0 q5_1 q6_1 a_t_draft a_t_house) := hD
    refine lv_aload_n hx hb dX8_house_93 rfl (lv_at hl 2 rfl) ?_
    refine lv_iconst (v := 0) hx hb dX8_house_94 (by decide) ?_
    refine va_put (D := G) (ci := 8) (v := .int (0 : Int32)) (ty := .boolean) (C := RX8) (T := TX8) (N := 14) hx hb hg inX8 tyX8 tyX8_ok nmX8 hown hKT hP hD hS 0 rfl rfl 8 (by decide) (hg _ gF_X8_111) (fun _ h9 => h9) rfl (by decide +kernel) rfl rfl (Nat.le_of_ble_eq_true rfl) dX8_house_95 (fun H locs hP hD hS => ?_)
    have hP : va_P G vwCl (wd_X8_house cs a_t a_t_house a_t_draft a_t_reader a_t_laws a_t_standing a_t_imageZero a_t_imageOne a_t_rounds a_t_ways a_t_margins a_t_marks a_t_draft_turn a_t_draft_bent a_t_reader_text a_t_laws_made a_t_standing_rows a_t_margins_of a_t_margins_said r_t_standing_rows (0 : Int32) (0 : Int32) q1_10 q1_7 q1_8 q1_9 q1_10 q1_11 q1_12 q1_13 q1_14 q3_1 q1_1 q1_2 q1_3 q1_4 q1_5 q1_6 g_t_reader_text q4_0 q4_1 q4_2 q5_0 q5_1 q6_1 a_t_draft a_t_house) H := hP
    have hD : va_D A (wd_X8_house cs a_t a_t_house a_t_draft a_t_reader a_t_laws a_t_standing a_t_imageZero a_t_imageOne a_t_rounds a_t_ways a_t_margins a_t_marks a_t_draft_turn a_t_draft_bent a_t_reader_text a_t_laws_made a_t_standing_rows a_t_margins_of a_t_margins_said r_t_standing_rows (0 : Int32) (0 : Int32) q1_10 q1_7 q1_8 q1_9 q1_10 q1_11 q1_12 q1_13 q1_14 q3_1 q1_1 q1_2 q1_3 q1_4 q1_5 q1_6 g_t_reader_text q4_0 q4_1 q4_2 q5_0 q5_1 q6_1 a_t_draft a_t_house) := hD
    refine lv_iload_n hx hb dX8_house_98 rfl (lv_at hl 1 rfl) ?_
    have hK := leafK hB hK
    have hK : (q1_0, (0 : Int32), (0 : Int32), q1_10, q1_7, q1_8, q1_9, q1_10, q1_11, q1_12, q1_13, q1_14, q3_1, q1_1, q1_2, q1_3, q1_4, q1_5, q1_6, q4_0, q4_1, q4_2, q5_0, q5_1, q6_1, a_t_draft, a_t_house) = R0 := hK
    subst hK
    exact W.iret (v := q1_0) hx hb hr (fun t ht hW => ⟨⟨_, (), rfl, rfl, by rw [ht]; exact hP, hD⟩, hS.F ht⟩) hS.2.2 dX8_house_99
  · have hB := ifN c_2 hB
    refine lv_iload_n hx hb dX8_house_16 rfl (lv_at hl 0 rfl) ?_
    have hK := leafK hB hK
    have hK : (q1_0, v_t_keptZero, v_t_keptOne, v_t_target, q1_7, q1_8, q1_9, q1_10, q1_11, q1_12, q1_13, q1_14, v_t_reader_length, q1_1, q1_2, q1_3, q1_4, q1_5, q1_6, v_t_laws_scribes, v_t_laws_books, g_t_laws_made, v_t_standing_known, g_t_standing_rows, v_t_margins_size, a_t_house, a_t_draft) = R0 := hK
    subst hK
    exact W.iret (v := q1_0) hx hb hr (fun t ht hW => ⟨⟨_, (), rfl, rfl, by rw [ht]; exact hP, hD⟩, hS.F ht⟩) hS.2.2 dX8_house_17
def wd_X8_line (cs : Nat → ClassId) (a_t a_t_house a_t_draft a_t_reader a_t_laws a_t_standing a_t_imageZero a_t_imageOne a_t_rounds a_t_ways a_t_margins a_t_marks a_t_house_turn a_t_house_bent a_t_standing_rows : Nat) (r_t_standing_rows : Nat → Nat) (v_t_keptZero : Int32) (v_t_keptOne : Int32) (v_t_target : Int32) (v_t_house_opinions : Int32) (v_t_house_lines : Int32) (v_t_house_books : Int32) (v_t_house_told : Int32) (v_t_house_scribes : Int32) (v_t_house_need : Int32) (v_t_standing_known : Int32) (g_t_standing_rows : Nat → Nat → Int32) : va_W := (a_t, .inr (8, [.ref a_t_house, .ref a_t_draft, .ref a_t_reader, .ref a_t_laws, .ref a_t_standing, .ref a_t_imageZero, .ref a_t_imageOne, .int v_t_keptZero, .int v_t_keptOne, .int v_t_target, .ref a_t_rounds, .ref a_t_ways, .ref a_t_margins, .ref a_t_marks])) :: (a_t_house, .inr (0, [.int v_t_house_opinions, .int v_t_house_lines, .int v_t_house_books, .int v_t_house_told, .int v_t_house_scribes, .int v_t_house_need, .ref a_t_house_turn, .ref a_t_house_bent])) :: (a_t_standing, .inr (6, [.ref a_t_standing_rows, .int v_t_standing_known])) :: (a_t_standing_rows, .inl (cs 3, 11, .inr (.inr (.inr (.inr (gO r_t_standing_rows)))))) :: gR (cs 0) r_t_standing_rows g_t_standing_rows
def rm_X8_line : Room := { frames := 2, cells := 0, slots := 0, locals := 46 }
theorem mI_X8_line : MI yX8_line RX8 cX8_line 3 (some .int) 2 := ⟨gI_X8_line, gE_X8_line, gN_X8, gC_X8_line, by decide +kernel⟩
set_option maxHeartbeats 4000000 in
set_option maxRecDepth 100000 in
theorem k_X8_line (l : Launch) (G : va_G) (cs : Nat → ClassId) (a_t a_t_house a_t_draft a_t_reader a_t_laws a_t_standing a_t_imageZero a_t_imageOne a_t_rounds a_t_ways a_t_margins a_t_marks a_t_house_turn a_t_house_bent a_t_standing_rows : Nat) (r_t_standing_rows : Nat → Nat) (v_t_keptZero : Int32) (v_t_keptOne : Int32) (v_t_target : Int32) (v_t_house_opinions : Int32) (v_t_house_lines : Int32) (v_t_house_books : Int32) (v_t_house_told : Int32) (v_t_house_scribes : Int32) (v_t_house_need : Int32) (v_t_standing_known : Int32) (g_t_standing_rows : Nat → Nat → Int32) (p1 p2 : Int32) (R0 : Int32) (hB : f_X8_line v_t_target v_t_house_opinions v_t_house_lines v_t_standing_known g_t_standing_rows p1 p2 = some R0) : Met l yX8_line (.code yX8_line cX8_line 3 (some .int) :: GW) rm_X8_line (PcR G cs [.ref a_t, .int p1, .int p2] (wd_X8_line cs a_t a_t_house a_t_draft a_t_reader a_t_laws a_t_standing a_t_imageZero a_t_imageOne a_t_rounds a_t_ways a_t_margins a_t_marks a_t_house_turn a_t_house_bent a_t_standing_rows r_t_standing_rows v_t_keptZero v_t_keptOne v_t_target v_t_house_opinions v_t_house_lines v_t_house_books v_t_house_told v_t_house_scribes v_t_house_need v_t_standing_known g_t_standing_rows)) (vp_Si (fun r => r = R0)) 0 0 (fun _ => False) := by
  refine Met.ofW (cc := cX8_line) (maxL := 3) (ret := (some .int)) (by decide) rfl ?_
  intro p e s m args below meth c s₁ B hml hv
  obtain ⟨rfl, hP, hK, hN⟩ := hv
  have hx := B.exec
  have hb := B.bytes
  have hr := B.returns
  have hts := atoms_spec (ws := .code yX8_line cX8_line 3 (some .int) :: GW) B.pre
  have hg : ∀ w ∈ GW, w.before _ s = true := fun w h => hts w (List.mem_cons_of_mem _ h)
  have hown : s.vm.findClass RX8 = some m.cls := findClass_of_methodNamed B.named
  have hlocks := B.notSynchronized
  have hl := lv_entry ([.ref a_t, .int p1, .int p2]) (n := 3) (Nat.le_of_ble_eq_true rfl)
  rw [lg_entry_eq]
  generalize (lg_sl ([.ref a_t, .int p1, .int p2]) ++ List.replicate (3 - (lg_sl ([.ref a_t, .int p1, .int p2])).length) Slot.unset).toArray = ls at hl ⊢
  have hl : lv_has ls 3 [(0, .ref a_t), (1, .int p1), (2, .int p2)] := hl
  obtain ⟨y, hB, hK0⟩ : ∃ y, f_X8_line v_t_target v_t_house_opinions v_t_house_lines v_t_standing_known g_t_standing_rows p1 p2 = some y ∧ KEnd R0 y := ⟨R0, hB, rfl⟩
  have hKT := hK
  have hK := hK0
  show W p l e rm_X8_line s m ([.ref a_t, .int p1, .int p2] : List Value).toArray below meth c s.heap [] 0 0 (MQ below (vp_Si (fun r => r = R0)) ([.ref a_t, .int p1, .int p2] : List Value).toArray s 0 0 (fun _ => False)) (F0 m 0 ls [])
  refine lv_aload_n hx hb dX8_line_0 rfl (lv_at hl 0 rfl) ?_
  refine va_get (D := G) (ci := 8) (v := .ref a_t_house) (C := RX8) (T := TX8) (N := 14) hx hb hg inX8 hown hKT hP 0 rfl rfl 0 (by decide) (hg _ gF_X8_10) (fun _ h9 => h9) rfl dX8_line_1 ?_
  refine lv_iload_n hx hb dX8_line_4 rfl (lv_at hl 1 rfl) ?_
  obtain ⟨q1, hq1, hB⟩ := bnd hB
  refine kr_VN (WC := wd_X0_hasLine cs a_t_house a_t_house_turn a_t_house_bent v_t_house_opinions v_t_house_lines v_t_house_books v_t_house_told v_t_house_scribes v_t_house_need) (As := [.int p1]) (rest := []) (r0 := q1) ⟨hx, hb, hml, hown, hg⟩ (k_X0_hasLine l G cs a_t_house a_t_house_turn a_t_house_bent v_t_house_opinions v_t_house_lines v_t_house_books v_t_house_told v_t_house_scribes v_t_house_need p1 q1 hq1) nM_X8_114_l mI_X0_hasLine (rmk rfl) hP hKT hN 1 rfl rfl [1] rfl rfl hl.1 rfl (Nat.le_of_ble_eq_true rfl) dX8_line_5 ?_
  refine lv_if_eq (tgt := 20) hx hb dX8_line_8 (by decide) (fun c_2 => ?_) (fun c_2 => ?_)
  · have hB := ifP c_2 hB
    refine lv_iconst (v := -1) hx hb dX8_line_20 (by decide) ?_
    have hK := leafK hB hK
    have hK : (-1 : Int32) = R0 := hK
    subst hK
    exact W.iret (v := (-1 : Int32)) hx hb hr (fun t ht hW => ⟨_, rfl, rfl, ht⟩) (fun _ h => by cases h) dX8_line_21
  · have hB := ifN c_2 hB
    refine lv_iload_n hx hb dX8_line_11 rfl (lv_at hl 2 rfl) ?_
    refine lv_if_lt (tgt := 20) hx hb dX8_line_12 (by decide) (fun c_3 => ?_) (fun c_3 => ?_)
    · have hB := ifP c_3 hB
      refine lv_iconst (v := -1) hx hb dX8_line_20 (by decide) ?_
      have hK := leafK hB hK
      have hK : (-1 : Int32) = R0 := hK
      subst hK
      exact W.iret (v := (-1 : Int32)) hx hb hr (fun t ht hW => ⟨_, rfl, rfl, ht⟩) (fun _ h => by cases h) dX8_line_21
    · have hB := ifN c_3 hB
      refine lv_iload_n hx hb dX8_line_15 rfl (lv_at hl 2 rfl) ?_
      refine lv_iconst (v := 1) hx hb dX8_line_16 (by decide) ?_
      refine lv_icmp_le (tgt := 22) hx hb dX8_line_17 (by decide) (fun c_4 => ?_) (fun c_4 => ?_)
      · have hB := ifP c_4 hB
        refine lv_aload_n hx hb dX8_line_22 rfl (lv_at hl 0 rfl) ?_
        refine va_get (D := G) (ci := 8) (v := .ref a_t_house) (C := RX8) (T := TX8) (N := 14) hx hb hg inX8 hown hKT hP 0 rfl rfl 0 (by decide) (hg _ gF_X8_10) (fun _ h9 => h9) rfl dX8_line_23 ?_
        refine lv_iload_n hx hb dX8_line_26 rfl (lv_at hl 2 rfl) ?_
        refine lv_if_ne (tgt := 40) hx hb dX8_line_27 (by decide) (fun c_5 => ?_) (fun c_5 => ?_)
        · have hB := ifN c_5 hB
          refine lv_aload_n hx hb dX8_line_40 rfl (lv_at hl 0 rfl) ?_
          refine va_get (D := G) (ci := 8) (v := .int v_t_target) (C := RX8) (T := TX8) (N := 14) hx hb hg inX8 hown hKT hP 0 rfl rfl 9 (by decide) (hg _ gF_X8_103) (fun _ h9 => h9) rfl dX8_line_41 ?_
          refine lv_iload_n hx hb dX8_line_44 rfl (lv_at hl 1 rfl) ?_
          obtain ⟨q6, hq6, hB⟩ := bnd hB
          refine kr_VN (WC := wd_X0_lineOf cs a_t_house a_t_house_turn a_t_house_bent v_t_house_opinions v_t_house_lines v_t_house_books v_t_house_told v_t_house_scribes v_t_house_need) (As := [.int v_t_target, .int p1]) (rest := []) (r0 := q6) ⟨hx, hb, hml, hown, hg⟩ (k_X0_lineOf l G cs a_t_house a_t_house_turn a_t_house_bent v_t_house_opinions v_t_house_lines v_t_house_books v_t_house_told v_t_house_scribes v_t_house_need v_t_target p1 q6 hq6) nM_X8_120_l mI_X0_lineOf (rmk rfl) hP hKT hN 1 rfl rfl [1] rfl rfl hl.1 rfl (Nat.le_of_ble_eq_true rfl) dX8_line_45 ?_
          have hK := leafK hB hK
          have hK : q6 = R0 := hK
          subst hK
          exact W.iret (v := q6) hx hb hr (fun t ht hW => ⟨_, rfl, rfl, ht⟩) (fun _ h => by cases h) dX8_line_48
        · have hB := ifP c_5 hB
          refine lv_aload_n hx hb dX8_line_30 rfl (lv_at hl 0 rfl) ?_
          refine va_get (D := G) (ci := 8) (v := .ref a_t_standing) (C := RX8) (T := TX8) (N := 14) hx hb hg inX8 hown hKT hP 0 rfl rfl 4 (by decide) (hg _ gF_X8_36) (fun _ h9 => h9) rfl dX8_line_31 ?_
          obtain ⟨q7, hq7, hB⟩ := bnd hB
          refine kr_VN (WC := wd_X6_book cs a_t_standing a_t_standing_rows r_t_standing_rows v_t_standing_known g_t_standing_rows) (As := []) (rest := [.ref a_t_house]) (r0 := q7) ⟨hx, hb, hml, hown, hg⟩ (k_X6_book l G cs a_t_standing a_t_standing_rows r_t_standing_rows v_t_standing_known g_t_standing_rows q7 hq7) nM_X8_117_l mI_X6_book (rmk rfl) hP hKT hN 2 rfl rfl [2, 3, 4, 5, 6, 7, 8, 9, 10, 11, 12, 13, 14] rfl rfl hl.1 rfl (Nat.le_of_ble_eq_true rfl) dX8_line_34 ?_
          refine lv_goto (tgt := 44) hx hb dX8_line_37 (by decide) ?_
          refine lv_iload_n hx hb dX8_line_44 rfl (lv_at hl 1 rfl) ?_
          obtain ⟨q8, hq8, hB⟩ := bnd hB
          refine kr_VN (WC := wd_X0_lineOf cs a_t_house a_t_house_turn a_t_house_bent v_t_house_opinions v_t_house_lines v_t_house_books v_t_house_told v_t_house_scribes v_t_house_need) (As := [.int q7, .int p1]) (rest := []) (r0 := q8) ⟨hx, hb, hml, hown, hg⟩ (k_X0_lineOf l G cs a_t_house a_t_house_turn a_t_house_bent v_t_house_opinions v_t_house_lines v_t_house_books v_t_house_told v_t_house_scribes v_t_house_need q7 p1 q8 hq8) nM_X8_120_l mI_X0_lineOf (rmk rfl) hP hKT hN 1 rfl rfl [1] rfl rfl hl.1 rfl (Nat.le_of_ble_eq_true rfl) dX8_line_45 ?_
          have hK := leafK hB hK
          have hK : q8 = R0 := hK
          subst hK
          exact W.iret (v := q8) hx hb hr (fun t ht hW => ⟨_, rfl, rfl, ht⟩) (fun _ h => by cases h) dX8_line_48
      · have hB := ifN c_4 hB
        refine lv_iconst (v := -1) hx hb dX8_line_20 (by decide) ?_
        have hK := leafK hB hK
        have hK : (-1 : Int32) = R0 := hK
        subst hK
        exact W.iret (v := (-1 : Int32)) hx hb hr (fun t ht hW => ⟨_, rfl, rfl, ht⟩) (fun _ h => by cases h) dX8_line_21
def wd_X8_scribe (cs : Nat → ClassId) (a_t a_t_house a_t_draft a_t_reader a_t_laws a_t_standing a_t_imageZero a_t_imageOne a_t_rounds a_t_ways a_t_margins a_t_marks a_t_house_turn a_t_house_bent a_t_standing_rows : Nat) (r_t_standing_rows : Nat → Nat) (v_t_keptZero : Int32) (v_t_keptOne : Int32) (v_t_target : Int32) (v_t_house_opinions : Int32) (v_t_house_lines : Int32) (v_t_house_books : Int32) (v_t_house_told : Int32) (v_t_house_scribes : Int32) (v_t_house_need : Int32) (g_t_house_turn : Nat → Int32) (g_t_house_bent : Nat → Int32) (v_t_standing_known : Int32) (g_t_standing_rows : Nat → Nat → Int32) : va_W := (a_t, .inr (8, [.ref a_t_house, .ref a_t_draft, .ref a_t_reader, .ref a_t_laws, .ref a_t_standing, .ref a_t_imageZero, .ref a_t_imageOne, .int v_t_keptZero, .int v_t_keptOne, .int v_t_target, .ref a_t_rounds, .ref a_t_ways, .ref a_t_margins, .ref a_t_marks])) :: (a_t_house, .inr (0, [.int v_t_house_opinions, .int v_t_house_lines, .int v_t_house_books, .int v_t_house_told, .int v_t_house_scribes, .int v_t_house_need, .ref a_t_house_turn, .ref a_t_house_bent])) :: (a_t_house_turn, .inl (cs 0, 6, .inl g_t_house_turn)) :: (a_t_house_bent, .inl (cs 0, 6, .inl g_t_house_bent)) :: (a_t_standing, .inr (6, [.ref a_t_standing_rows, .int v_t_standing_known])) :: (a_t_standing_rows, .inl (cs 3, 11, .inr (.inr (.inr (.inr (gO r_t_standing_rows)))))) :: gR (cs 0) r_t_standing_rows g_t_standing_rows
def rm_X8_scribe : Room := { frames := 5, cells := 0, slots := 0, locals := 114 }
theorem mI_X8_scribe : MI yX8_scribe RX8 cX8_scribe 4 (some .int) 2 := ⟨gI_X8_scribe, gE_X8_scribe, gN_X8, gC_X8_scribe, by decide +kernel⟩
set_option maxHeartbeats 4000000 in
set_option maxRecDepth 100000 in
theorem k_X8_scribe (l : Launch) (G : va_G) (cs : Nat → ClassId) (a_t a_t_house a_t_draft a_t_reader a_t_laws a_t_standing a_t_imageZero a_t_imageOne a_t_rounds a_t_ways a_t_margins a_t_marks a_t_house_turn a_t_house_bent a_t_standing_rows : Nat) (r_t_standing_rows : Nat → Nat) (v_t_keptZero : Int32) (v_t_keptOne : Int32) (v_t_target : Int32) (v_t_house_opinions : Int32) (v_t_house_lines : Int32) (v_t_house_books : Int32) (v_t_house_told : Int32) (v_t_house_scribes : Int32) (v_t_house_need : Int32) (g_t_house_turn : Nat → Int32) (g_t_house_bent : Nat → Int32) (v_t_standing_known : Int32) (g_t_standing_rows : Nat → Nat → Int32) (p1 p2 : Int32) (R0 : Int32) (hB : f_X8_scribe v_t_house_opinions v_t_house_lines v_t_house_books v_t_house_scribes v_t_house_need g_t_house_turn g_t_house_bent v_t_standing_known g_t_standing_rows p1 p2 = some R0) : Met l yX8_scribe (.code yX8_scribe cX8_scribe 4 (some .int) :: GW) rm_X8_scribe (PcR G cs [.ref a_t, .int p1, .int p2] (wd_X8_scribe cs a_t a_t_house a_t_draft a_t_reader a_t_laws a_t_standing a_t_imageZero a_t_imageOne a_t_rounds a_t_ways a_t_margins a_t_marks a_t_house_turn a_t_house_bent a_t_standing_rows r_t_standing_rows v_t_keptZero v_t_keptOne v_t_target v_t_house_opinions v_t_house_lines v_t_house_books v_t_house_told v_t_house_scribes v_t_house_need g_t_house_turn g_t_house_bent v_t_standing_known g_t_standing_rows)) (vp_Si (fun r => r = R0)) 0 0 (fun _ => False) := by
  refine Met.ofW (cc := cX8_scribe) (maxL := 4) (ret := (some .int)) (by decide) rfl ?_
  intro p e s m args below meth c s₁ B hml hv
  obtain ⟨rfl, hP, hK, hN⟩ := hv
  have hx := B.exec
  have hb := B.bytes
  have hr := B.returns
  have hts := atoms_spec (ws := .code yX8_scribe cX8_scribe 4 (some .int) :: GW) B.pre
  have hg : ∀ w ∈ GW, w.before _ s = true := fun w h => hts w (List.mem_cons_of_mem _ h)
  have hown : s.vm.findClass RX8 = some m.cls := findClass_of_methodNamed B.named
  have hlocks := B.notSynchronized
  have hl := lv_entry ([.ref a_t, .int p1, .int p2]) (n := 4) (Nat.le_of_ble_eq_true rfl)
  rw [lg_entry_eq]
  generalize (lg_sl ([.ref a_t, .int p1, .int p2]) ++ List.replicate (4 - (lg_sl ([.ref a_t, .int p1, .int p2])).length) Slot.unset).toArray = ls at hl ⊢
  have hl : lv_has ls 4 [(0, .ref a_t), (1, .int p1), (2, .int p2)] := hl
  obtain ⟨y, hB, hK0⟩ : ∃ y, f_X8_scribe v_t_house_opinions v_t_house_lines v_t_house_books v_t_house_scribes v_t_house_need g_t_house_turn g_t_house_bent v_t_standing_known g_t_standing_rows p1 p2 = some y ∧ KEnd R0 y := ⟨R0, hB, rfl⟩
  have hKT := hK
  have hK := hK0
  show W p l e rm_X8_scribe s m ([.ref a_t, .int p1, .int p2] : List Value).toArray below meth c s.heap [] 0 0 (MQ below (vp_Si (fun r => r = R0)) ([.ref a_t, .int p1, .int p2] : List Value).toArray s 0 0 (fun _ => False)) (F0 m 0 ls [])
  refine lv_aload_n hx hb dX8_scribe_0 rfl (lv_at hl 0 rfl) ?_
  refine va_get (D := G) (ci := 8) (v := .ref a_t_house) (C := RX8) (T := TX8) (N := 14) hx hb hg inX8 hown hKT hP 0 rfl rfl 0 (by decide) (hg _ gF_X8_10) (fun _ h9 => h9) rfl dX8_scribe_1 ?_
  refine lv_iload_n hx hb dX8_scribe_4 rfl (lv_at hl 1 rfl) ?_
  obtain ⟨q1, hq1, hB⟩ := bnd hB
  refine kr_VN (WC := wd_X0_hasScribe cs a_t_house a_t_house_turn a_t_house_bent v_t_house_opinions v_t_house_lines v_t_house_books v_t_house_told v_t_house_scribes v_t_house_need) (As := [.int p1]) (rest := []) (r0 := q1) ⟨hx, hb, hml, hown, hg⟩ (k_X0_hasScribe l G cs a_t_house a_t_house_turn a_t_house_bent v_t_house_opinions v_t_house_lines v_t_house_books v_t_house_told v_t_house_scribes v_t_house_need p1 q1 hq1) nM_X8_124_l mI_X0_hasScribe (rmk rfl) hP hKT hN 1 rfl rfl [1] rfl rfl hl.1 rfl (Nat.le_of_ble_eq_true rfl) dX8_scribe_5 ?_
  refine lv_if_ne (tgt := 13) hx hb dX8_scribe_8 (by decide) (fun c_2 => ?_) (fun c_2 => ?_)
  · have hB := ifN c_2 hB
    refine lv_aload_n hx hb dX8_scribe_13 rfl (lv_at hl 0 rfl) ?_
    refine va_get (D := G) (ci := 8) (v := .ref a_t_standing) (C := RX8) (T := TX8) (N := 14) hx hb hg inX8 hown hKT hP 0 rfl rfl 4 (by decide) (hg _ gF_X8_36) (fun _ h9 => h9) rfl dX8_scribe_14 ?_
    obtain ⟨q3, hq3, hB⟩ := bnd hB
    refine kr_VN (WC := wd_X6_book cs a_t_standing a_t_standing_rows r_t_standing_rows v_t_standing_known g_t_standing_rows) (As := []) (rest := []) (r0 := q3) ⟨hx, hb, hml, hown, hg⟩ (k_X6_book l G cs a_t_standing a_t_standing_rows r_t_standing_rows v_t_standing_known g_t_standing_rows q3 hq3) nM_X8_117_l mI_X6_book (rmk rfl) hP hKT hN 4 rfl rfl [4, 5, 6, 7, 8, 9, 10, 11, 12, 13, 14, 15, 16] rfl rfl hl.1 rfl (Nat.le_of_ble_eq_true rfl) dX8_scribe_17 ?_
    refine lv_istore_n (lv' := [(3, .int q3), (0, .ref a_t), (1, .int p1), (2, .int p2)]) hx hb dX8_scribe_20 rfl hl (by decide) rfl (fun ls hl => ?_)
    refine lv_iload_n hx hb dX8_scribe_21 rfl (lv_at hl 3 rfl) ?_
    by_cases c_13_0 : p2 = 0
    · have hB := ifP c_13_0 hB
      refine lv_tableIn (off := 42) (tgt := 64) hx hb dX8_scribe_22 (by rw [c_13_0]; decide) (by rw [c_13_0]; decide) (by rw [c_13_0]; decide) (by decide) ?_
      refine lv_aload_n hx hb dX8_scribe_64 rfl (lv_at hl 1 rfl) ?_
      refine va_get (D := G) (ci := 8) (v := .ref a_t_house) (C := RX8) (T := TX8) (N := 14) hx hb hg inX8 hown hKT hP 0 rfl rfl 0 (by decide) (hg _ gF_X8_10) (fun _ h9 => h9) rfl dX8_scribe_65 ?_
      refine lv_iload_n hx hb dX8_scribe_68 rfl (lv_at hl 2 rfl) ?_
      obtain ⟨q4, hq4, hB⟩ := bnd hB
      refine kr_VN (WC := wd_X0_turnOf cs a_t_house a_t_house_turn a_t_house_bent v_t_house_opinions v_t_house_lines v_t_house_books v_t_house_told v_t_house_scribes v_t_house_need g_t_house_turn) (As := [.int p1]) (rest := []) (r0 := q4) ⟨hx, hb, hml, hown, hg⟩ (k_X0_turnOf l G cs a_t_house a_t_house_turn a_t_house_bent v_t_house_opinions v_t_house_lines v_t_house_books v_t_house_told v_t_house_scribes v_t_house_need g_t_house_turn p1 q4 hq4) nM_X8_127_l mI_X0_turnOf (rmk rfl) hP hKT hN 1 rfl rfl [1, 2] rfl rfl hl.1 rfl (Nat.le_of_ble_eq_true rfl) dX8_scribe_69 ?_
      have hK := leafK hB hK
      have hK : q4 = R0 := hK
      subst hK
      exact W.iret (v := q4) hx hb hr (fun t ht hW => ⟨_, rfl, rfl, ht⟩) (fun _ h => by cases h) dX8_scribe_72
    have hB := ifN c_13_0 hB
    by_cases c_13_1 : p2 = 1
    · have hB := ifP c_13_1 hB
      refine lv_tableIn (off := 51) (tgt := 73) hx hb dX8_scribe_22 (by rw [c_13_1]; decide) (by rw [c_13_1]; decide) (by rw [c_13_1]; decide) (by decide) ?_
      refine lv_aload_n hx hb dX8_scribe_73 rfl (lv_at hl 1 rfl) ?_
      refine va_get (D := G) (ci := 8) (v := .ref a_t_house) (C := RX8) (T := TX8) (N := 14) hx hb hg inX8 hown hKT hP 0 rfl rfl 0 (by decide) (hg _ gF_X8_10) (fun _ h9 => h9) rfl dX8_scribe_74 ?_
      refine lv_iload_n hx hb dX8_scribe_77 rfl (lv_at hl 2 rfl) ?_
      obtain ⟨q5, hq5, hB⟩ := bnd hB
      refine kr_VN (WC := wd_X0_bentOf cs a_t_house a_t_house_turn a_t_house_bent v_t_house_opinions v_t_house_lines v_t_house_books v_t_house_told v_t_house_scribes v_t_house_need g_t_house_bent) (As := [.int p1]) (rest := []) (r0 := q5) ⟨hx, hb, hml, hown, hg⟩ (k_X0_bentOf l G cs a_t_house a_t_house_turn a_t_house_bent v_t_house_opinions v_t_house_lines v_t_house_books v_t_house_told v_t_house_scribes v_t_house_need g_t_house_bent p1 q5 hq5) nM_X8_131_l mI_X0_bentOf (rmk rfl) hP hKT hN 1 rfl rfl [1, 3] rfl rfl hl.1 rfl (Nat.le_of_ble_eq_true rfl) dX8_scribe_78 ?_
      have hK := leafK hB hK
      have hK : q5 = R0 := hK
      subst hK
      exact W.iret (v := q5) hx hb hr (fun t ht hW => ⟨_, rfl, rfl, ht⟩) (fun _ h => by cases h) dX8_scribe_81
    have hB := ifN c_13_1 hB
    by_cases c_13_2 : p2 = 2
    · have hB := ifP c_13_2 hB
      refine lv_tableIn (off := 60) (tgt := 82) hx hb dX8_scribe_22 (by rw [c_13_2]; decide) (by rw [c_13_2]; decide) (by rw [c_13_2]; decide) (by decide) ?_
      refine lv_aload_n hx hb dX8_scribe_82 rfl (lv_at hl 1 rfl) ?_
      refine va_get (D := G) (ci := 8) (v := .ref a_t_standing) (C := RX8) (T := TX8) (N := 14) hx hb hg inX8 hown hKT hP 0 rfl rfl 4 (by decide) (hg _ gF_X8_36) (fun _ h9 => h9) rfl dX8_scribe_83 ?_
      refine lv_iload_n hx hb dX8_scribe_86 rfl (lv_at hl 2 rfl) ?_
      obtain ⟨q6, hq6, hB⟩ := bnd hB
      refine kr_VN (WC := wd_X6_isReleased cs a_t_standing a_t_standing_rows r_t_standing_rows v_t_standing_known g_t_standing_rows) (As := [.int p1]) (rest := []) (r0 := q6) ⟨hx, hb, hml, hown, hg⟩ (k_X6_isReleased l G cs a_t_standing a_t_standing_rows r_t_standing_rows v_t_standing_known g_t_standing_rows p1 q6 hq6) nM_X8_134_l mI_X6_isReleased (rmk rfl) hP hKT hN 4 rfl rfl [4, 5, 6, 7, 8, 9, 10, 11, 12, 13, 14, 15, 16] rfl rfl hl.1 rfl (Nat.le_of_ble_eq_true rfl) dX8_scribe_87 ?_
      refine lv_if_eq (tgt := 97) hx hb dX8_scribe_90 (by decide) (fun c_7 => ?_) (fun c_7 => ?_)
      · have hB := ifP c_7 hB
        refine lv_iconst (v := 0) hx hb dX8_scribe_97 (by decide) ?_
        have hK := leafK hB hK
        have hK : (0 : Int32) = R0 := hK
        subst hK
        exact W.iret (v := (0 : Int32)) hx hb hr (fun t ht hW => ⟨_, rfl, rfl, ht⟩) (fun _ h => by cases h) dX8_scribe_98
      · have hB := ifN c_7 hB
        refine lv_iconst (v := 1) hx hb dX8_scribe_93 (by decide) ?_
        refine lv_goto (tgt := 98) hx hb dX8_scribe_94 (by decide) ?_
        have hK := leafK hB hK
        have hK : (1 : Int32) = R0 := hK
        subst hK
        exact W.iret (v := (1 : Int32)) hx hb hr (fun t ht hW => ⟨_, rfl, rfl, ht⟩) (fun _ h => by cases h) dX8_scribe_98
    have hB := ifN c_13_2 hB
    by_cases c_13_3 : p2 = 3
    · have hB := ifP c_13_3 hB
      refine lv_tableIn (off := 77) (tgt := 99) hx hb dX8_scribe_22 (by rw [c_13_3]; decide) (by rw [c_13_3]; decide) (by rw [c_13_3]; decide) (by decide) ?_
      refine lv_aload_n hx hb dX8_scribe_99 rfl (lv_at hl 1 rfl) ?_
      refine va_get (D := G) (ci := 8) (v := .ref a_t_standing) (C := RX8) (T := TX8) (N := 14) hx hb hg inX8 hown hKT hP 0 rfl rfl 4 (by decide) (hg _ gF_X8_36) (fun _ h9 => h9) rfl dX8_scribe_100 ?_
      refine lv_iload_n hx hb dX8_scribe_103 rfl (lv_at hl 2 rfl) ?_
      obtain ⟨q8, hq8, hB⟩ := bnd hB
      refine kr_VN (WC := wd_X6_timesOf cs a_t_standing a_t_standing_rows r_t_standing_rows v_t_standing_known g_t_standing_rows) (As := [.int p1]) (rest := []) (r0 := q8) ⟨hx, hb, hml, hown, hg⟩ (k_X6_timesOf l G cs a_t_standing a_t_standing_rows r_t_standing_rows v_t_standing_known g_t_standing_rows p1 q8 hq8) nM_X8_137_l mI_X6_timesOf (rmk rfl) hP hKT hN 4 rfl rfl [4, 5, 6, 7, 8, 9, 10, 11, 12, 13, 14, 15, 16] rfl rfl hl.1 rfl (Nat.le_of_ble_eq_true rfl) dX8_scribe_104 ?_
      have hK := leafK hB hK
      have hK : q8 = R0 := hK
      subst hK
      exact W.iret (v := q8) hx hb hr (fun t ht hW => ⟨_, rfl, rfl, ht⟩) (fun _ h => by cases h) dX8_scribe_107
    have hB := ifN c_13_3 hB
    by_cases c_13_4 : p2 = 4
    · have hB := ifP c_13_4 hB
      refine lv_tableIn (off := 86) (tgt := 108) hx hb dX8_scribe_22 (by rw [c_13_4]; decide) (by rw [c_13_4]; decide) (by rw [c_13_4]; decide) (by decide) ?_
      refine lv_aload_n hx hb dX8_scribe_108 rfl (lv_at hl 1 rfl) ?_
      refine va_get (D := G) (ci := 8) (v := .ref a_t_house) (C := RX8) (T := TX8) (N := 14) hx hb hg inX8 hown hKT hP 0 rfl rfl 0 (by decide) (hg _ gF_X8_10) (fun _ h9 => h9) rfl dX8_scribe_109 ?_
      refine lv_iload_n hx hb dX8_scribe_112 rfl (lv_at hl 2 rfl) ?_
      refine lv_iload_n hx hb dX8_scribe_113 rfl (lv_at hl 0 rfl) ?_
      obtain ⟨q9, hq9, hB⟩ := bnd hB
      refine kr_VN (WC := wd_X0_unlikeLines cs a_t_house a_t_house_turn a_t_house_bent v_t_house_opinions v_t_house_lines v_t_house_books v_t_house_told v_t_house_scribes v_t_house_need g_t_house_turn g_t_house_bent) (As := [.int p1, .int q3]) (rest := []) (r0 := q9) ⟨hx, hb, hml, hown, hg⟩ (k_X0_unlikeLines l G cs a_t_house a_t_house_turn a_t_house_bent v_t_house_opinions v_t_house_lines v_t_house_books v_t_house_told v_t_house_scribes v_t_house_need g_t_house_turn g_t_house_bent p1 q3 q9 hq9) nM_X8_140_l mI_X0_unlikeLines (rmk rfl) hP hKT hN 1 rfl rfl [1, 2, 3] rfl rfl hl.1 rfl (Nat.le_of_ble_eq_true rfl) dX8_scribe_114 ?_
      have hK := leafK hB hK
      have hK : q9 = R0 := hK
      subst hK
      exact W.iret (v := q9) hx hb hr (fun t ht hW => ⟨_, rfl, rfl, ht⟩) (fun _ h => by cases h) dX8_scribe_117
    have hB := ifN c_13_4 hB
    by_cases c_13_5 : p2 = 5
    · have hB := ifP c_13_5 hB
      refine lv_tableIn (off := 96) (tgt := 118) hx hb dX8_scribe_22 (by rw [c_13_5]; decide) (by rw [c_13_5]; decide) (by rw [c_13_5]; decide) (by decide) ?_
      refine lv_aload_n hx hb dX8_scribe_118 rfl (lv_at hl 1 rfl) ?_
      refine va_get (D := G) (ci := 8) (v := .ref a_t_house) (C := RX8) (T := TX8) (N := 14) hx hb hg inX8 hown hKT hP 0 rfl rfl 0 (by decide) (hg _ gF_X8_10) (fun _ h9 => h9) rfl dX8_scribe_119 ?_
      refine lv_iload_n hx hb dX8_scribe_122 rfl (lv_at hl 2 rfl) ?_
      refine lv_iload_n hx hb dX8_scribe_123 rfl (lv_at hl 0 rfl) ?_
      obtain ⟨q10, hq10, hB⟩ := bnd hB
      refine kr_VN (WC := wd_X0_isConvinced cs a_t_house a_t_house_turn a_t_house_bent v_t_house_opinions v_t_house_lines v_t_house_books v_t_house_told v_t_house_scribes v_t_house_need g_t_house_turn g_t_house_bent) (As := [.int p1, .int q3]) (rest := []) (r0 := q10) ⟨hx, hb, hml, hown, hg⟩ (k_X0_isConvinced l G cs a_t_house a_t_house_turn a_t_house_bent v_t_house_opinions v_t_house_lines v_t_house_books v_t_house_told v_t_house_scribes v_t_house_need g_t_house_turn g_t_house_bent p1 q3 q10 hq10) nM_X8_143_l mI_X0_isConvinced (rmk rfl) hP hKT hN 1 rfl rfl [1, 2, 3] rfl rfl hl.1 rfl (Nat.le_of_ble_eq_true rfl) dX8_scribe_124 ?_
      refine lv_if_eq (tgt := 134) hx hb dX8_scribe_127 (by decide) (fun c_11 => ?_) (fun c_11 => ?_)
      · have hB := ifP c_11 hB
        refine lv_iconst (v := 0) hx hb dX8_scribe_134 (by decide) ?_
        have hK := leafK hB hK
        have hK : (0 : Int32) = R0 := hK
        subst hK
        exact W.iret (v := (0 : Int32)) hx hb hr (fun t ht hW => ⟨_, rfl, rfl, ht⟩) (fun _ h => by cases h) dX8_scribe_135
      · have hB := ifN c_11 hB
        refine lv_iconst (v := 1) hx hb dX8_scribe_130 (by decide) ?_
        refine lv_goto (tgt := 135) hx hb dX8_scribe_131 (by decide) ?_
        have hK := leafK hB hK
        have hK : (1 : Int32) = R0 := hK
        subst hK
        exact W.iret (v := (1 : Int32)) hx hb hr (fun t ht hW => ⟨_, rfl, rfl, ht⟩) (fun _ h => by cases h) dX8_scribe_135
    have hB := ifN c_13_5 hB
    by_cases c_13_6 : p2 = 6
    · have hB := ifP c_13_6 hB
      refine lv_tableIn (off := 114) (tgt := 136) hx hb dX8_scribe_22 (by rw [c_13_6]; decide) (by rw [c_13_6]; decide) (by rw [c_13_6]; decide) (by decide) ?_
      refine lv_aload_n hx hb dX8_scribe_136 rfl (lv_at hl 1 rfl) ?_
      refine va_get (D := G) (ci := 8) (v := .ref a_t_house) (C := RX8) (T := TX8) (N := 14) hx hb hg inX8 hown hKT hP 0 rfl rfl 0 (by decide) (hg _ gF_X8_10) (fun _ h9 => h9) rfl dX8_scribe_137 ?_
      refine lv_iload_n hx hb dX8_scribe_140 rfl (lv_at hl 2 rfl) ?_
      refine lv_iload_n hx hb dX8_scribe_141 rfl (lv_at hl 0 rfl) ?_
      obtain ⟨q12, hq12, hB⟩ := bnd hB
      refine kr_VN (WC := wd_X0_comesRound cs a_t_house a_t_house_turn a_t_house_bent v_t_house_opinions v_t_house_lines v_t_house_books v_t_house_told v_t_house_scribes v_t_house_need g_t_house_turn g_t_house_bent) (As := [.int p1, .int q3]) (rest := []) (r0 := q12) ⟨hx, hb, hml, hown, hg⟩ (k_X0_comesRound l G cs a_t_house a_t_house_turn a_t_house_bent v_t_house_opinions v_t_house_lines v_t_house_books v_t_house_told v_t_house_scribes v_t_house_need g_t_house_turn g_t_house_bent p1 q3 q12 hq12) nM_X8_147_l mI_X0_comesRound (rmk rfl) hP hKT hN 1 rfl rfl [1, 2, 3] rfl rfl hl.1 rfl (Nat.le_of_ble_eq_true rfl) dX8_scribe_142 ?_
      have hK := leafK hB hK
      have hK : q12 = R0 := hK
      subst hK
      exact W.iret (v := q12) hx hb hr (fun t ht hW => ⟨_, rfl, rfl, ht⟩) (fun _ h => by cases h) dX8_scribe_145
    have hB := ifN c_13_6 hB
    have c_13_0t := lv_neT (a := 0) c_13_0 rfl
    have c_13_1t := lv_neT (a := 1) c_13_1 rfl
    have c_13_2t := lv_neT (a := 2) c_13_2 rfl
    have c_13_3t := lv_neT (a := 3) c_13_3 rfl
    have c_13_4t := lv_neT (a := 4) c_13_4 rfl
    have c_13_5t := lv_neT (a := 5) c_13_5 rfl
    have c_13_6t := lv_neT (a := 6) c_13_6 rfl
    refine lv_tableOut (tgt := 146) hx hb dX8_scribe_22 (by omega) (by decide) ?_
    refine lv_iconst (v := -1) hx hb dX8_scribe_146 (by decide) ?_
    have hK := leafK hB hK
    have hK : (-1 : Int32) = R0 := hK
    subst hK
    exact W.iret (v := (-1 : Int32)) hx hb hr (fun t ht hW => ⟨_, rfl, rfl, ht⟩) (fun _ h => by cases h) dX8_scribe_147
  · have hB := ifP c_2 hB
    refine lv_iconst (v := -1) hx hb dX8_scribe_11 (by decide) ?_
    have hK := leafK hB hK
    have hK : (-1 : Int32) = R0 := hK
    subst hK
    exact W.iret (v := (-1 : Int32)) hx hb hr (fun t ht hW => ⟨_, rfl, rfl, ht⟩) (fun _ h => by cases h) dX8_scribe_12
def wd_X8_says (cs : Nat → ClassId) (a_t a_t_house a_t_draft a_t_reader a_t_laws a_t_standing a_t_imageZero a_t_imageOne a_t_rounds a_t_ways a_t_margins a_t_marks a_t_house_turn a_t_house_bent : Nat) (v_t_keptZero : Int32) (v_t_keptOne : Int32) (v_t_target : Int32) (v_t_house_opinions : Int32) (v_t_house_lines : Int32) (v_t_house_books : Int32) (v_t_house_told : Int32) (v_t_house_scribes : Int32) (v_t_house_need : Int32) (g_t_house_turn : Nat → Int32) (g_t_house_bent : Nat → Int32) : va_W := [(a_t, .inr (8, [.ref a_t_house, .ref a_t_draft, .ref a_t_reader, .ref a_t_laws, .ref a_t_standing, .ref a_t_imageZero, .ref a_t_imageOne, .int v_t_keptZero, .int v_t_keptOne, .int v_t_target, .ref a_t_rounds, .ref a_t_ways, .ref a_t_margins, .ref a_t_marks])), (a_t_house, .inr (0, [.int v_t_house_opinions, .int v_t_house_lines, .int v_t_house_books, .int v_t_house_told, .int v_t_house_scribes, .int v_t_house_need, .ref a_t_house_turn, .ref a_t_house_bent])), (a_t_house_turn, .inl (cs 0, 6, .inl g_t_house_turn)), (a_t_house_bent, .inl (cs 0, 6, .inl g_t_house_bent))]
def rm_X8_says : Room := { frames := 3, cells := 0, slots := 0, locals := 64 }
theorem mI_X8_says : MI yX8_says RX8 cX8_says 3 (some .int) 2 := ⟨gI_X8_says, gE_X8_says, gN_X8, gC_X8_says, by decide +kernel⟩
set_option maxHeartbeats 4000000 in
set_option maxRecDepth 100000 in
theorem k_X8_says (l : Launch) (G : va_G) (cs : Nat → ClassId) (a_t a_t_house a_t_draft a_t_reader a_t_laws a_t_standing a_t_imageZero a_t_imageOne a_t_rounds a_t_ways a_t_margins a_t_marks a_t_house_turn a_t_house_bent : Nat) (v_t_keptZero : Int32) (v_t_keptOne : Int32) (v_t_target : Int32) (v_t_house_opinions : Int32) (v_t_house_lines : Int32) (v_t_house_books : Int32) (v_t_house_told : Int32) (v_t_house_scribes : Int32) (v_t_house_need : Int32) (g_t_house_turn : Nat → Int32) (g_t_house_bent : Nat → Int32) (p1 p2 : Int32) (R0 : Int32) (hB : f_X8_says v_t_house_opinions v_t_house_scribes g_t_house_turn g_t_house_bent p1 p2 = some R0) : Met l yX8_says (.code yX8_says cX8_says 3 (some .int) :: GW) rm_X8_says (PcR G cs [.ref a_t, .int p1, .int p2] (wd_X8_says cs a_t a_t_house a_t_draft a_t_reader a_t_laws a_t_standing a_t_imageZero a_t_imageOne a_t_rounds a_t_ways a_t_margins a_t_marks a_t_house_turn a_t_house_bent v_t_keptZero v_t_keptOne v_t_target v_t_house_opinions v_t_house_lines v_t_house_books v_t_house_told v_t_house_scribes v_t_house_need g_t_house_turn g_t_house_bent)) (vp_Si (fun r => r = R0)) 0 0 (fun _ => False) := by
  refine Met.ofW (cc := cX8_says) (maxL := 3) (ret := (some .int)) (by decide) rfl ?_
  intro p e s m args below meth c s₁ B hml hv
  obtain ⟨rfl, hP, hK, hN⟩ := hv
  have hx := B.exec
  have hb := B.bytes
  have hr := B.returns
  have hts := atoms_spec (ws := .code yX8_says cX8_says 3 (some .int) :: GW) B.pre
  have hg : ∀ w ∈ GW, w.before _ s = true := fun w h => hts w (List.mem_cons_of_mem _ h)
  have hown : s.vm.findClass RX8 = some m.cls := findClass_of_methodNamed B.named
  have hlocks := B.notSynchronized
  have hl := lv_entry ([.ref a_t, .int p1, .int p2]) (n := 3) (Nat.le_of_ble_eq_true rfl)
  rw [lg_entry_eq]
  generalize (lg_sl ([.ref a_t, .int p1, .int p2]) ++ List.replicate (3 - (lg_sl ([.ref a_t, .int p1, .int p2])).length) Slot.unset).toArray = ls at hl ⊢
  have hl : lv_has ls 3 [(0, .ref a_t), (1, .int p1), (2, .int p2)] := hl
  obtain ⟨y, hB, hK0⟩ : ∃ y, f_X8_says v_t_house_opinions v_t_house_scribes g_t_house_turn g_t_house_bent p1 p2 = some y ∧ KEnd R0 y := ⟨R0, hB, rfl⟩
  have hKT := hK
  have hK := hK0
  show W p l e rm_X8_says s m ([.ref a_t, .int p1, .int p2] : List Value).toArray below meth c s.heap [] 0 0 (MQ below (vp_Si (fun r => r = R0)) ([.ref a_t, .int p1, .int p2] : List Value).toArray s 0 0 (fun _ => False)) (F0 m 0 ls [])
  refine lv_aload_n hx hb dX8_says_0 rfl (lv_at hl 0 rfl) ?_
  refine va_get (D := G) (ci := 8) (v := .ref a_t_house) (C := RX8) (T := TX8) (N := 14) hx hb hg inX8 hown hKT hP 0 rfl rfl 0 (by decide) (hg _ gF_X8_10) (fun _ h9 => h9) rfl dX8_says_1 ?_
  refine lv_iload_n hx hb dX8_says_4 rfl (lv_at hl 1 rfl) ?_
  obtain ⟨q1, hq1, hB⟩ := bnd hB
  refine kr_VN (WC := wd_X0_hasScribe cs a_t_house a_t_house_turn a_t_house_bent v_t_house_opinions v_t_house_lines v_t_house_books v_t_house_told v_t_house_scribes v_t_house_need) (As := [.int p1]) (rest := []) (r0 := q1) ⟨hx, hb, hml, hown, hg⟩ (k_X0_hasScribe l G cs a_t_house a_t_house_turn a_t_house_bent v_t_house_opinions v_t_house_lines v_t_house_books v_t_house_told v_t_house_scribes v_t_house_need p1 q1 hq1) nM_X8_124_l mI_X0_hasScribe (rmk rfl) hP hKT hN 1 rfl rfl [1] rfl rfl hl.1 rfl (Nat.le_of_ble_eq_true rfl) dX8_says_5 ?_
  refine lv_if_eq (tgt := 34) hx hb dX8_says_8 (by decide) (fun c_2 => ?_) (fun c_2 => ?_)
  · have hB := ifP c_2 hB
    refine lv_iconst (v := -1) hx hb dX8_says_34 (by decide) ?_
    have hK := leafK hB hK
    have hK : (-1 : Int32) = R0 := hK
    subst hK
    exact W.iret (v := (-1 : Int32)) hx hb hr (fun t ht hW => ⟨_, rfl, rfl, ht⟩) (fun _ h => by cases h) dX8_says_35
  · have hB := ifN c_2 hB
    refine lv_aload_n hx hb dX8_says_11 rfl (lv_at hl 0 rfl) ?_
    refine va_get (D := G) (ci := 8) (v := .ref a_t_house) (C := RX8) (T := TX8) (N := 14) hx hb hg inX8 hown hKT hP 0 rfl rfl 0 (by decide) (hg _ gF_X8_10) (fun _ h9 => h9) rfl dX8_says_12 ?_
    refine lv_iload_n hx hb dX8_says_15 rfl (lv_at hl 2 rfl) ?_
    obtain ⟨q3, hq3, hB⟩ := bnd hB
    refine kr_VN (WC := wd_X0_hasOpinion cs a_t_house a_t_house_turn a_t_house_bent v_t_house_opinions v_t_house_lines v_t_house_books v_t_house_told v_t_house_scribes v_t_house_need) (As := [.int p2]) (rest := []) (r0 := q3) ⟨hx, hb, hml, hown, hg⟩ (k_X0_hasOpinion l G cs a_t_house a_t_house_turn a_t_house_bent v_t_house_opinions v_t_house_lines v_t_house_books v_t_house_told v_t_house_scribes v_t_house_need p2 q3 hq3) nM_X8_150_l mI_X0_hasOpinion (rmk rfl) hP hKT hN 1 rfl rfl [1] rfl rfl hl.1 rfl (Nat.le_of_ble_eq_true rfl) dX8_says_16 ?_
    refine lv_if_eq (tgt := 34) hx hb dX8_says_19 (by decide) (fun c_4 => ?_) (fun c_4 => ?_)
    · have hB := ifP c_4 hB
      refine lv_iconst (v := -1) hx hb dX8_says_34 (by decide) ?_
      have hK := leafK hB hK
      have hK : (-1 : Int32) = R0 := hK
      subst hK
      exact W.iret (v := (-1 : Int32)) hx hb hr (fun t ht hW => ⟨_, rfl, rfl, ht⟩) (fun _ h => by cases h) dX8_says_35
    · have hB := ifN c_4 hB
      refine lv_aload_n hx hb dX8_says_22 rfl (lv_at hl 0 rfl) ?_
      refine va_get (D := G) (ci := 8) (v := .ref a_t_house) (C := RX8) (T := TX8) (N := 14) hx hb hg inX8 hown hKT hP 0 rfl rfl 0 (by decide) (hg _ gF_X8_10) (fun _ h9 => h9) rfl dX8_says_23 ?_
      refine lv_iload_n hx hb dX8_says_26 rfl (lv_at hl 1 rfl) ?_
      refine lv_iload_n hx hb dX8_says_27 rfl (lv_at hl 2 rfl) ?_
      obtain ⟨q5, hq5, hB⟩ := bnd hB
      refine kr_VN (WC := wd_X0_saidBy cs a_t_house a_t_house_turn a_t_house_bent v_t_house_opinions v_t_house_lines v_t_house_books v_t_house_told v_t_house_scribes v_t_house_need g_t_house_turn g_t_house_bent) (As := [.int p1, .int p2]) (rest := []) (r0 := q5) ⟨hx, hb, hml, hown, hg⟩ (k_X0_saidBy l G cs a_t_house a_t_house_turn a_t_house_bent v_t_house_opinions v_t_house_lines v_t_house_books v_t_house_told v_t_house_scribes v_t_house_need g_t_house_turn g_t_house_bent p1 p2 q5 hq5) nM_X8_153_l mI_X0_saidBy (rmk rfl) hP hKT hN 1 rfl rfl [1, 2, 3] rfl rfl hl.1 rfl (Nat.le_of_ble_eq_true rfl) dX8_says_28 ?_
      refine lv_goto (tgt := 35) hx hb dX8_says_31 (by decide) ?_
      have hK := leafK hB hK
      have hK : q5 = R0 := hK
      subst hK
      exact W.iret (v := q5) hx hb hr (fun t ht hW => ⟨_, rfl, rfl, ht⟩) (fun _ h => by cases h) dX8_says_35
def wd_X8_copies (cs : Nat → ClassId) (a_t a_t_house a_t_draft a_t_reader a_t_laws a_t_standing a_t_imageZero a_t_imageOne a_t_rounds a_t_ways a_t_margins a_t_marks a_t_house_turn a_t_house_bent a_t_standing_rows : Nat) (r_t_standing_rows : Nat → Nat) (v_t_keptZero : Int32) (v_t_keptOne : Int32) (v_t_target : Int32) (v_t_house_opinions : Int32) (v_t_house_lines : Int32) (v_t_house_books : Int32) (v_t_house_told : Int32) (v_t_house_scribes : Int32) (v_t_house_need : Int32) (g_t_house_turn : Nat → Int32) (g_t_house_bent : Nat → Int32) (v_t_standing_known : Int32) (g_t_standing_rows : Nat → Nat → Int32) : va_W := (a_t, .inr (8, [.ref a_t_house, .ref a_t_draft, .ref a_t_reader, .ref a_t_laws, .ref a_t_standing, .ref a_t_imageZero, .ref a_t_imageOne, .int v_t_keptZero, .int v_t_keptOne, .int v_t_target, .ref a_t_rounds, .ref a_t_ways, .ref a_t_margins, .ref a_t_marks])) :: (a_t_house, .inr (0, [.int v_t_house_opinions, .int v_t_house_lines, .int v_t_house_books, .int v_t_house_told, .int v_t_house_scribes, .int v_t_house_need, .ref a_t_house_turn, .ref a_t_house_bent])) :: (a_t_house_turn, .inl (cs 0, 6, .inl g_t_house_turn)) :: (a_t_house_bent, .inl (cs 0, 6, .inl g_t_house_bent)) :: (a_t_standing, .inr (6, [.ref a_t_standing_rows, .int v_t_standing_known])) :: (a_t_standing_rows, .inl (cs 3, 11, .inr (.inr (.inr (.inr (gO r_t_standing_rows)))))) :: gR (cs 0) r_t_standing_rows g_t_standing_rows
def rm_X8_copies : Room := { frames := 5, cells := 0, slots := 0, locals := 112 }
theorem mI_X8_copies : MI yX8_copies RX8 cX8_copies 3 (some .int) 1 := ⟨gI_X8_copies, gE_X8_copies, gN_X8, gC_X8_copies, by decide +kernel⟩
set_option maxHeartbeats 4000000 in
set_option maxRecDepth 100000 in
theorem k_X8_copies (l : Launch) (G : va_G) (cs : Nat → ClassId) (a_t a_t_house a_t_draft a_t_reader a_t_laws a_t_standing a_t_imageZero a_t_imageOne a_t_rounds a_t_ways a_t_margins a_t_marks a_t_house_turn a_t_house_bent a_t_standing_rows : Nat) (r_t_standing_rows : Nat → Nat) (v_t_keptZero : Int32) (v_t_keptOne : Int32) (v_t_target : Int32) (v_t_house_opinions : Int32) (v_t_house_lines : Int32) (v_t_house_books : Int32) (v_t_house_told : Int32) (v_t_house_scribes : Int32) (v_t_house_need : Int32) (g_t_house_turn : Nat → Int32) (g_t_house_bent : Nat → Int32) (v_t_standing_known : Int32) (g_t_standing_rows : Nat → Nat → Int32) (p1 : Int32) (sz : Nat) (R0 : Int32 × Int32 × (Nat → Nat → Int32)) (hB : f_X8_copies v_t_house_opinions v_t_house_lines v_t_house_scribes v_t_house_need g_t_house_turn g_t_house_bent v_t_standing_known g_t_standing_rows p1 = some R0) : Met l yX8_copies (.code yX8_copies cX8_copies 3 (some .int) :: GW) rm_X8_copies (PcW G cs [.ref a_t, .int p1] (wd_X8_copies cs a_t a_t_house a_t_draft a_t_reader a_t_laws a_t_standing a_t_imageZero a_t_imageOne a_t_rounds a_t_ways a_t_margins a_t_marks a_t_house_turn a_t_house_bent a_t_standing_rows r_t_standing_rows v_t_keptZero v_t_keptOne v_t_target v_t_house_opinions v_t_house_lines v_t_house_books v_t_house_told v_t_house_scribes v_t_house_need g_t_house_turn g_t_house_bent v_t_standing_known g_t_standing_rows) sz) (QcI G (va_A (wd_X8_copies cs a_t a_t_house a_t_draft a_t_reader a_t_laws a_t_standing a_t_imageZero a_t_imageOne a_t_rounds a_t_ways a_t_margins a_t_marks a_t_house_turn a_t_house_bent a_t_standing_rows r_t_standing_rows v_t_keptZero v_t_keptOne v_t_target v_t_house_opinions v_t_house_lines v_t_house_books v_t_house_told v_t_house_scribes v_t_house_need g_t_house_turn g_t_house_bent v_t_standing_known g_t_standing_rows) sz) (wd_X8_copies cs a_t a_t_house a_t_draft a_t_reader a_t_laws a_t_standing a_t_imageZero a_t_imageOne a_t_rounds a_t_ways a_t_margins a_t_marks a_t_house_turn a_t_house_bent a_t_standing_rows r_t_standing_rows v_t_keptZero v_t_keptOne v_t_target v_t_house_opinions v_t_house_lines v_t_house_books v_t_house_told v_t_house_scribes v_t_house_need g_t_house_turn g_t_house_bent R0.2.1 R0.2.2) R0.1) 0 0 (va_A (wd_X8_copies cs a_t a_t_house a_t_draft a_t_reader a_t_laws a_t_standing a_t_imageZero a_t_imageOne a_t_rounds a_t_ways a_t_margins a_t_marks a_t_house_turn a_t_house_bent a_t_standing_rows r_t_standing_rows v_t_keptZero v_t_keptOne v_t_target v_t_house_opinions v_t_house_lines v_t_house_books v_t_house_told v_t_house_scribes v_t_house_need g_t_house_turn g_t_house_bent v_t_standing_known g_t_standing_rows) sz) := by
  refine Met.ofW (cc := cX8_copies) (maxL := 3) (ret := (some .int)) (by decide) rfl ?_
  intro p e s m args below meth c s₁ B hml hv
  obtain ⟨rfl, hsz, hP, hD0, hK, hN⟩ := hv
  have hx := B.exec
  have hb := B.bytes
  have hr := B.returns
  have hts := atoms_spec (ws := .code yX8_copies cX8_copies 3 (some .int) :: GW) B.pre
  have hg : ∀ w ∈ GW, w.before _ s = true := fun w h => hts w (List.mem_cons_of_mem _ h)
  have hown : s.vm.findClass RX8 = some m.cls := findClass_of_methodNamed B.named
  have hlocks := B.notSynchronized
  subst hsz
  have hD := hD0.self (sz := s.heap.size)
  generalize hAe : va_A (wd_X8_copies cs a_t a_t_house a_t_draft a_t_reader a_t_laws a_t_standing a_t_imageZero a_t_imageOne a_t_rounds a_t_ways a_t_margins a_t_marks a_t_house_turn a_t_house_bent a_t_standing_rows r_t_standing_rows v_t_keptZero v_t_keptOne v_t_target v_t_house_opinions v_t_house_lines v_t_house_books v_t_house_told v_t_house_scribes v_t_house_need g_t_house_turn g_t_house_bent v_t_standing_known g_t_standing_rows) s.heap.size = A at hD ⊢
  have hA : ∀ q : Nat, s.heap.size ≤ q → A q := fun q h => by rw [← hAe]; exact Or.inr h
  have hS : va_S A s.heap s.heap [] := va_S.rf
  have hl := lv_entry ([.ref a_t, .int p1]) (n := 3) (Nat.le_of_ble_eq_true rfl)
  rw [lg_entry_eq]
  generalize (lg_sl ([.ref a_t, .int p1]) ++ List.replicate (3 - (lg_sl ([.ref a_t, .int p1])).length) Slot.unset).toArray = ls at hl ⊢
  have hl : lv_has ls 3 [(0, .ref a_t), (1, .int p1)] := hl
  obtain ⟨y, hB, hK0⟩ : ∃ y, f_X8_copies v_t_house_opinions v_t_house_lines v_t_house_scribes v_t_house_need g_t_house_turn g_t_house_bent v_t_standing_known g_t_standing_rows p1 = some y ∧ KEnd R0 y := ⟨R0, hB, rfl⟩
  have hKT := hK
  have hK := hK0
  obtain ⟨H, hHe⟩ : ∃ H, H = s.heap := ⟨_, rfl⟩
  obtain ⟨locs, hLe⟩ : ∃ L : List Loc, L = [] := ⟨_, rfl⟩
  rw [← hHe] at hP
  have hS : va_S A s.heap H locs := by rw [hHe, hLe]; exact hS
  show W p l e rm_X8_copies s m ([.ref a_t, .int p1] : List Value).toArray below meth c s.heap [] 0 0 _ _
  suffices hgo : W p l e rm_X8_copies s m ([.ref a_t, .int p1] : List Value).toArray below meth c H locs 0 0 (MQ below (QcI G A (wd_X8_copies cs a_t a_t_house a_t_draft a_t_reader a_t_laws a_t_standing a_t_imageZero a_t_imageOne a_t_rounds a_t_ways a_t_margins a_t_marks a_t_house_turn a_t_house_bent a_t_standing_rows r_t_standing_rows v_t_keptZero v_t_keptOne v_t_target v_t_house_opinions v_t_house_lines v_t_house_books v_t_house_told v_t_house_scribes v_t_house_need g_t_house_turn g_t_house_bent R0.2.1 R0.2.2) R0.1) ([.ref a_t, .int p1] : List Value).toArray s 0 0 A) (F0 m 0 ls []) by rw [hHe, hLe] at hgo; exact hgo
  refine lv_aload_n hx hb dX8_copies_0 rfl (lv_at hl 0 rfl) ?_
  refine va_get (D := G) (ci := 8) (v := .ref a_t_house) (C := RX8) (T := TX8) (N := 14) hx hb hg inX8 hown hKT hP 0 rfl rfl 0 (by decide) (hg _ gF_X8_10) (fun _ h9 => h9) rfl dX8_copies_1 ?_
  refine lv_iload_n hx hb dX8_copies_4 rfl (lv_at hl 1 rfl) ?_
  obtain ⟨q1, hq1, hB⟩ := bnd hB
  refine kr_VN (WC := wd_X0_hasScribe cs a_t_house a_t_house_turn a_t_house_bent v_t_house_opinions v_t_house_lines v_t_house_books v_t_house_told v_t_house_scribes v_t_house_need) (As := [.int p1]) (rest := []) (r0 := q1) ⟨hx, hb, hml, hown, hg⟩ (k_X0_hasScribe l G cs a_t_house a_t_house_turn a_t_house_bent v_t_house_opinions v_t_house_lines v_t_house_books v_t_house_told v_t_house_scribes v_t_house_need p1 q1 hq1) nM_X8_124_l mI_X0_hasScribe (rmk rfl) hP hKT hN 1 rfl rfl [1] rfl rfl hl.1 rfl (Nat.le_of_ble_eq_true rfl) dX8_copies_5 ?_
  refine lv_if_ne (tgt := 13) hx hb dX8_copies_8 (by decide) (fun c_2 => ?_) (fun c_2 => ?_)
  · have hB := ifN c_2 hB
    refine lv_aload_n hx hb dX8_copies_13 rfl (lv_at hl 0 rfl) ?_
    refine va_get (D := G) (ci := 8) (v := .ref a_t_standing) (C := RX8) (T := TX8) (N := 14) hx hb hg inX8 hown hKT hP 0 rfl rfl 4 (by decide) (hg _ gF_X8_36) (fun _ h9 => h9) rfl dX8_copies_14 ?_
    obtain ⟨q3, hq3, hB⟩ := bnd hB
    refine kr_VN (WC := wd_X6_book cs a_t_standing a_t_standing_rows r_t_standing_rows v_t_standing_known g_t_standing_rows) (As := []) (rest := []) (r0 := q3) ⟨hx, hb, hml, hown, hg⟩ (k_X6_book l G cs a_t_standing a_t_standing_rows r_t_standing_rows v_t_standing_known g_t_standing_rows q3 hq3) nM_X8_117_l mI_X6_book (rmk rfl) hP hKT hN 4 rfl rfl [4, 5, 6, 7, 8, 9, 10, 11, 12, 13, 14, 15, 16] rfl rfl hl.1 rfl (Nat.le_of_ble_eq_true rfl) dX8_copies_17 ?_
    refine lv_istore_n (lv' := [(2, .int q3), (0, .ref a_t), (1, .int p1)]) hx hb dX8_copies_20 rfl hl (by decide) rfl (fun ls hl => ?_)
    refine lv_aload_n hx hb dX8_copies_21 rfl (lv_at hl 1 rfl) ?_
    refine va_get (D := G) (ci := 8) (v := .ref a_t_standing) (C := RX8) (T := TX8) (N := 14) hx hb hg inX8 hown hKT hP 0 rfl rfl 4 (by decide) (hg _ gF_X8_36) (fun _ h9 => h9) rfl dX8_copies_22 ?_
    refine lv_iload_n hx hb dX8_copies_25 rfl (lv_at hl 2 rfl) ?_
    obtain ⟨q4, hq4, hB⟩ := bnd hB
    refine kr_VN (WC := wd_X6_isReleased cs a_t_standing a_t_standing_rows r_t_standing_rows v_t_standing_known g_t_standing_rows) (As := [.int p1]) (rest := []) (r0 := q4) ⟨hx, hb, hml, hown, hg⟩ (k_X6_isReleased l G cs a_t_standing a_t_standing_rows r_t_standing_rows v_t_standing_known g_t_standing_rows p1 q4 hq4) nM_X8_134_l mI_X6_isReleased (rmk rfl) hP hKT hN 4 rfl rfl [4, 5, 6, 7, 8, 9, 10, 11, 12, 13, 14, 15, 16] rfl rfl hl.1 rfl (Nat.le_of_ble_eq_true rfl) dX8_copies_26 ?_
    refine lv_if_ne (tgt := 57) hx hb dX8_copies_29 (by decide) (fun c_5 => ?_) (fun c_5 => ?_)
    · have hB := ifN c_5 hB
      refine lv_bipush (v := -2) hx hb dX8_copies_57 (by decide) ?_
      have hK := leafK hB hK
      have hK : ((-2 : Int32), v_t_standing_known, g_t_standing_rows) = R0 := hK
      subst hK
      exact W.iret (v := (-2 : Int32)) hx hb hr (fun t ht hW => ⟨⟨_, (), rfl, rfl, by rw [ht]; exact hP, hD⟩, hS.F ht⟩) hS.2.2 dX8_copies_59
    · have hB := ifP c_5 hB
      refine lv_aload_n hx hb dX8_copies_32 rfl (lv_at hl 1 rfl) ?_
      refine va_get (D := G) (ci := 8) (v := .ref a_t_house) (C := RX8) (T := TX8) (N := 14) hx hb hg inX8 hown hKT hP 0 rfl rfl 0 (by decide) (hg _ gF_X8_10) (fun _ h9 => h9) rfl dX8_copies_33 ?_
      refine lv_iload_n hx hb dX8_copies_36 rfl (lv_at hl 2 rfl) ?_
      refine lv_iload_n hx hb dX8_copies_37 rfl (lv_at hl 0 rfl) ?_
      obtain ⟨q6, hq6, hB⟩ := bnd hB
      refine kr_VN (WC := wd_X0_isConvinced cs a_t_house a_t_house_turn a_t_house_bent v_t_house_opinions v_t_house_lines v_t_house_books v_t_house_told v_t_house_scribes v_t_house_need g_t_house_turn g_t_house_bent) (As := [.int p1, .int q3]) (rest := []) (r0 := q6) ⟨hx, hb, hml, hown, hg⟩ (k_X0_isConvinced l G cs a_t_house a_t_house_turn a_t_house_bent v_t_house_opinions v_t_house_lines v_t_house_books v_t_house_told v_t_house_scribes v_t_house_need g_t_house_turn g_t_house_bent p1 q3 q6 hq6) nM_X8_143_l mI_X0_isConvinced (rmk rfl) hP hKT hN 1 rfl rfl [1, 2, 3] rfl rfl hl.1 rfl (Nat.le_of_ble_eq_true rfl) dX8_copies_38 ?_
      refine lv_if_ne (tgt := 57) hx hb dX8_copies_41 (by decide) (fun c_7 => ?_) (fun c_7 => ?_)
      · have hB := ifN c_7 hB
        refine lv_bipush (v := -2) hx hb dX8_copies_57 (by decide) ?_
        have hK := leafK hB hK
        have hK : ((-2 : Int32), v_t_standing_known, g_t_standing_rows) = R0 := hK
        subst hK
        exact W.iret (v := (-2 : Int32)) hx hb hr (fun t ht hW => ⟨⟨_, (), rfl, rfl, by rw [ht]; exact hP, hD⟩, hS.F ht⟩) hS.2.2 dX8_copies_59
      · have hB := ifP c_7 hB
        refine lv_aload_n hx hb dX8_copies_44 rfl (lv_at hl 1 rfl) ?_
        refine va_get (D := G) (ci := 8) (v := .ref a_t_standing) (C := RX8) (T := TX8) (N := 14) hx hb hg inX8 hown hKT hP 0 rfl rfl 4 (by decide) (hg _ gF_X8_36) (fun _ h9 => h9) rfl dX8_copies_45 ?_
        obtain ⟨q8, hq8, hB⟩ := bnd hB
        refine kr_VN (WC := wd_X6_copiesNow cs a_t_standing a_t_standing_rows r_t_standing_rows v_t_standing_known g_t_standing_rows) (As := []) (rest := []) (r0 := q8) ⟨hx, hb, hml, hown, hg⟩ (k_X6_copiesNow l G cs a_t_standing a_t_standing_rows r_t_standing_rows v_t_standing_known g_t_standing_rows q8 hq8) nM_X8_156_l mI_X6_copiesNow (rmk rfl) hP hKT hN 4 rfl rfl [4, 5, 6, 7, 8, 9, 10, 11, 12, 13, 14, 15, 16] rfl rfl hl.1 rfl (Nat.le_of_ble_eq_true rfl) dX8_copies_48 ?_
        refine lv_sipush (v := 999) hx hb dX8_copies_51 (by decide) ?_
        refine lv_icmp_lt (tgt := 60) hx hb dX8_copies_54 (by decide) (fun c_9 => ?_) (fun c_9 => ?_)
        · have hB := ifP c_9 hB
          refine lv_aload_n hx hb dX8_copies_60 rfl (lv_at hl 1 rfl) ?_
          refine va_get (D := G) (ci := 8) (v := .ref a_t_standing) (C := RX8) (T := TX8) (N := 14) hx hb hg inX8 hown hKT hP 0 rfl rfl 4 (by decide) (hg _ gF_X8_36) (fun _ h9 => h9) rfl dX8_copies_61 ?_
          obtain ⟨⟨q10_0, q10_1⟩, hq10, hB⟩ := bnd hB
          refine kw_v (WC := wd_X6_remember cs a_t_standing a_t_standing_rows r_t_standing_rows v_t_standing_known g_t_standing_rows) (W1 := wd_X6_remember cs a_t_standing a_t_standing_rows r_t_standing_rows q10_0 q10_1) (W2 := wd_X8_copies cs a_t a_t_house a_t_draft a_t_reader a_t_laws a_t_standing a_t_imageZero a_t_imageOne a_t_rounds a_t_ways a_t_margins a_t_marks a_t_house_turn a_t_house_bent a_t_standing_rows r_t_standing_rows v_t_keptZero v_t_keptOne v_t_target v_t_house_opinions v_t_house_lines v_t_house_books v_t_house_told v_t_house_scribes v_t_house_need g_t_house_turn g_t_house_bent q10_0 q10_1) (rw_VN (As := []) (rest := []) ⟨hx, hb, hml, hown, hg⟩ (k_X6_remember l G cs a_t_standing a_t_standing_rows r_t_standing_rows v_t_standing_known g_t_standing_rows H.size (q10_0, q10_1) hq10) nM_X8_159_l mI_X6_remember (rmk rfl) hP hD hKT hN 4 rfl rfl [4, 5, 6, 7, 8, 9, 10, 11, 12, 13, 14, 15, 16] rfl rfl rfl hl.1 rfl (Nat.le_of_ble_eq_true rfl) dX8_copies_64) hP hD hS hA [4, 5, 6, 7, 8, 9, 10, 11, 12, 13, 14, 15, 16] [0, 1, 2, 3] [0, 1, 2, 3, 4, 5, 6, 7, 8, 9, 10, 11, 12, 13, 14, 15, 16] ⟨rfl, rfl, rfl, rfl, rfl, rfl, rfl⟩ (fun H locs hP hD hS => ?_)
          refine lv_aload_n hx hb dX8_copies_67 rfl (lv_at hl 1 rfl) ?_
          refine va_get (D := G) (ci := 8) (v := .ref a_t_standing) (C := RX8) (T := TX8) (N := 14) hx hb hg inX8 hown hKT hP 0 rfl rfl 4 (by decide) (hg _ gF_X8_36) (fun _ h9 => h9) rfl dX8_copies_68 ?_
          refine lv_iload_n hx hb dX8_copies_71 rfl (lv_at hl 2 rfl) ?_
          refine lv_aload_n hx hb dX8_copies_72 rfl (lv_at hl 1 rfl) ?_
          refine va_get (D := G) (ci := 8) (v := .ref a_t_house) (C := RX8) (T := TX8) (N := 14) hx hb hg inX8 hown hKT hP 0 rfl rfl 0 (by decide) (hg _ gF_X8_10) (fun _ h9 => h9) rfl dX8_copies_73 ?_
          refine lv_iload_n hx hb dX8_copies_76 rfl (lv_at hl 2 rfl) ?_
          refine lv_iload_n hx hb dX8_copies_77 rfl (lv_at hl 0 rfl) ?_
          obtain ⟨q11, hq11, hB⟩ := bnd hB
          refine kr_VN (WC := wd_X0_becomes cs a_t_house a_t_house_turn a_t_house_bent v_t_house_opinions v_t_house_lines v_t_house_books v_t_house_told v_t_house_scribes v_t_house_need g_t_house_turn g_t_house_bent) (As := [.int p1, .int q3]) (rest := [.int p1, .ref a_t_standing]) (r0 := q11) ⟨hx, hb, hml, hown, hg⟩ (k_X0_becomes l G cs a_t_house a_t_house_turn a_t_house_bent v_t_house_opinions v_t_house_lines v_t_house_books v_t_house_told v_t_house_scribes v_t_house_need g_t_house_turn g_t_house_bent p1 q3 q11 hq11) nM_X8_162_l mI_X0_becomes (rmk rfl) hP hKT hN 1 rfl rfl [1, 2, 3] rfl rfl hl.1 rfl (Nat.le_of_ble_eq_true rfl) dX8_copies_78 ?_
          obtain ⟨q12, hq12, hB⟩ := bnd hB
          refine kw_v (WC := wd_X6_copied cs a_t_standing a_t_standing_rows r_t_standing_rows q10_0 q10_1) (W1 := wd_X6_copied cs a_t_standing a_t_standing_rows r_t_standing_rows q10_0 q12) (W2 := wd_X8_copies cs a_t a_t_house a_t_draft a_t_reader a_t_laws a_t_standing a_t_imageZero a_t_imageOne a_t_rounds a_t_ways a_t_margins a_t_marks a_t_house_turn a_t_house_bent a_t_standing_rows r_t_standing_rows v_t_keptZero v_t_keptOne v_t_target v_t_house_opinions v_t_house_lines v_t_house_books v_t_house_told v_t_house_scribes v_t_house_need g_t_house_turn g_t_house_bent q10_0 q12) (rw_VN (As := [.int p1, .int q11]) (rest := []) ⟨hx, hb, hml, hown, hg⟩ (k_X6_copied l G cs a_t_standing a_t_standing_rows r_t_standing_rows q10_0 q10_1 p1 q11 H.size q12 hq12) nM_X8_165_l mI_X6_copied (rmk rfl) hP hD hKT hN 4 rfl rfl [4, 5, 6, 7, 8, 9, 10, 11, 12, 13, 14, 15, 16] rfl rfl rfl hl.1 rfl (Nat.le_of_ble_eq_true rfl) dX8_copies_81) hP hD hS hA [4, 5, 6, 7, 8, 9, 10, 11, 12, 13, 14, 15, 16] [0, 1, 2, 3] [0, 1, 2, 3, 4, 5, 6, 7, 8, 9, 10, 11, 12, 13, 14, 15, 16] ⟨rfl, rfl, rfl, rfl, rfl, rfl, rfl⟩ (fun H locs hP hD hS => ?_)
          refine lv_aload_n hx hb dX8_copies_84 rfl (lv_at hl 1 rfl) ?_
          refine va_get (D := G) (ci := 8) (v := .ref a_t_standing) (C := RX8) (T := TX8) (N := 14) hx hb hg inX8 hown hKT hP 0 rfl rfl 4 (by decide) (hg _ gF_X8_36) (fun _ h9 => h9) rfl dX8_copies_85 ?_
          obtain ⟨q13, hq13, hB⟩ := bnd hB
          refine kr_VN (WC := wd_X6_copiesNow cs a_t_standing a_t_standing_rows r_t_standing_rows q10_0 q12) (As := []) (rest := []) (r0 := q13) ⟨hx, hb, hml, hown, hg⟩ (k_X6_copiesNow l G cs a_t_standing a_t_standing_rows r_t_standing_rows q10_0 q12 q13 hq13) nM_X8_156_l mI_X6_copiesNow (rmk rfl) hP hKT hN 4 rfl rfl [4, 5, 6, 7, 8, 9, 10, 11, 12, 13, 14, 15, 16] rfl rfl hl.1 rfl (Nat.le_of_ble_eq_true rfl) dX8_copies_88 ?_
          have hK := leafK hB hK
          have hK : (q13, q10_0, q12) = R0 := hK
          subst hK
          exact W.iret (v := q13) hx hb hr (fun t ht hW => ⟨⟨_, (), rfl, rfl, by rw [ht]; exact hP, hD⟩, hS.F ht⟩) hS.2.2 dX8_copies_91
        · have hB := ifN c_9 hB
          refine lv_bipush (v := -2) hx hb dX8_copies_57 (by decide) ?_
          have hK := leafK hB hK
          have hK : ((-2 : Int32), v_t_standing_known, g_t_standing_rows) = R0 := hK
          subst hK
          exact W.iret (v := (-2 : Int32)) hx hb hr (fun t ht hW => ⟨⟨_, (), rfl, rfl, by rw [ht]; exact hP, hD⟩, hS.F ht⟩) hS.2.2 dX8_copies_59
  · have hB := ifP c_2 hB
    refine lv_iconst (v := -1) hx hb dX8_copies_11 (by decide) ?_
    have hK := leafK hB hK
    have hK : ((-1 : Int32), v_t_standing_known, g_t_standing_rows) = R0 := hK
    subst hK
    exact W.iret (v := (-1 : Int32)) hx hb hr (fun t ht hW => ⟨⟨_, (), rfl, rfl, by rw [ht]; exact hP, hD⟩, hS.F ht⟩) hS.2.2 dX8_copies_12
def wd_X8_errs (cs : Nat → ClassId) (a_t a_t_house a_t_draft a_t_reader a_t_laws a_t_standing a_t_imageZero a_t_imageOne a_t_rounds a_t_ways a_t_margins a_t_marks a_t_house_turn a_t_house_bent a_t_standing_rows : Nat) (r_t_standing_rows : Nat → Nat) (v_t_keptZero : Int32) (v_t_keptOne : Int32) (v_t_target : Int32) (v_t_house_opinions : Int32) (v_t_house_lines : Int32) (v_t_house_books : Int32) (v_t_house_told : Int32) (v_t_house_scribes : Int32) (v_t_house_need : Int32) (v_t_standing_known : Int32) (g_t_standing_rows : Nat → Nat → Int32) : va_W := (a_t, .inr (8, [.ref a_t_house, .ref a_t_draft, .ref a_t_reader, .ref a_t_laws, .ref a_t_standing, .ref a_t_imageZero, .ref a_t_imageOne, .int v_t_keptZero, .int v_t_keptOne, .int v_t_target, .ref a_t_rounds, .ref a_t_ways, .ref a_t_margins, .ref a_t_marks])) :: (a_t_house, .inr (0, [.int v_t_house_opinions, .int v_t_house_lines, .int v_t_house_books, .int v_t_house_told, .int v_t_house_scribes, .int v_t_house_need, .ref a_t_house_turn, .ref a_t_house_bent])) :: (a_t_standing, .inr (6, [.ref a_t_standing_rows, .int v_t_standing_known])) :: (a_t_standing_rows, .inl (cs 3, 11, .inr (.inr (.inr (.inr (gO r_t_standing_rows)))))) :: gR (cs 0) r_t_standing_rows g_t_standing_rows
def rm_X8_errs : Room := { frames := 3, cells := 0, slots := 0, locals := 104 }
theorem mI_X8_errs : MI yX8_errs RX8 cX8_errs 5 (some .int) 2 := ⟨gI_X8_errs, gE_X8_errs, gN_X8, gC_X8_errs, by decide +kernel⟩
set_option maxHeartbeats 4000000 in
set_option maxRecDepth 100000 in
theorem k_X8_errs (l : Launch) (G : va_G) (cs : Nat → ClassId) (a_t a_t_house a_t_draft a_t_reader a_t_laws a_t_standing a_t_imageZero a_t_imageOne a_t_rounds a_t_ways a_t_margins a_t_marks a_t_house_turn a_t_house_bent a_t_standing_rows : Nat) (r_t_standing_rows : Nat → Nat) (v_t_keptZero : Int32) (v_t_keptOne : Int32) (v_t_target : Int32) (v_t_house_opinions : Int32) (v_t_house_lines : Int32) (v_t_house_books : Int32) (v_t_house_told : Int32) (v_t_house_scribes : Int32) (v_t_house_need : Int32) (v_t_standing_known : Int32) (g_t_standing_rows : Nat → Nat → Int32) (p1 p2 : Int32) (sz : Nat) (R0 : Int32 × Int32 × (Nat → Nat → Int32)) (hB : f_X8_errs v_t_house_opinions v_t_house_lines v_t_standing_known g_t_standing_rows p1 p2 = some R0) : Met l yX8_errs (.code yX8_errs cX8_errs 5 (some .int) :: GW) rm_X8_errs (PcW G cs [.ref a_t, .int p1, .int p2] (wd_X8_errs cs a_t a_t_house a_t_draft a_t_reader a_t_laws a_t_standing a_t_imageZero a_t_imageOne a_t_rounds a_t_ways a_t_margins a_t_marks a_t_house_turn a_t_house_bent a_t_standing_rows r_t_standing_rows v_t_keptZero v_t_keptOne v_t_target v_t_house_opinions v_t_house_lines v_t_house_books v_t_house_told v_t_house_scribes v_t_house_need v_t_standing_known g_t_standing_rows) sz) (QcI G (va_A (wd_X8_errs cs a_t a_t_house a_t_draft a_t_reader a_t_laws a_t_standing a_t_imageZero a_t_imageOne a_t_rounds a_t_ways a_t_margins a_t_marks a_t_house_turn a_t_house_bent a_t_standing_rows r_t_standing_rows v_t_keptZero v_t_keptOne v_t_target v_t_house_opinions v_t_house_lines v_t_house_books v_t_house_told v_t_house_scribes v_t_house_need v_t_standing_known g_t_standing_rows) sz) (wd_X8_errs cs a_t a_t_house a_t_draft a_t_reader a_t_laws a_t_standing a_t_imageZero a_t_imageOne a_t_rounds a_t_ways a_t_margins a_t_marks a_t_house_turn a_t_house_bent a_t_standing_rows r_t_standing_rows v_t_keptZero v_t_keptOne v_t_target v_t_house_opinions v_t_house_lines v_t_house_books v_t_house_told v_t_house_scribes v_t_house_need R0.2.1 R0.2.2) R0.1) 0 0 (va_A (wd_X8_errs cs a_t a_t_house a_t_draft a_t_reader a_t_laws a_t_standing a_t_imageZero a_t_imageOne a_t_rounds a_t_ways a_t_margins a_t_marks a_t_house_turn a_t_house_bent a_t_standing_rows r_t_standing_rows v_t_keptZero v_t_keptOne v_t_target v_t_house_opinions v_t_house_lines v_t_house_books v_t_house_told v_t_house_scribes v_t_house_need v_t_standing_known g_t_standing_rows) sz) := by
  refine Met.ofW (cc := cX8_errs) (maxL := 5) (ret := (some .int)) (by decide) rfl ?_
  intro p e s m args below meth c s₁ B hml hv
  obtain ⟨rfl, hsz, hP, hD0, hK, hN⟩ := hv
  have hx := B.exec
  have hb := B.bytes
  have hr := B.returns
  have hts := atoms_spec (ws := .code yX8_errs cX8_errs 5 (some .int) :: GW) B.pre
  have hg : ∀ w ∈ GW, w.before _ s = true := fun w h => hts w (List.mem_cons_of_mem _ h)
  have hown : s.vm.findClass RX8 = some m.cls := findClass_of_methodNamed B.named
  have hlocks := B.notSynchronized
  subst hsz
  have hD := hD0.self (sz := s.heap.size)
  generalize hAe : va_A (wd_X8_errs cs a_t a_t_house a_t_draft a_t_reader a_t_laws a_t_standing a_t_imageZero a_t_imageOne a_t_rounds a_t_ways a_t_margins a_t_marks a_t_house_turn a_t_house_bent a_t_standing_rows r_t_standing_rows v_t_keptZero v_t_keptOne v_t_target v_t_house_opinions v_t_house_lines v_t_house_books v_t_house_told v_t_house_scribes v_t_house_need v_t_standing_known g_t_standing_rows) s.heap.size = A at hD ⊢
  have hA : ∀ q : Nat, s.heap.size ≤ q → A q := fun q h => by rw [← hAe]; exact Or.inr h
  have hS : va_S A s.heap s.heap [] := va_S.rf
  have hl := lv_entry ([.ref a_t, .int p1, .int p2]) (n := 5) (Nat.le_of_ble_eq_true rfl)
  rw [lg_entry_eq]
  generalize (lg_sl ([.ref a_t, .int p1, .int p2]) ++ List.replicate (5 - (lg_sl ([.ref a_t, .int p1, .int p2])).length) Slot.unset).toArray = ls at hl ⊢
  have hl : lv_has ls 5 [(0, .ref a_t), (1, .int p1), (2, .int p2)] := hl
  obtain ⟨y, hB, hK0⟩ : ∃ y, f_X8_errs v_t_house_opinions v_t_house_lines v_t_standing_known g_t_standing_rows p1 p2 = some y ∧ KEnd R0 y := ⟨R0, hB, rfl⟩
  have hKT := hK
  have hK := hK0
  obtain ⟨H, hHe⟩ : ∃ H, H = s.heap := ⟨_, rfl⟩
  obtain ⟨locs, hLe⟩ : ∃ L : List Loc, L = [] := ⟨_, rfl⟩
  rw [← hHe] at hP
  have hS : va_S A s.heap H locs := by rw [hHe, hLe]; exact hS
  show W p l e rm_X8_errs s m ([.ref a_t, .int p1, .int p2] : List Value).toArray below meth c s.heap [] 0 0 _ _
  suffices hgo : W p l e rm_X8_errs s m ([.ref a_t, .int p1, .int p2] : List Value).toArray below meth c H locs 0 0 (MQ below (QcI G A (wd_X8_errs cs a_t a_t_house a_t_draft a_t_reader a_t_laws a_t_standing a_t_imageZero a_t_imageOne a_t_rounds a_t_ways a_t_margins a_t_marks a_t_house_turn a_t_house_bent a_t_standing_rows r_t_standing_rows v_t_keptZero v_t_keptOne v_t_target v_t_house_opinions v_t_house_lines v_t_house_books v_t_house_told v_t_house_scribes v_t_house_need R0.2.1 R0.2.2) R0.1) ([.ref a_t, .int p1, .int p2] : List Value).toArray s 0 0 A) (F0 m 0 ls []) by rw [hHe, hLe] at hgo; exact hgo
  refine lv_aload_n hx hb dX8_errs_0 rfl (lv_at hl 0 rfl) ?_
  refine va_get (D := G) (ci := 8) (v := .ref a_t_house) (C := RX8) (T := TX8) (N := 14) hx hb hg inX8 hown hKT hP 0 rfl rfl 0 (by decide) (hg _ gF_X8_10) (fun _ h9 => h9) rfl dX8_errs_1 ?_
  refine lv_iload_n hx hb dX8_errs_4 rfl (lv_at hl 1 rfl) ?_
  obtain ⟨q1, hq1, hB⟩ := bnd hB
  refine kr_VN (WC := wd_X0_hasLine cs a_t_house a_t_house_turn a_t_house_bent v_t_house_opinions v_t_house_lines v_t_house_books v_t_house_told v_t_house_scribes v_t_house_need) (As := [.int p1]) (rest := []) (r0 := q1) ⟨hx, hb, hml, hown, hg⟩ (k_X0_hasLine l G cs a_t_house a_t_house_turn a_t_house_bent v_t_house_opinions v_t_house_lines v_t_house_books v_t_house_told v_t_house_scribes v_t_house_need p1 q1 hq1) nM_X8_114_l mI_X0_hasLine (rmk rfl) hP hKT hN 1 rfl rfl [1] rfl rfl hl.1 rfl (Nat.le_of_ble_eq_true rfl) dX8_errs_5 ?_
  refine lv_if_eq (tgt := 22) hx hb dX8_errs_8 (by decide) (fun c_2 => ?_) (fun c_2 => ?_)
  · have hB := ifP c_2 hB
    refine lv_iconst (v := -1) hx hb dX8_errs_22 (by decide) ?_
    have hK := leafK hB hK
    have hK : ((-1 : Int32), v_t_standing_known, g_t_standing_rows) = R0 := hK
    subst hK
    exact W.iret (v := (-1 : Int32)) hx hb hr (fun t ht hW => ⟨⟨_, (), rfl, rfl, by rw [ht]; exact hP, hD⟩, hS.F ht⟩) hS.2.2 dX8_errs_23
  · have hB := ifN c_2 hB
    refine lv_aload_n hx hb dX8_errs_11 rfl (lv_at hl 0 rfl) ?_
    refine va_get (D := G) (ci := 8) (v := .ref a_t_house) (C := RX8) (T := TX8) (N := 14) hx hb hg inX8 hown hKT hP 0 rfl rfl 0 (by decide) (hg _ gF_X8_10) (fun _ h9 => h9) rfl dX8_errs_12 ?_
    refine lv_iload_n hx hb dX8_errs_15 rfl (lv_at hl 2 rfl) ?_
    obtain ⟨q3, hq3, hB⟩ := bnd hB
    refine kr_VN (WC := wd_X0_hasOpinion cs a_t_house a_t_house_turn a_t_house_bent v_t_house_opinions v_t_house_lines v_t_house_books v_t_house_told v_t_house_scribes v_t_house_need) (As := [.int p2]) (rest := []) (r0 := q3) ⟨hx, hb, hml, hown, hg⟩ (k_X0_hasOpinion l G cs a_t_house a_t_house_turn a_t_house_bent v_t_house_opinions v_t_house_lines v_t_house_books v_t_house_told v_t_house_scribes v_t_house_need p2 q3 hq3) nM_X8_150_l mI_X0_hasOpinion (rmk rfl) hP hKT hN 1 rfl rfl [1] rfl rfl hl.1 rfl (Nat.le_of_ble_eq_true rfl) dX8_errs_16 ?_
    refine lv_if_ne (tgt := 24) hx hb dX8_errs_19 (by decide) (fun c_4 => ?_) (fun c_4 => ?_)
    · have hB := ifN c_4 hB
      refine lv_aload_n hx hb dX8_errs_24 rfl (lv_at hl 0 rfl) ?_
      refine va_get (D := G) (ci := 8) (v := .ref a_t_standing) (C := RX8) (T := TX8) (N := 14) hx hb hg inX8 hown hKT hP 0 rfl rfl 4 (by decide) (hg _ gF_X8_36) (fun _ h9 => h9) rfl dX8_errs_25 ?_
      obtain ⟨q5, hq5, hB⟩ := bnd hB
      refine kr_VN (WC := wd_X6_book cs a_t_standing a_t_standing_rows r_t_standing_rows v_t_standing_known g_t_standing_rows) (As := []) (rest := []) (r0 := q5) ⟨hx, hb, hml, hown, hg⟩ (k_X6_book l G cs a_t_standing a_t_standing_rows r_t_standing_rows v_t_standing_known g_t_standing_rows q5 hq5) nM_X8_117_l mI_X6_book (rmk rfl) hP hKT hN 2 rfl rfl [2, 3, 4, 5, 6, 7, 8, 9, 10, 11, 12, 13, 14] rfl rfl hl.1 rfl (Nat.le_of_ble_eq_true rfl) dX8_errs_28 ?_
      refine lv_istore_n (lv' := [(3, .int q5), (0, .ref a_t), (1, .int p1), (2, .int p2)]) hx hb dX8_errs_31 rfl hl (by decide) rfl (fun ls hl => ?_)
      refine lv_aload_n hx hb dX8_errs_32 rfl (lv_at hl 1 rfl) ?_
      refine va_get (D := G) (ci := 8) (v := .ref a_t_house) (C := RX8) (T := TX8) (N := 14) hx hb hg inX8 hown hKT hP 0 rfl rfl 0 (by decide) (hg _ gF_X8_10) (fun _ h9 => h9) rfl dX8_errs_33 ?_
      refine lv_iload_n hx hb dX8_errs_36 rfl (lv_at hl 0 rfl) ?_
      refine lv_iload_n hx hb dX8_errs_37 rfl (lv_at hl 2 rfl) ?_
      obtain ⟨q6, hq6, hB⟩ := bnd hB
      refine kr_VN (WC := wd_X0_lineOf cs a_t_house a_t_house_turn a_t_house_bent v_t_house_opinions v_t_house_lines v_t_house_books v_t_house_told v_t_house_scribes v_t_house_need) (As := [.int q5, .int p1]) (rest := []) (r0 := q6) ⟨hx, hb, hml, hown, hg⟩ (k_X0_lineOf l G cs a_t_house a_t_house_turn a_t_house_bent v_t_house_opinions v_t_house_lines v_t_house_books v_t_house_told v_t_house_scribes v_t_house_need q5 p1 q6 hq6) nM_X8_120_l mI_X0_lineOf (rmk rfl) hP hKT hN 1 rfl rfl [1] rfl rfl hl.1 rfl (Nat.le_of_ble_eq_true rfl) dX8_errs_38 ?_
      refine lv_istore (lv' := [(4, .int q6), (3, .int q5), (0, .ref a_t), (1, .int p1), (2, .int p2)]) hx hb dX8_errs_41 hl (by decide) rfl (fun ls hl => ?_)
      refine lv_iload hx hb dX8_errs_43 (lv_at hl 0 rfl) ?_
      refine lv_iload_n hx hb dX8_errs_45 rfl (lv_at hl 4 rfl) ?_
      refine lv_icmp_ne (tgt := 52) hx hb dX8_errs_46 (by decide) (fun c_7 => ?_) (fun c_7 => ?_)
      · have hB := ifN c_7 hB
        refine lv_aload_n hx hb dX8_errs_52 rfl (lv_at hl 2 rfl) ?_
        refine va_get (D := G) (ci := 8) (v := .ref a_t_standing) (C := RX8) (T := TX8) (N := 14) hx hb hg inX8 hown hKT hP 0 rfl rfl 4 (by decide) (hg _ gF_X8_36) (fun _ h9 => h9) rfl dX8_errs_53 ?_
        obtain ⟨⟨q8_0, q8_1⟩, hq8, hB⟩ := bnd hB
        refine kw_v (WC := wd_X6_remember cs a_t_standing a_t_standing_rows r_t_standing_rows v_t_standing_known g_t_standing_rows) (W1 := wd_X6_remember cs a_t_standing a_t_standing_rows r_t_standing_rows q8_0 q8_1) (W2 := wd_X8_errs cs a_t a_t_house a_t_draft a_t_reader a_t_laws a_t_standing a_t_imageZero a_t_imageOne a_t_rounds a_t_ways a_t_margins a_t_marks a_t_house_turn a_t_house_bent a_t_standing_rows r_t_standing_rows v_t_keptZero v_t_keptOne v_t_target v_t_house_opinions v_t_house_lines v_t_house_books v_t_house_told v_t_house_scribes v_t_house_need q8_0 q8_1) (rw_VN (As := []) (rest := []) ⟨hx, hb, hml, hown, hg⟩ (k_X6_remember l G cs a_t_standing a_t_standing_rows r_t_standing_rows v_t_standing_known g_t_standing_rows H.size (q8_0, q8_1) hq8) nM_X8_159_l mI_X6_remember (rmk rfl) hP hD hKT hN 2 rfl rfl [2, 3, 4, 5, 6, 7, 8, 9, 10, 11, 12, 13, 14] rfl rfl rfl hl.1 rfl (Nat.le_of_ble_eq_true rfl) dX8_errs_56) hP hD hS hA [2, 3, 4, 5, 6, 7, 8, 9, 10, 11, 12, 13, 14] [0, 1] [0, 1, 2, 3, 4, 5, 6, 7, 8, 9, 10, 11, 12, 13, 14] ⟨rfl, rfl, rfl, rfl, rfl, rfl, rfl⟩ (fun H locs hP hD hS => ?_)
        refine lv_aload_n hx hb dX8_errs_59 rfl (lv_at hl 2 rfl) ?_
        refine va_get (D := G) (ci := 8) (v := .ref a_t_standing) (C := RX8) (T := TX8) (N := 14) hx hb hg inX8 hown hKT hP 0 rfl rfl 4 (by decide) (hg _ gF_X8_36) (fun _ h9 => h9) rfl dX8_errs_60 ?_
        refine lv_aload_n hx hb dX8_errs_63 rfl (lv_at hl 2 rfl) ?_
        refine va_get (D := G) (ci := 8) (v := .ref a_t_house) (C := RX8) (T := TX8) (N := 14) hx hb hg inX8 hown hKT hP 0 rfl rfl 0 (by decide) (hg _ gF_X8_10) (fun _ h9 => h9) rfl dX8_errs_64 ?_
        refine lv_iload_n hx hb dX8_errs_67 rfl (lv_at hl 1 rfl) ?_
        refine lv_iload_n hx hb dX8_errs_68 rfl (lv_at hl 3 rfl) ?_
        refine lv_iload_n hx hb dX8_errs_69 rfl (lv_at hl 4 rfl) ?_
        obtain ⟨q9, hq9, hB⟩ := bnd hB
        refine kr_VN (WC := wd_X0_withLine cs a_t_house a_t_house_turn a_t_house_bent v_t_house_opinions v_t_house_lines v_t_house_books v_t_house_told v_t_house_scribes v_t_house_need) (As := [.int q5, .int p1, .int p2]) (rest := [.ref a_t_standing]) (r0 := q9) ⟨hx, hb, hml, hown, hg⟩ (k_X0_withLine l G cs a_t_house a_t_house_turn a_t_house_bent v_t_house_opinions v_t_house_lines v_t_house_books v_t_house_told v_t_house_scribes v_t_house_need q5 p1 p2 q9 hq9) nM_X8_169_l mI_X0_withLine (rmk rfl) hP hKT hN 1 rfl rfl [1] rfl rfl hl.1 rfl (Nat.le_of_ble_eq_true rfl) dX8_errs_70 ?_
        obtain ⟨q10, hq10, hB⟩ := bnd hB
        refine kw_v (WC := wd_X6_setBook cs a_t_standing a_t_standing_rows r_t_standing_rows q8_0 q8_1) (W1 := wd_X6_setBook cs a_t_standing a_t_standing_rows r_t_standing_rows q8_0 q10) (W2 := wd_X8_errs cs a_t a_t_house a_t_draft a_t_reader a_t_laws a_t_standing a_t_imageZero a_t_imageOne a_t_rounds a_t_ways a_t_margins a_t_marks a_t_house_turn a_t_house_bent a_t_standing_rows r_t_standing_rows v_t_keptZero v_t_keptOne v_t_target v_t_house_opinions v_t_house_lines v_t_house_books v_t_house_told v_t_house_scribes v_t_house_need q8_0 q10) (rw_VN (As := [.int q9]) (rest := []) ⟨hx, hb, hml, hown, hg⟩ (k_X6_setBook l G cs a_t_standing a_t_standing_rows r_t_standing_rows q8_0 q8_1 q9 H.size q10 hq10) nM_X8_173_l mI_X6_setBook (rmk rfl) hP hD hKT hN 2 rfl rfl [2, 3, 4, 5, 6, 7, 8, 9, 10, 11, 12, 13, 14] rfl rfl rfl hl.1 rfl (Nat.le_of_ble_eq_true rfl) dX8_errs_73) hP hD hS hA [2, 3, 4, 5, 6, 7, 8, 9, 10, 11, 12, 13, 14] [0, 1] [0, 1, 2, 3, 4, 5, 6, 7, 8, 9, 10, 11, 12, 13, 14] ⟨rfl, rfl, rfl, rfl, rfl, rfl, rfl⟩ (fun H locs hP hD hS => ?_)
        refine lv_iload hx hb dX8_errs_76 (lv_at hl 0 rfl) ?_
        have hK := leafK hB hK
        have hK : (q6, q8_0, q10) = R0 := hK
        subst hK
        exact W.iret (v := q6) hx hb hr (fun t ht hW => ⟨⟨_, (), rfl, rfl, by rw [ht]; exact hP, hD⟩, hS.F ht⟩) hS.2.2 dX8_errs_78
      · have hB := ifP c_7 hB
        refine lv_bipush (v := -2) hx hb dX8_errs_49 (by decide) ?_
        have hK := leafK hB hK
        have hK : ((-2 : Int32), v_t_standing_known, g_t_standing_rows) = R0 := hK
        subst hK
        exact W.iret (v := (-2 : Int32)) hx hb hr (fun t ht hW => ⟨⟨_, (), rfl, rfl, by rw [ht]; exact hP, hD⟩, hS.F ht⟩) hS.2.2 dX8_errs_51
    · have hB := ifP c_4 hB
      refine lv_iconst (v := -1) hx hb dX8_errs_22 (by decide) ?_
      have hK := leafK hB hK
      have hK : ((-1 : Int32), v_t_standing_known, g_t_standing_rows) = R0 := hK
      subst hK
      exact W.iret (v := (-1 : Int32)) hx hb hr (fun t ht hW => ⟨⟨_, (), rfl, rfl, by rw [ht]; exact hP, hD⟩, hS.F ht⟩) hS.2.2 dX8_errs_23
def wd_X8_releases (cs : Nat → ClassId) (a_t a_t_house a_t_draft a_t_reader a_t_laws a_t_standing a_t_imageZero a_t_imageOne a_t_rounds a_t_ways a_t_margins a_t_marks a_t_house_turn a_t_house_bent a_t_standing_rows : Nat) (r_t_standing_rows : Nat → Nat) (v_t_keptZero : Int32) (v_t_keptOne : Int32) (v_t_target : Int32) (v_t_house_opinions : Int32) (v_t_house_lines : Int32) (v_t_house_books : Int32) (v_t_house_told : Int32) (v_t_house_scribes : Int32) (v_t_house_need : Int32) (v_t_standing_known : Int32) (g_t_standing_rows : Nat → Nat → Int32) : va_W := (a_t, .inr (8, [.ref a_t_house, .ref a_t_draft, .ref a_t_reader, .ref a_t_laws, .ref a_t_standing, .ref a_t_imageZero, .ref a_t_imageOne, .int v_t_keptZero, .int v_t_keptOne, .int v_t_target, .ref a_t_rounds, .ref a_t_ways, .ref a_t_margins, .ref a_t_marks])) :: (a_t_house, .inr (0, [.int v_t_house_opinions, .int v_t_house_lines, .int v_t_house_books, .int v_t_house_told, .int v_t_house_scribes, .int v_t_house_need, .ref a_t_house_turn, .ref a_t_house_bent])) :: (a_t_standing, .inr (6, [.ref a_t_standing_rows, .int v_t_standing_known])) :: (a_t_standing_rows, .inl (cs 3, 11, .inr (.inr (.inr (.inr (gO r_t_standing_rows)))))) :: gR (cs 0) r_t_standing_rows g_t_standing_rows
def rm_X8_releases : Room := { frames := 3, cells := 0, slots := 0, locals := 104 }
theorem mI_X8_releases : MI yX8_releases RX8 cX8_releases 3 (some .int) 2 := ⟨gI_X8_releases, gE_X8_releases, gN_X8, gC_X8_releases, by decide +kernel⟩
set_option maxHeartbeats 4000000 in
set_option maxRecDepth 100000 in
theorem k_X8_releases (l : Launch) (G : va_G) (cs : Nat → ClassId) (a_t a_t_house a_t_draft a_t_reader a_t_laws a_t_standing a_t_imageZero a_t_imageOne a_t_rounds a_t_ways a_t_margins a_t_marks a_t_house_turn a_t_house_bent a_t_standing_rows : Nat) (r_t_standing_rows : Nat → Nat) (v_t_keptZero : Int32) (v_t_keptOne : Int32) (v_t_target : Int32) (v_t_house_opinions : Int32) (v_t_house_lines : Int32) (v_t_house_books : Int32) (v_t_house_told : Int32) (v_t_house_scribes : Int32) (v_t_house_need : Int32) (v_t_standing_known : Int32) (g_t_standing_rows : Nat → Nat → Int32) (p1 p2 : Int32) (sz : Nat) (R0 : Int32 × Int32 × (Nat → Nat → Int32)) (hB : f_X8_releases v_t_house_scribes v_t_standing_known g_t_standing_rows p1 p2 = some R0) : Met l yX8_releases (.code yX8_releases cX8_releases 3 (some .int) :: GW) rm_X8_releases (PcW G cs [.ref a_t, .int p1, .int p2] (wd_X8_releases cs a_t a_t_house a_t_draft a_t_reader a_t_laws a_t_standing a_t_imageZero a_t_imageOne a_t_rounds a_t_ways a_t_margins a_t_marks a_t_house_turn a_t_house_bent a_t_standing_rows r_t_standing_rows v_t_keptZero v_t_keptOne v_t_target v_t_house_opinions v_t_house_lines v_t_house_books v_t_house_told v_t_house_scribes v_t_house_need v_t_standing_known g_t_standing_rows) sz) (QcI G (va_A (wd_X8_releases cs a_t a_t_house a_t_draft a_t_reader a_t_laws a_t_standing a_t_imageZero a_t_imageOne a_t_rounds a_t_ways a_t_margins a_t_marks a_t_house_turn a_t_house_bent a_t_standing_rows r_t_standing_rows v_t_keptZero v_t_keptOne v_t_target v_t_house_opinions v_t_house_lines v_t_house_books v_t_house_told v_t_house_scribes v_t_house_need v_t_standing_known g_t_standing_rows) sz) (wd_X8_releases cs a_t a_t_house a_t_draft a_t_reader a_t_laws a_t_standing a_t_imageZero a_t_imageOne a_t_rounds a_t_ways a_t_margins a_t_marks a_t_house_turn a_t_house_bent a_t_standing_rows r_t_standing_rows v_t_keptZero v_t_keptOne v_t_target v_t_house_opinions v_t_house_lines v_t_house_books v_t_house_told v_t_house_scribes v_t_house_need R0.2.1 R0.2.2) R0.1) 0 0 (va_A (wd_X8_releases cs a_t a_t_house a_t_draft a_t_reader a_t_laws a_t_standing a_t_imageZero a_t_imageOne a_t_rounds a_t_ways a_t_margins a_t_marks a_t_house_turn a_t_house_bent a_t_standing_rows r_t_standing_rows v_t_keptZero v_t_keptOne v_t_target v_t_house_opinions v_t_house_lines v_t_house_books v_t_house_told v_t_house_scribes v_t_house_need v_t_standing_known g_t_standing_rows) sz) := by
  refine Met.ofW (cc := cX8_releases) (maxL := 3) (ret := (some .int)) (by decide) rfl ?_
  intro p e s m args below meth c s₁ B hml hv
  obtain ⟨rfl, hsz, hP, hD0, hK, hN⟩ := hv
  have hx := B.exec
  have hb := B.bytes
  have hr := B.returns
  have hts := atoms_spec (ws := .code yX8_releases cX8_releases 3 (some .int) :: GW) B.pre
  have hg : ∀ w ∈ GW, w.before _ s = true := fun w h => hts w (List.mem_cons_of_mem _ h)
  have hown : s.vm.findClass RX8 = some m.cls := findClass_of_methodNamed B.named
  have hlocks := B.notSynchronized
  subst hsz
  have hD := hD0.self (sz := s.heap.size)
  generalize hAe : va_A (wd_X8_releases cs a_t a_t_house a_t_draft a_t_reader a_t_laws a_t_standing a_t_imageZero a_t_imageOne a_t_rounds a_t_ways a_t_margins a_t_marks a_t_house_turn a_t_house_bent a_t_standing_rows r_t_standing_rows v_t_keptZero v_t_keptOne v_t_target v_t_house_opinions v_t_house_lines v_t_house_books v_t_house_told v_t_house_scribes v_t_house_need v_t_standing_known g_t_standing_rows) s.heap.size = A at hD ⊢
  have hA : ∀ q : Nat, s.heap.size ≤ q → A q := fun q h => by rw [← hAe]; exact Or.inr h
  have hS : va_S A s.heap s.heap [] := va_S.rf
  have hl := lv_entry ([.ref a_t, .int p1, .int p2]) (n := 3) (Nat.le_of_ble_eq_true rfl)
  rw [lg_entry_eq]
  generalize (lg_sl ([.ref a_t, .int p1, .int p2]) ++ List.replicate (3 - (lg_sl ([.ref a_t, .int p1, .int p2])).length) Slot.unset).toArray = ls at hl ⊢
  have hl : lv_has ls 3 [(0, .ref a_t), (1, .int p1), (2, .int p2)] := hl
  obtain ⟨y, hB, hK0⟩ : ∃ y, f_X8_releases v_t_house_scribes v_t_standing_known g_t_standing_rows p1 p2 = some y ∧ KEnd R0 y := ⟨R0, hB, rfl⟩
  have hKT := hK
  have hK := hK0
  obtain ⟨H, hHe⟩ : ∃ H, H = s.heap := ⟨_, rfl⟩
  obtain ⟨locs, hLe⟩ : ∃ L : List Loc, L = [] := ⟨_, rfl⟩
  rw [← hHe] at hP
  have hS : va_S A s.heap H locs := by rw [hHe, hLe]; exact hS
  show W p l e rm_X8_releases s m ([.ref a_t, .int p1, .int p2] : List Value).toArray below meth c s.heap [] 0 0 _ _
  suffices hgo : W p l e rm_X8_releases s m ([.ref a_t, .int p1, .int p2] : List Value).toArray below meth c H locs 0 0 (MQ below (QcI G A (wd_X8_releases cs a_t a_t_house a_t_draft a_t_reader a_t_laws a_t_standing a_t_imageZero a_t_imageOne a_t_rounds a_t_ways a_t_margins a_t_marks a_t_house_turn a_t_house_bent a_t_standing_rows r_t_standing_rows v_t_keptZero v_t_keptOne v_t_target v_t_house_opinions v_t_house_lines v_t_house_books v_t_house_told v_t_house_scribes v_t_house_need R0.2.1 R0.2.2) R0.1) ([.ref a_t, .int p1, .int p2] : List Value).toArray s 0 0 A) (F0 m 0 ls []) by rw [hHe, hLe] at hgo; exact hgo
  refine lv_aload_n hx hb dX8_releases_0 rfl (lv_at hl 0 rfl) ?_
  refine va_get (D := G) (ci := 8) (v := .ref a_t_house) (C := RX8) (T := TX8) (N := 14) hx hb hg inX8 hown hKT hP 0 rfl rfl 0 (by decide) (hg _ gF_X8_10) (fun _ h9 => h9) rfl dX8_releases_1 ?_
  refine lv_iload_n hx hb dX8_releases_4 rfl (lv_at hl 1 rfl) ?_
  obtain ⟨q1, hq1, hB⟩ := bnd hB
  refine kr_VN (WC := wd_X0_hasScribe cs a_t_house a_t_house_turn a_t_house_bent v_t_house_opinions v_t_house_lines v_t_house_books v_t_house_told v_t_house_scribes v_t_house_need) (As := [.int p1]) (rest := []) (r0 := q1) ⟨hx, hb, hml, hown, hg⟩ (k_X0_hasScribe l G cs a_t_house a_t_house_turn a_t_house_bent v_t_house_opinions v_t_house_lines v_t_house_books v_t_house_told v_t_house_scribes v_t_house_need p1 q1 hq1) nM_X8_124_l mI_X0_hasScribe (rmk rfl) hP hKT hN 1 rfl rfl [1] rfl rfl hl.1 rfl (Nat.le_of_ble_eq_true rfl) dX8_releases_5 ?_
  refine lv_if_eq (tgt := 20) hx hb dX8_releases_8 (by decide) (fun c_2 => ?_) (fun c_2 => ?_)
  · have hB := ifP c_2 hB
    refine lv_iconst (v := -1) hx hb dX8_releases_20 (by decide) ?_
    have hK := leafK hB hK
    have hK : ((-1 : Int32), v_t_standing_known, g_t_standing_rows) = R0 := hK
    subst hK
    exact W.iret (v := (-1 : Int32)) hx hb hr (fun t ht hW => ⟨⟨_, (), rfl, rfl, by rw [ht]; exact hP, hD⟩, hS.F ht⟩) hS.2.2 dX8_releases_21
  · have hB := ifN c_2 hB
    refine lv_iload_n hx hb dX8_releases_11 rfl (lv_at hl 2 rfl) ?_
    refine lv_if_lt (tgt := 20) hx hb dX8_releases_12 (by decide) (fun c_3 => ?_) (fun c_3 => ?_)
    · have hB := ifP c_3 hB
      refine lv_iconst (v := -1) hx hb dX8_releases_20 (by decide) ?_
      have hK := leafK hB hK
      have hK : ((-1 : Int32), v_t_standing_known, g_t_standing_rows) = R0 := hK
      subst hK
      exact W.iret (v := (-1 : Int32)) hx hb hr (fun t ht hW => ⟨⟨_, (), rfl, rfl, by rw [ht]; exact hP, hD⟩, hS.F ht⟩) hS.2.2 dX8_releases_21
    · have hB := ifN c_3 hB
      refine lv_iload_n hx hb dX8_releases_15 rfl (lv_at hl 2 rfl) ?_
      refine lv_iconst (v := 1) hx hb dX8_releases_16 (by decide) ?_
      refine lv_icmp_le (tgt := 22) hx hb dX8_releases_17 (by decide) (fun c_4 => ?_) (fun c_4 => ?_)
      · have hB := ifP c_4 hB
        refine lv_aload_n hx hb dX8_releases_22 rfl (lv_at hl 0 rfl) ?_
        refine va_get (D := G) (ci := 8) (v := .ref a_t_standing) (C := RX8) (T := TX8) (N := 14) hx hb hg inX8 hown hKT hP 0 rfl rfl 4 (by decide) (hg _ gF_X8_36) (fun _ h9 => h9) rfl dX8_releases_23 ?_
        refine lv_iload_n hx hb dX8_releases_26 rfl (lv_at hl 1 rfl) ?_
        obtain ⟨q5, hq5, hB⟩ := bnd hB
        refine kr_VN (WC := wd_X6_isReleased cs a_t_standing a_t_standing_rows r_t_standing_rows v_t_standing_known g_t_standing_rows) (As := [.int p1]) (rest := []) (r0 := q5) ⟨hx, hb, hml, hown, hg⟩ (k_X6_isReleased l G cs a_t_standing a_t_standing_rows r_t_standing_rows v_t_standing_known g_t_standing_rows p1 q5 hq5) nM_X8_134_l mI_X6_isReleased (rmk rfl) hP hKT hN 2 rfl rfl [2, 3, 4, 5, 6, 7, 8, 9, 10, 11, 12, 13, 14] rfl rfl hl.1 rfl (Nat.le_of_ble_eq_true rfl) dX8_releases_27 ?_
        refine lv_iload_n hx hb dX8_releases_30 rfl (lv_at hl 2 rfl) ?_
        refine lv_iconst (v := 1) hx hb dX8_releases_31 (by decide) ?_
        refine lv_icmp_ne (tgt := 39) hx hb dX8_releases_32 (by decide) (fun c_6 => ?_) (fun c_6 => ?_)
        · have hB := ifN c_6 hB
          refine lv_iconst (v := 0) hx hb dX8_releases_39 (by decide) ?_
          refine lv_icmp_ne (tgt := 46) hx hb dX8_releases_40 (by decide) (fun c_7 => ?_) (fun c_7 => ?_)
          · have hB := ifN c_7 hB
            refine lv_aload_n hx hb dX8_releases_46 rfl (lv_at hl 0 rfl) ?_
            refine va_get (D := G) (ci := 8) (v := .ref a_t_standing) (C := RX8) (T := TX8) (N := 14) hx hb hg inX8 hown hKT hP 0 rfl rfl 4 (by decide) (hg _ gF_X8_36) (fun _ h9 => h9) rfl dX8_releases_47 ?_
            obtain ⟨⟨q8_0, q8_1⟩, hq8, hB⟩ := bnd hB
            refine kw_v (WC := wd_X6_remember cs a_t_standing a_t_standing_rows r_t_standing_rows v_t_standing_known g_t_standing_rows) (W1 := wd_X6_remember cs a_t_standing a_t_standing_rows r_t_standing_rows q8_0 q8_1) (W2 := wd_X8_releases cs a_t a_t_house a_t_draft a_t_reader a_t_laws a_t_standing a_t_imageZero a_t_imageOne a_t_rounds a_t_ways a_t_margins a_t_marks a_t_house_turn a_t_house_bent a_t_standing_rows r_t_standing_rows v_t_keptZero v_t_keptOne v_t_target v_t_house_opinions v_t_house_lines v_t_house_books v_t_house_told v_t_house_scribes v_t_house_need q8_0 q8_1) (rw_VN (As := []) (rest := []) ⟨hx, hb, hml, hown, hg⟩ (k_X6_remember l G cs a_t_standing a_t_standing_rows r_t_standing_rows v_t_standing_known g_t_standing_rows H.size (q8_0, q8_1) hq8) nM_X8_159_l mI_X6_remember (rmk rfl) hP hD hKT hN 2 rfl rfl [2, 3, 4, 5, 6, 7, 8, 9, 10, 11, 12, 13, 14] rfl rfl rfl hl.1 rfl (Nat.le_of_ble_eq_true rfl) dX8_releases_50) hP hD hS hA [2, 3, 4, 5, 6, 7, 8, 9, 10, 11, 12, 13, 14] [0, 1] [0, 1, 2, 3, 4, 5, 6, 7, 8, 9, 10, 11, 12, 13, 14] ⟨rfl, rfl, rfl, rfl, rfl, rfl, rfl⟩ (fun H locs hP hD hS => ?_)
            refine lv_aload_n hx hb dX8_releases_53 rfl (lv_at hl 0 rfl) ?_
            refine va_get (D := G) (ci := 8) (v := .ref a_t_standing) (C := RX8) (T := TX8) (N := 14) hx hb hg inX8 hown hKT hP 0 rfl rfl 4 (by decide) (hg _ gF_X8_36) (fun _ h9 => h9) rfl dX8_releases_54 ?_
            refine lv_iload_n hx hb dX8_releases_57 rfl (lv_at hl 1 rfl) ?_
            obtain ⟨q9, hq9, hB⟩ := bnd hB
            refine kw_v (WC := wd_X6_turnReleased cs a_t_standing a_t_standing_rows r_t_standing_rows q8_0 q8_1) (W1 := wd_X6_turnReleased cs a_t_standing a_t_standing_rows r_t_standing_rows q8_0 q9) (W2 := wd_X8_releases cs a_t a_t_house a_t_draft a_t_reader a_t_laws a_t_standing a_t_imageZero a_t_imageOne a_t_rounds a_t_ways a_t_margins a_t_marks a_t_house_turn a_t_house_bent a_t_standing_rows r_t_standing_rows v_t_keptZero v_t_keptOne v_t_target v_t_house_opinions v_t_house_lines v_t_house_books v_t_house_told v_t_house_scribes v_t_house_need q8_0 q9) (rw_VN (As := [.int p1]) (rest := []) ⟨hx, hb, hml, hown, hg⟩ (k_X6_turnReleased l G cs a_t_standing a_t_standing_rows r_t_standing_rows q8_0 q8_1 p1 H.size q9 hq9) nM_X8_176_l mI_X6_turnReleased (rmk rfl) hP hD hKT hN 2 rfl rfl [2, 3, 4, 5, 6, 7, 8, 9, 10, 11, 12, 13, 14] rfl rfl rfl hl.1 rfl (Nat.le_of_ble_eq_true rfl) dX8_releases_58) hP hD hS hA [2, 3, 4, 5, 6, 7, 8, 9, 10, 11, 12, 13, 14] [0, 1] [0, 1, 2, 3, 4, 5, 6, 7, 8, 9, 10, 11, 12, 13, 14] ⟨rfl, rfl, rfl, rfl, rfl, rfl, rfl⟩ (fun H locs hP hD hS => ?_)
            refine lv_aload_n hx hb dX8_releases_61 rfl (lv_at hl 0 rfl) ?_
            refine va_get (D := G) (ci := 8) (v := .ref a_t_standing) (C := RX8) (T := TX8) (N := 14) hx hb hg inX8 hown hKT hP 0 rfl rfl 4 (by decide) (hg _ gF_X8_36) (fun _ h9 => h9) rfl dX8_releases_62 ?_
            obtain ⟨q10, hq10, hB⟩ := bnd hB
            refine kr_VN (WC := wd_X6_released cs a_t_standing a_t_standing_rows r_t_standing_rows q8_0 q9) (As := []) (rest := []) (r0 := q10) ⟨hx, hb, hml, hown, hg⟩ (k_X6_released l G cs a_t_standing a_t_standing_rows r_t_standing_rows q8_0 q9 q10 hq10) nM_X8_179_l mI_X6_released (rmk rfl) hP hKT hN 2 rfl rfl [2, 3, 4, 5, 6, 7, 8, 9, 10, 11, 12, 13, 14] rfl rfl hl.1 rfl (Nat.le_of_ble_eq_true rfl) dX8_releases_65 ?_
            obtain ⟨q11, hq11, hB⟩ := bnd hB
            refine kr_S (WC := wd_J6_bitCount_0f7a4 cs ) (As := [.int q10]) (rest := []) (r0 := q11) ⟨hx, hb, hml, hown, hg⟩ (k_J6_bitCount_0f7a4 l G cs q10 q11 hq11) gM_X8_182 mS_J6_bitCount_0f7a4 (rmk rfl) hP hKT hN [] rfl rfl hl.1 rfl (Nat.le_of_ble_eq_true rfl) dX8_releases_68 ?_
            have hK := leafK hB hK
            have hK : (q11, q8_0, q9) = R0 := hK
            subst hK
            exact W.iret (v := q11) hx hb hr (fun t ht hW => ⟨⟨_, (), rfl, rfl, by rw [ht]; exact hP, hD⟩, hS.F ht⟩) hS.2.2 dX8_releases_71
          · have hB := ifP c_7 hB
            refine lv_bipush (v := -2) hx hb dX8_releases_43 (by decide) ?_
            have hK := leafK hB hK
            have hK : ((-2 : Int32), v_t_standing_known, g_t_standing_rows) = R0 := hK
            subst hK
            exact W.iret (v := (-2 : Int32)) hx hb hr (fun t ht hW => ⟨⟨_, (), rfl, rfl, by rw [ht]; exact hP, hD⟩, hS.F ht⟩) hS.2.2 dX8_releases_45
        · have hB := ifP c_6 hB
          refine lv_iconst (v := 1) hx hb dX8_releases_35 (by decide) ?_
          refine lv_goto (tgt := 40) hx hb dX8_releases_36 (by decide) ?_
          refine lv_icmp_ne (tgt := 46) hx hb dX8_releases_40 (by decide) (fun c_12 => ?_) (fun c_12 => ?_)
          · have hB := ifN c_12 hB
            refine lv_aload_n hx hb dX8_releases_46 rfl (lv_at hl 0 rfl) ?_
            refine va_get (D := G) (ci := 8) (v := .ref a_t_standing) (C := RX8) (T := TX8) (N := 14) hx hb hg inX8 hown hKT hP 0 rfl rfl 4 (by decide) (hg _ gF_X8_36) (fun _ h9 => h9) rfl dX8_releases_47 ?_
            obtain ⟨⟨q13_0, q13_1⟩, hq13, hB⟩ := bnd hB
            refine kw_v (WC := wd_X6_remember cs a_t_standing a_t_standing_rows r_t_standing_rows v_t_standing_known g_t_standing_rows) (W1 := wd_X6_remember cs a_t_standing a_t_standing_rows r_t_standing_rows q13_0 q13_1) (W2 := wd_X8_releases cs a_t a_t_house a_t_draft a_t_reader a_t_laws a_t_standing a_t_imageZero a_t_imageOne a_t_rounds a_t_ways a_t_margins a_t_marks a_t_house_turn a_t_house_bent a_t_standing_rows r_t_standing_rows v_t_keptZero v_t_keptOne v_t_target v_t_house_opinions v_t_house_lines v_t_house_books v_t_house_told v_t_house_scribes v_t_house_need q13_0 q13_1) (rw_VN (As := []) (rest := []) ⟨hx, hb, hml, hown, hg⟩ (k_X6_remember l G cs a_t_standing a_t_standing_rows r_t_standing_rows v_t_standing_known g_t_standing_rows H.size (q13_0, q13_1) hq13) nM_X8_159_l mI_X6_remember (rmk rfl) hP hD hKT hN 2 rfl rfl [2, 3, 4, 5, 6, 7, 8, 9, 10, 11, 12, 13, 14] rfl rfl rfl hl.1 rfl (Nat.le_of_ble_eq_true rfl) dX8_releases_50) hP hD hS hA [2, 3, 4, 5, 6, 7, 8, 9, 10, 11, 12, 13, 14] [0, 1] [0, 1, 2, 3, 4, 5, 6, 7, 8, 9, 10, 11, 12, 13, 14] ⟨rfl, rfl, rfl, rfl, rfl, rfl, rfl⟩ (fun H locs hP hD hS => ?_)
            refine lv_aload_n hx hb dX8_releases_53 rfl (lv_at hl 0 rfl) ?_
            refine va_get (D := G) (ci := 8) (v := .ref a_t_standing) (C := RX8) (T := TX8) (N := 14) hx hb hg inX8 hown hKT hP 0 rfl rfl 4 (by decide) (hg _ gF_X8_36) (fun _ h9 => h9) rfl dX8_releases_54 ?_
            refine lv_iload_n hx hb dX8_releases_57 rfl (lv_at hl 1 rfl) ?_
            obtain ⟨q14, hq14, hB⟩ := bnd hB
            refine kw_v (WC := wd_X6_turnReleased cs a_t_standing a_t_standing_rows r_t_standing_rows q13_0 q13_1) (W1 := wd_X6_turnReleased cs a_t_standing a_t_standing_rows r_t_standing_rows q13_0 q14) (W2 := wd_X8_releases cs a_t a_t_house a_t_draft a_t_reader a_t_laws a_t_standing a_t_imageZero a_t_imageOne a_t_rounds a_t_ways a_t_margins a_t_marks a_t_house_turn a_t_house_bent a_t_standing_rows r_t_standing_rows v_t_keptZero v_t_keptOne v_t_target v_t_house_opinions v_t_house_lines v_t_house_books v_t_house_told v_t_house_scribes v_t_house_need q13_0 q14) (rw_VN (As := [.int p1]) (rest := []) ⟨hx, hb, hml, hown, hg⟩ (k_X6_turnReleased l G cs a_t_standing a_t_standing_rows r_t_standing_rows q13_0 q13_1 p1 H.size q14 hq14) nM_X8_176_l mI_X6_turnReleased (rmk rfl) hP hD hKT hN 2 rfl rfl [2, 3, 4, 5, 6, 7, 8, 9, 10, 11, 12, 13, 14] rfl rfl rfl hl.1 rfl (Nat.le_of_ble_eq_true rfl) dX8_releases_58) hP hD hS hA [2, 3, 4, 5, 6, 7, 8, 9, 10, 11, 12, 13, 14] [0, 1] [0, 1, 2, 3, 4, 5, 6, 7, 8, 9, 10, 11, 12, 13, 14] ⟨rfl, rfl, rfl, rfl, rfl, rfl, rfl⟩ (fun H locs hP hD hS => ?_)
            refine lv_aload_n hx hb dX8_releases_61 rfl (lv_at hl 0 rfl) ?_
            refine va_get (D := G) (ci := 8) (v := .ref a_t_standing) (C := RX8) (T := TX8) (N := 14) hx hb hg inX8 hown hKT hP 0 rfl rfl 4 (by decide) (hg _ gF_X8_36) (fun _ h9 => h9) rfl dX8_releases_62 ?_
            obtain ⟨q15, hq15, hB⟩ := bnd hB
            refine kr_VN (WC := wd_X6_released cs a_t_standing a_t_standing_rows r_t_standing_rows q13_0 q14) (As := []) (rest := []) (r0 := q15) ⟨hx, hb, hml, hown, hg⟩ (k_X6_released l G cs a_t_standing a_t_standing_rows r_t_standing_rows q13_0 q14 q15 hq15) nM_X8_179_l mI_X6_released (rmk rfl) hP hKT hN 2 rfl rfl [2, 3, 4, 5, 6, 7, 8, 9, 10, 11, 12, 13, 14] rfl rfl hl.1 rfl (Nat.le_of_ble_eq_true rfl) dX8_releases_65 ?_
            obtain ⟨q16, hq16, hB⟩ := bnd hB
            refine kr_S (WC := wd_J6_bitCount_0f7a4 cs ) (As := [.int q15]) (rest := []) (r0 := q16) ⟨hx, hb, hml, hown, hg⟩ (k_J6_bitCount_0f7a4 l G cs q15 q16 hq16) gM_X8_182 mS_J6_bitCount_0f7a4 (rmk rfl) hP hKT hN [] rfl rfl hl.1 rfl (Nat.le_of_ble_eq_true rfl) dX8_releases_68 ?_
            have hK := leafK hB hK
            have hK : (q16, q13_0, q14) = R0 := hK
            subst hK
            exact W.iret (v := q16) hx hb hr (fun t ht hW => ⟨⟨_, (), rfl, rfl, by rw [ht]; exact hP, hD⟩, hS.F ht⟩) hS.2.2 dX8_releases_71
          · have hB := ifP c_12 hB
            refine lv_bipush (v := -2) hx hb dX8_releases_43 (by decide) ?_
            have hK := leafK hB hK
            have hK : ((-2 : Int32), v_t_standing_known, g_t_standing_rows) = R0 := hK
            subst hK
            exact W.iret (v := (-2 : Int32)) hx hb hr (fun t ht hW => ⟨⟨_, (), rfl, rfl, by rw [ht]; exact hP, hD⟩, hS.F ht⟩) hS.2.2 dX8_releases_45
      · have hB := ifN c_4 hB
        refine lv_iconst (v := -1) hx hb dX8_releases_20 (by decide) ?_
        have hK := leafK hB hK
        have hK : ((-1 : Int32), v_t_standing_known, g_t_standing_rows) = R0 := hK
        subst hK
        exact W.iret (v := (-1 : Int32)) hx hb hr (fun t ht hW => ⟨⟨_, (), rfl, rfl, by rw [ht]; exact hP, hD⟩, hS.F ht⟩) hS.2.2 dX8_releases_21
def wd_X8_aims (cs : Nat → ClassId) (a_t a_t_house a_t_draft a_t_reader a_t_laws a_t_standing a_t_imageZero a_t_imageOne a_t_rounds a_t_ways a_t_margins a_t_marks a_t_house_turn a_t_house_bent : Nat) (v_t_keptZero : Int32) (v_t_keptOne : Int32) (v_t_target : Int32) (v_t_house_opinions : Int32) (v_t_house_lines : Int32) (v_t_house_books : Int32) (v_t_house_told : Int32) (v_t_house_scribes : Int32) (v_t_house_need : Int32) : va_W := [(a_t, .inr (8, [.ref a_t_house, .ref a_t_draft, .ref a_t_reader, .ref a_t_laws, .ref a_t_standing, .ref a_t_imageZero, .ref a_t_imageOne, .int v_t_keptZero, .int v_t_keptOne, .int v_t_target, .ref a_t_rounds, .ref a_t_ways, .ref a_t_margins, .ref a_t_marks])), (a_t_house, .inr (0, [.int v_t_house_opinions, .int v_t_house_lines, .int v_t_house_books, .int v_t_house_told, .int v_t_house_scribes, .int v_t_house_need, .ref a_t_house_turn, .ref a_t_house_bent]))]
def rm_X8_aims : Room := { frames := 3, cells := 0, slots := 0, locals := 69 }
theorem mI_X8_aims : MI yX8_aims RX8 cX8_aims 4 (some .int) 2 := ⟨gI_X8_aims, gE_X8_aims, gN_X8, gC_X8_aims, by decide +kernel⟩
set_option maxHeartbeats 4000000 in
set_option maxRecDepth 100000 in
theorem k_X8_aims (l : Launch) (G : va_G) (cs : Nat → ClassId) (a_t a_t_house a_t_draft a_t_reader a_t_laws a_t_standing a_t_imageZero a_t_imageOne a_t_rounds a_t_ways a_t_margins a_t_marks a_t_house_turn a_t_house_bent : Nat) (v_t_keptZero : Int32) (v_t_keptOne : Int32) (v_t_target : Int32) (v_t_house_opinions : Int32) (v_t_house_lines : Int32) (v_t_house_books : Int32) (v_t_house_told : Int32) (v_t_house_scribes : Int32) (v_t_house_need : Int32) (p1 p2 : Int32) (sz : Nat) (R0 : Int32 × Int32) (hB : f_X8_aims v_t_target v_t_house_opinions v_t_house_lines p1 p2 = some R0) : Met l yX8_aims (.code yX8_aims cX8_aims 4 (some .int) :: GW) rm_X8_aims (PcW G cs [.ref a_t, .int p1, .int p2] (wd_X8_aims cs a_t a_t_house a_t_draft a_t_reader a_t_laws a_t_standing a_t_imageZero a_t_imageOne a_t_rounds a_t_ways a_t_margins a_t_marks a_t_house_turn a_t_house_bent v_t_keptZero v_t_keptOne v_t_target v_t_house_opinions v_t_house_lines v_t_house_books v_t_house_told v_t_house_scribes v_t_house_need) sz) (QcI G (va_A (wd_X8_aims cs a_t a_t_house a_t_draft a_t_reader a_t_laws a_t_standing a_t_imageZero a_t_imageOne a_t_rounds a_t_ways a_t_margins a_t_marks a_t_house_turn a_t_house_bent v_t_keptZero v_t_keptOne v_t_target v_t_house_opinions v_t_house_lines v_t_house_books v_t_house_told v_t_house_scribes v_t_house_need) sz) (wd_X8_aims cs a_t a_t_house a_t_draft a_t_reader a_t_laws a_t_standing a_t_imageZero a_t_imageOne a_t_rounds a_t_ways a_t_margins a_t_marks a_t_house_turn a_t_house_bent v_t_keptZero v_t_keptOne R0.2 v_t_house_opinions v_t_house_lines v_t_house_books v_t_house_told v_t_house_scribes v_t_house_need) R0.1) 0 0 (va_A (wd_X8_aims cs a_t a_t_house a_t_draft a_t_reader a_t_laws a_t_standing a_t_imageZero a_t_imageOne a_t_rounds a_t_ways a_t_margins a_t_marks a_t_house_turn a_t_house_bent v_t_keptZero v_t_keptOne v_t_target v_t_house_opinions v_t_house_lines v_t_house_books v_t_house_told v_t_house_scribes v_t_house_need) sz) := by
  refine Met.ofW (cc := cX8_aims) (maxL := 4) (ret := (some .int)) (by decide) rfl ?_
  intro p e s m args below meth c s₁ B hml hv
  obtain ⟨rfl, hsz, hP, hD0, hK, hN⟩ := hv
  have hx := B.exec
  have hb := B.bytes
  have hr := B.returns
  have hts := atoms_spec (ws := .code yX8_aims cX8_aims 4 (some .int) :: GW) B.pre
  have hg : ∀ w ∈ GW, w.before _ s = true := fun w h => hts w (List.mem_cons_of_mem _ h)
  have hown : s.vm.findClass RX8 = some m.cls := findClass_of_methodNamed B.named
  have hlocks := B.notSynchronized
  subst hsz
  have hD := hD0.self (sz := s.heap.size)
  generalize hAe : va_A (wd_X8_aims cs a_t a_t_house a_t_draft a_t_reader a_t_laws a_t_standing a_t_imageZero a_t_imageOne a_t_rounds a_t_ways a_t_margins a_t_marks a_t_house_turn a_t_house_bent v_t_keptZero v_t_keptOne v_t_target v_t_house_opinions v_t_house_lines v_t_house_books v_t_house_told v_t_house_scribes v_t_house_need) s.heap.size = A at hD ⊢
  have hA : ∀ q : Nat, s.heap.size ≤ q → A q := fun q h => by rw [← hAe]; exact Or.inr h
  have hS : va_S A s.heap s.heap [] := va_S.rf
  have hl := lv_entry ([.ref a_t, .int p1, .int p2]) (n := 4) (Nat.le_of_ble_eq_true rfl)
  rw [lg_entry_eq]
  generalize (lg_sl ([.ref a_t, .int p1, .int p2]) ++ List.replicate (4 - (lg_sl ([.ref a_t, .int p1, .int p2])).length) Slot.unset).toArray = ls at hl ⊢
  have hl : lv_has ls 4 [(0, .ref a_t), (1, .int p1), (2, .int p2)] := hl
  obtain ⟨y, hB, hK0⟩ : ∃ y, f_X8_aims v_t_target v_t_house_opinions v_t_house_lines p1 p2 = some y ∧ KEnd R0 y := ⟨R0, hB, rfl⟩
  have hKT := hK
  have hK := hK0
  obtain ⟨H, hHe⟩ : ∃ H, H = s.heap := ⟨_, rfl⟩
  obtain ⟨locs, hLe⟩ : ∃ L : List Loc, L = [] := ⟨_, rfl⟩
  rw [← hHe] at hP
  have hS : va_S A s.heap H locs := by rw [hHe, hLe]; exact hS
  show W p l e rm_X8_aims s m ([.ref a_t, .int p1, .int p2] : List Value).toArray below meth c s.heap [] 0 0 _ _
  suffices hgo : W p l e rm_X8_aims s m ([.ref a_t, .int p1, .int p2] : List Value).toArray below meth c H locs 0 0 (MQ below (QcI G A (wd_X8_aims cs a_t a_t_house a_t_draft a_t_reader a_t_laws a_t_standing a_t_imageZero a_t_imageOne a_t_rounds a_t_ways a_t_margins a_t_marks a_t_house_turn a_t_house_bent v_t_keptZero v_t_keptOne R0.2 v_t_house_opinions v_t_house_lines v_t_house_books v_t_house_told v_t_house_scribes v_t_house_need) R0.1) ([.ref a_t, .int p1, .int p2] : List Value).toArray s 0 0 A) (F0 m 0 ls []) by rw [hHe, hLe] at hgo; exact hgo
  refine lv_aload_n hx hb dX8_aims_0 rfl (lv_at hl 0 rfl) ?_
  refine va_get (D := G) (ci := 8) (v := .ref a_t_house) (C := RX8) (T := TX8) (N := 14) hx hb hg inX8 hown hKT hP 0 rfl rfl 0 (by decide) (hg _ gF_X8_10) (fun _ h9 => h9) rfl dX8_aims_1 ?_
  refine lv_iload_n hx hb dX8_aims_4 rfl (lv_at hl 1 rfl) ?_
  obtain ⟨q1, hq1, hB⟩ := bnd hB
  refine kr_VN (WC := wd_X0_hasLine cs a_t_house a_t_house_turn a_t_house_bent v_t_house_opinions v_t_house_lines v_t_house_books v_t_house_told v_t_house_scribes v_t_house_need) (As := [.int p1]) (rest := []) (r0 := q1) ⟨hx, hb, hml, hown, hg⟩ (k_X0_hasLine l G cs a_t_house a_t_house_turn a_t_house_bent v_t_house_opinions v_t_house_lines v_t_house_books v_t_house_told v_t_house_scribes v_t_house_need p1 q1 hq1) nM_X8_114_l mI_X0_hasLine (rmk rfl) hP hKT hN 1 rfl rfl [1] rfl rfl hl.1 rfl (Nat.le_of_ble_eq_true rfl) dX8_aims_5 ?_
  refine lv_if_eq (tgt := 22) hx hb dX8_aims_8 (by decide) (fun c_2 => ?_) (fun c_2 => ?_)
  · have hB := ifP c_2 hB
    refine lv_iconst (v := -1) hx hb dX8_aims_22 (by decide) ?_
    have hK := leafK hB hK
    have hK : ((-1 : Int32), v_t_target) = R0 := hK
    subst hK
    exact W.iret (v := (-1 : Int32)) hx hb hr (fun t ht hW => ⟨⟨_, (), rfl, rfl, by rw [ht]; exact hP, hD⟩, hS.F ht⟩) hS.2.2 dX8_aims_23
  · have hB := ifN c_2 hB
    refine lv_aload_n hx hb dX8_aims_11 rfl (lv_at hl 0 rfl) ?_
    refine va_get (D := G) (ci := 8) (v := .ref a_t_house) (C := RX8) (T := TX8) (N := 14) hx hb hg inX8 hown hKT hP 0 rfl rfl 0 (by decide) (hg _ gF_X8_10) (fun _ h9 => h9) rfl dX8_aims_12 ?_
    refine lv_iload_n hx hb dX8_aims_15 rfl (lv_at hl 2 rfl) ?_
    obtain ⟨q3, hq3, hB⟩ := bnd hB
    refine kr_VN (WC := wd_X0_hasOpinion cs a_t_house a_t_house_turn a_t_house_bent v_t_house_opinions v_t_house_lines v_t_house_books v_t_house_told v_t_house_scribes v_t_house_need) (As := [.int p2]) (rest := []) (r0 := q3) ⟨hx, hb, hml, hown, hg⟩ (k_X0_hasOpinion l G cs a_t_house a_t_house_turn a_t_house_bent v_t_house_opinions v_t_house_lines v_t_house_books v_t_house_told v_t_house_scribes v_t_house_need p2 q3 hq3) nM_X8_150_l mI_X0_hasOpinion (rmk rfl) hP hKT hN 1 rfl rfl [1] rfl rfl hl.1 rfl (Nat.le_of_ble_eq_true rfl) dX8_aims_16 ?_
    refine lv_if_ne (tgt := 24) hx hb dX8_aims_19 (by decide) (fun c_4 => ?_) (fun c_4 => ?_)
    · have hB := ifN c_4 hB
      refine lv_aload_n hx hb dX8_aims_24 rfl (lv_at hl 0 rfl) ?_
      refine va_get (D := G) (ci := 8) (v := .ref a_t_house) (C := RX8) (T := TX8) (N := 14) hx hb hg inX8 hown hKT hP 0 rfl rfl 0 (by decide) (hg _ gF_X8_10) (fun _ h9 => h9) rfl dX8_aims_25 ?_
      refine lv_aload_n hx hb dX8_aims_28 rfl (lv_at hl 0 rfl) ?_
      refine va_get (D := G) (ci := 8) (v := .int v_t_target) (C := RX8) (T := TX8) (N := 14) hx hb hg inX8 hown hKT hP 0 rfl rfl 9 (by decide) (hg _ gF_X8_103) (fun _ h9 => h9) rfl dX8_aims_29 ?_
      refine lv_iload_n hx hb dX8_aims_32 rfl (lv_at hl 1 rfl) ?_
      obtain ⟨q5, hq5, hB⟩ := bnd hB
      refine kr_VN (WC := wd_X0_lineOf cs a_t_house a_t_house_turn a_t_house_bent v_t_house_opinions v_t_house_lines v_t_house_books v_t_house_told v_t_house_scribes v_t_house_need) (As := [.int v_t_target, .int p1]) (rest := []) (r0 := q5) ⟨hx, hb, hml, hown, hg⟩ (k_X0_lineOf l G cs a_t_house a_t_house_turn a_t_house_bent v_t_house_opinions v_t_house_lines v_t_house_books v_t_house_told v_t_house_scribes v_t_house_need v_t_target p1 q5 hq5) nM_X8_120_l mI_X0_lineOf (rmk rfl) hP hKT hN 1 rfl rfl [1] rfl rfl hl.1 rfl (Nat.le_of_ble_eq_true rfl) dX8_aims_33 ?_
      refine lv_istore_n (lv' := [(3, .int q5), (0, .ref a_t), (1, .int p1), (2, .int p2)]) hx hb dX8_aims_36 rfl hl (by decide) rfl (fun ls hl => ?_)
      refine lv_aload_n hx hb dX8_aims_37 rfl (lv_at hl 1 rfl) ?_
      refine lv_aload_n hx hb dX8_aims_38 rfl (lv_at hl 1 rfl) ?_
      refine va_get (D := G) (ci := 8) (v := .ref a_t_house) (C := RX8) (T := TX8) (N := 14) hx hb hg inX8 hown hKT hP 0 rfl rfl 0 (by decide) (hg _ gF_X8_10) (fun _ h9 => h9) rfl dX8_aims_39 ?_
      refine lv_aload_n hx hb dX8_aims_42 rfl (lv_at hl 1 rfl) ?_
      refine va_get (D := G) (ci := 8) (v := .int v_t_target) (C := RX8) (T := TX8) (N := 14) hx hb hg inX8 hown hKT hP 0 rfl rfl 9 (by decide) (hg _ gF_X8_103) (fun _ h9 => h9) rfl dX8_aims_43 ?_
      refine lv_iload_n hx hb dX8_aims_46 rfl (lv_at hl 2 rfl) ?_
      refine lv_iload_n hx hb dX8_aims_47 rfl (lv_at hl 3 rfl) ?_
      obtain ⟨q6, hq6, hB⟩ := bnd hB
      refine kr_VN (WC := wd_X0_withLine cs a_t_house a_t_house_turn a_t_house_bent v_t_house_opinions v_t_house_lines v_t_house_books v_t_house_told v_t_house_scribes v_t_house_need) (As := [.int v_t_target, .int p1, .int p2]) (rest := [.ref a_t]) (r0 := q6) ⟨hx, hb, hml, hown, hg⟩ (k_X0_withLine l G cs a_t_house a_t_house_turn a_t_house_bent v_t_house_opinions v_t_house_lines v_t_house_books v_t_house_told v_t_house_scribes v_t_house_need v_t_target p1 p2 q6 hq6) nM_X8_169_l mI_X0_withLine (rmk rfl) hP hKT hN 1 rfl rfl [1] rfl rfl hl.1 rfl (Nat.le_of_ble_eq_true rfl) dX8_aims_48 ?_
      refine va_put (D := G) (ci := 8) (v := .int q6) (ty := .int) (C := RX8) (T := TX8) (N := 14) hx hb hg inX8 tyX8 tyX8_ok nmX8 hown hKT hP hD hS 0 rfl rfl 9 (by decide) (hg _ gF_X8_103) (fun _ h9 => h9) rfl (by decide +kernel) rfl rfl (Nat.le_of_ble_eq_true rfl) dX8_aims_51 (fun H locs hP hD hS => ?_)
      have hP : va_P G vwCl (wd_X8_aims cs a_t a_t_house a_t_draft a_t_reader a_t_laws a_t_standing a_t_imageZero a_t_imageOne a_t_rounds a_t_ways a_t_margins a_t_marks a_t_house_turn a_t_house_bent v_t_keptZero v_t_keptOne q6 v_t_house_opinions v_t_house_lines v_t_house_books v_t_house_told v_t_house_scribes v_t_house_need) H := hP
      have hD : va_D A (wd_X8_aims cs a_t a_t_house a_t_draft a_t_reader a_t_laws a_t_standing a_t_imageZero a_t_imageOne a_t_rounds a_t_ways a_t_margins a_t_marks a_t_house_turn a_t_house_bent v_t_keptZero v_t_keptOne q6 v_t_house_opinions v_t_house_lines v_t_house_books v_t_house_told v_t_house_scribes v_t_house_need) := hD
      refine lv_iload_n hx hb dX8_aims_54 rfl (lv_at hl 0 rfl) ?_
      have hK := leafK hB hK
      have hK : (q5, q6) = R0 := hK
      subst hK
      exact W.iret (v := q5) hx hb hr (fun t ht hW => ⟨⟨_, (), rfl, rfl, by rw [ht]; exact hP, hD⟩, hS.F ht⟩) hS.2.2 dX8_aims_55
    · have hB := ifP c_4 hB
      refine lv_iconst (v := -1) hx hb dX8_aims_22 (by decide) ?_
      have hK := leafK hB hK
      have hK : ((-1 : Int32), v_t_target) = R0 := hK
      subst hK
      exact W.iret (v := (-1 : Int32)) hx hb hr (fun t ht hW => ⟨⟨_, (), rfl, rfl, by rw [ht]; exact hP, hD⟩, hS.F ht⟩) hS.2.2 dX8_aims_23
def wd_X8_undo (cs : Nat → ClassId) (a_t a_t_house a_t_draft a_t_reader a_t_laws a_t_standing a_t_imageZero a_t_imageOne a_t_rounds a_t_ways a_t_margins a_t_marks a_t_standing_rows : Nat) (v_t_keptZero : Int32) (v_t_keptOne : Int32) (v_t_target : Int32) (v_t_standing_known : Int32) : va_W := [(a_t, .inr (8, [.ref a_t_house, .ref a_t_draft, .ref a_t_reader, .ref a_t_laws, .ref a_t_standing, .ref a_t_imageZero, .ref a_t_imageOne, .int v_t_keptZero, .int v_t_keptOne, .int v_t_target, .ref a_t_rounds, .ref a_t_ways, .ref a_t_margins, .ref a_t_marks])), (a_t_standing, .inr (6, [.ref a_t_standing_rows, .int v_t_standing_known]))]
def rm_X8_undo : Room := { frames := 1, cells := 0, slots := 0, locals := 20 }
theorem mI_X8_undo : MI yX8_undo RX8 cX8_undo 1 (some .int) 0 := ⟨gI_X8_undo, gE_X8_undo, gN_X8, gC_X8_undo, by decide +kernel⟩
set_option maxHeartbeats 4000000 in
set_option maxRecDepth 100000 in
theorem k_X8_undo (l : Launch) (G : va_G) (cs : Nat → ClassId) (a_t a_t_house a_t_draft a_t_reader a_t_laws a_t_standing a_t_imageZero a_t_imageOne a_t_rounds a_t_ways a_t_margins a_t_marks a_t_standing_rows : Nat) (v_t_keptZero : Int32) (v_t_keptOne : Int32) (v_t_target : Int32) (v_t_standing_known : Int32) (sz : Nat) (R0 : Int32 × Int32) (hB : f_X8_undo v_t_standing_known = some R0) : Met l yX8_undo (.code yX8_undo cX8_undo 1 (some .int) :: GW) rm_X8_undo (PcW G cs [.ref a_t] (wd_X8_undo cs a_t a_t_house a_t_draft a_t_reader a_t_laws a_t_standing a_t_imageZero a_t_imageOne a_t_rounds a_t_ways a_t_margins a_t_marks a_t_standing_rows v_t_keptZero v_t_keptOne v_t_target v_t_standing_known) sz) (QcI G (va_A (wd_X8_undo cs a_t a_t_house a_t_draft a_t_reader a_t_laws a_t_standing a_t_imageZero a_t_imageOne a_t_rounds a_t_ways a_t_margins a_t_marks a_t_standing_rows v_t_keptZero v_t_keptOne v_t_target v_t_standing_known) sz) (wd_X8_undo cs a_t a_t_house a_t_draft a_t_reader a_t_laws a_t_standing a_t_imageZero a_t_imageOne a_t_rounds a_t_ways a_t_margins a_t_marks a_t_standing_rows v_t_keptZero v_t_keptOne v_t_target R0.2) R0.1) 0 0 (va_A (wd_X8_undo cs a_t a_t_house a_t_draft a_t_reader a_t_laws a_t_standing a_t_imageZero a_t_imageOne a_t_rounds a_t_ways a_t_margins a_t_marks a_t_standing_rows v_t_keptZero v_t_keptOne v_t_target v_t_standing_known) sz) := by
  refine Met.ofW (cc := cX8_undo) (maxL := 1) (ret := (some .int)) (by decide) rfl ?_
  intro p e s m args below meth c s₁ B hml hv
  obtain ⟨rfl, hsz, hP, hD0, hK, hN⟩ := hv
  have hx := B.exec
  have hb := B.bytes
  have hr := B.returns
  have hts := atoms_spec (ws := .code yX8_undo cX8_undo 1 (some .int) :: GW) B.pre
  have hg : ∀ w ∈ GW, w.before _ s = true := fun w h => hts w (List.mem_cons_of_mem _ h)
  have hown : s.vm.findClass RX8 = some m.cls := findClass_of_methodNamed B.named
  have hlocks := B.notSynchronized
  subst hsz
  have hD := hD0.self (sz := s.heap.size)
  generalize hAe : va_A (wd_X8_undo cs a_t a_t_house a_t_draft a_t_reader a_t_laws a_t_standing a_t_imageZero a_t_imageOne a_t_rounds a_t_ways a_t_margins a_t_marks a_t_standing_rows v_t_keptZero v_t_keptOne v_t_target v_t_standing_known) s.heap.size = A at hD ⊢
  have hA : ∀ q : Nat, s.heap.size ≤ q → A q := fun q h => by rw [← hAe]; exact Or.inr h
  have hS : va_S A s.heap s.heap [] := va_S.rf
  have hl := lv_entry ([.ref a_t]) (n := 1) (Nat.le_of_ble_eq_true rfl)
  rw [lg_entry_eq]
  generalize (lg_sl ([.ref a_t]) ++ List.replicate (1 - (lg_sl ([.ref a_t])).length) Slot.unset).toArray = ls at hl ⊢
  have hl : lv_has ls 1 [(0, .ref a_t)] := hl
  obtain ⟨y, hB, hK0⟩ : ∃ y, f_X8_undo v_t_standing_known = some y ∧ KEnd R0 y := ⟨R0, hB, rfl⟩
  have hKT := hK
  have hK := hK0
  obtain ⟨H, hHe⟩ : ∃ H, H = s.heap := ⟨_, rfl⟩
  obtain ⟨locs, hLe⟩ : ∃ L : List Loc, L = [] := ⟨_, rfl⟩
  rw [← hHe] at hP
  have hS : va_S A s.heap H locs := by rw [hHe, hLe]; exact hS
  show W p l e rm_X8_undo s m ([.ref a_t] : List Value).toArray below meth c s.heap [] 0 0 _ _
  suffices hgo : W p l e rm_X8_undo s m ([.ref a_t] : List Value).toArray below meth c H locs 0 0 (MQ below (QcI G A (wd_X8_undo cs a_t a_t_house a_t_draft a_t_reader a_t_laws a_t_standing a_t_imageZero a_t_imageOne a_t_rounds a_t_ways a_t_margins a_t_marks a_t_standing_rows v_t_keptZero v_t_keptOne v_t_target R0.2) R0.1) ([.ref a_t] : List Value).toArray s 0 0 A) (F0 m 0 ls []) by rw [hHe, hLe] at hgo; exact hgo
  refine lv_aload_n hx hb dX8_undo_0 rfl (lv_at hl 0 rfl) ?_
  refine va_get (D := G) (ci := 8) (v := .ref a_t_standing) (C := RX8) (T := TX8) (N := 14) hx hb hg inX8 hown hKT hP 0 rfl rfl 4 (by decide) (hg _ gF_X8_36) (fun _ h9 => h9) rfl dX8_undo_1 ?_
  obtain ⟨⟨q1_0, q1_1⟩, hq1, hB⟩ := bnd hB
  refine kw_i (WC := wd_X6_takeBack cs a_t_standing a_t_standing_rows v_t_standing_known) (W1 := wd_X6_takeBack cs a_t_standing a_t_standing_rows q1_1) (W2 := wd_X8_undo cs a_t a_t_house a_t_draft a_t_reader a_t_laws a_t_standing a_t_imageZero a_t_imageOne a_t_rounds a_t_ways a_t_margins a_t_marks a_t_standing_rows v_t_keptZero v_t_keptOne v_t_target q1_1) (r0 := q1_0) (rw_VN (As := []) (rest := []) ⟨hx, hb, hml, hown, hg⟩ (k_X6_takeBack l G cs a_t_standing a_t_standing_rows v_t_standing_known H.size (q1_0, q1_1) hq1) nM_X8_187_l mI_X6_takeBack (rmk rfl) hP hD hKT hN 1 rfl rfl [1] rfl rfl rfl hl.1 rfl (Nat.le_of_ble_eq_true rfl) dX8_undo_4) hP hD hS hA [1] [0] [0, 1] ⟨rfl, rfl, rfl, rfl, rfl, rfl, rfl⟩ (fun H locs hP hD hS => ?_)
  refine lv_if_eq (tgt := 20) hx hb dX8_undo_7 (by decide) (fun c_2 => ?_) (fun c_2 => ?_)
  · have hB := ifP c_2 hB
    refine lv_bipush (v := -2) hx hb dX8_undo_20 (by decide) ?_
    have hK := leafK hB hK
    have hK : ((-2 : Int32), q1_1) = R0 := hK
    subst hK
    exact W.iret (v := (-2 : Int32)) hx hb hr (fun t ht hW => ⟨⟨_, (), rfl, rfl, by rw [ht]; exact hP, hD⟩, hS.F ht⟩) hS.2.2 dX8_undo_22
  · have hB := ifN c_2 hB
    refine lv_aload_n hx hb dX8_undo_10 rfl (lv_at hl 0 rfl) ?_
    refine va_get (D := G) (ci := 8) (v := .ref a_t_standing) (C := RX8) (T := TX8) (N := 14) hx hb hg inX8 hown hKT hP 0 rfl rfl 4 (by decide) (hg _ gF_X8_36) (fun _ h9 => h9) rfl dX8_undo_11 ?_
    refine va_getN (D := G) (ci := 6) (v := .int q1_1) (C := RX6) (T := TX6) (N := 2) hx hb hg inX6 hown hKT hP 1 rfl rfl 1 (by decide) (va_Nw.use rfl (hN _ nF_X8_191_l rfl)) (fun _ h9 => h9) rfl dX8_undo_14 ?_
    refine lv_goto (tgt := 22) hx hb dX8_undo_17 (by decide) ?_
    have hK := leafK hB hK
    have hK : (q1_1, q1_1) = R0 := hK
    subst hK
    exact W.iret (v := q1_1) hx hb hr (fun t ht hW => ⟨⟨_, (), rfl, rfl, by rw [ht]; exact hP, hD⟩, hS.F ht⟩) hS.2.2 dX8_undo_22
def wd_X8_convinced (cs : Nat → ClassId) (a_t a_t_house a_t_draft a_t_reader a_t_laws a_t_standing a_t_imageZero a_t_imageOne a_t_rounds a_t_ways a_t_margins a_t_marks a_t_house_turn a_t_house_bent a_t_standing_rows : Nat) (r_t_standing_rows : Nat → Nat) (v_t_keptZero : Int32) (v_t_keptOne : Int32) (v_t_target : Int32) (v_t_house_opinions : Int32) (v_t_house_lines : Int32) (v_t_house_books : Int32) (v_t_house_told : Int32) (v_t_house_scribes : Int32) (v_t_house_need : Int32) (g_t_house_turn : Nat → Int32) (g_t_house_bent : Nat → Int32) (v_t_standing_known : Int32) (g_t_standing_rows : Nat → Nat → Int32) : va_W := (a_t, .inr (8, [.ref a_t_house, .ref a_t_draft, .ref a_t_reader, .ref a_t_laws, .ref a_t_standing, .ref a_t_imageZero, .ref a_t_imageOne, .int v_t_keptZero, .int v_t_keptOne, .int v_t_target, .ref a_t_rounds, .ref a_t_ways, .ref a_t_margins, .ref a_t_marks])) :: (a_t_house, .inr (0, [.int v_t_house_opinions, .int v_t_house_lines, .int v_t_house_books, .int v_t_house_told, .int v_t_house_scribes, .int v_t_house_need, .ref a_t_house_turn, .ref a_t_house_bent])) :: (a_t_house_turn, .inl (cs 0, 6, .inl g_t_house_turn)) :: (a_t_house_bent, .inl (cs 0, 6, .inl g_t_house_bent)) :: (a_t_standing, .inr (6, [.ref a_t_standing_rows, .int v_t_standing_known])) :: (a_t_standing_rows, .inl (cs 3, 11, .inr (.inr (.inr (.inr (gO r_t_standing_rows)))))) :: gR (cs 0) r_t_standing_rows g_t_standing_rows
def rm_X8_convinced : Room := { frames := 5, cells := 0, slots := 0, locals := 112 }
theorem mI_X8_convinced : MI yX8_convinced RX8 cX8_convinced 3 (some .int) 0 := ⟨gI_X8_convinced, gE_X8_convinced, gN_X8, gC_X8_convinced, by decide +kernel⟩
set_option maxHeartbeats 4000000 in
set_option maxRecDepth 100000 in
theorem k_X8_convinced (l : Launch) (G : va_G) (cs : Nat → ClassId) (a_t a_t_house a_t_draft a_t_reader a_t_laws a_t_standing a_t_imageZero a_t_imageOne a_t_rounds a_t_ways a_t_margins a_t_marks a_t_house_turn a_t_house_bent a_t_standing_rows : Nat) (r_t_standing_rows : Nat → Nat) (v_t_keptZero : Int32) (v_t_keptOne : Int32) (v_t_target : Int32) (v_t_house_opinions : Int32) (v_t_house_lines : Int32) (v_t_house_books : Int32) (v_t_house_told : Int32) (v_t_house_scribes : Int32) (v_t_house_need : Int32) (g_t_house_turn : Nat → Int32) (g_t_house_bent : Nat → Int32) (v_t_standing_known : Int32) (g_t_standing_rows : Nat → Nat → Int32) (R0 : Int32) (hB : f_X8_convinced v_t_house_opinions v_t_house_lines v_t_house_scribes v_t_house_need g_t_house_turn g_t_house_bent v_t_standing_known g_t_standing_rows = some R0) : Met l yX8_convinced (.code yX8_convinced cX8_convinced 3 (some .int) :: GW) rm_X8_convinced (PcR G cs [.ref a_t] (wd_X8_convinced cs a_t a_t_house a_t_draft a_t_reader a_t_laws a_t_standing a_t_imageZero a_t_imageOne a_t_rounds a_t_ways a_t_margins a_t_marks a_t_house_turn a_t_house_bent a_t_standing_rows r_t_standing_rows v_t_keptZero v_t_keptOne v_t_target v_t_house_opinions v_t_house_lines v_t_house_books v_t_house_told v_t_house_scribes v_t_house_need g_t_house_turn g_t_house_bent v_t_standing_known g_t_standing_rows)) (vp_Si (fun r => r = R0)) 0 0 (fun _ => False) := by
  refine Met.ofW (cc := cX8_convinced) (maxL := 3) (ret := (some .int)) (by decide) rfl ?_
  intro p e s m args below meth c s₁ B hml hv
  obtain ⟨rfl, hP, hK, hN⟩ := hv
  have hx := B.exec
  have hb := B.bytes
  have hr := B.returns
  have hts := atoms_spec (ws := .code yX8_convinced cX8_convinced 3 (some .int) :: GW) B.pre
  have hg : ∀ w ∈ GW, w.before _ s = true := fun w h => hts w (List.mem_cons_of_mem _ h)
  have hown : s.vm.findClass RX8 = some m.cls := findClass_of_methodNamed B.named
  have hlocks := B.notSynchronized
  have hl := lv_entry ([.ref a_t]) (n := 3) (Nat.le_of_ble_eq_true rfl)
  rw [lg_entry_eq]
  generalize (lg_sl ([.ref a_t]) ++ List.replicate (3 - (lg_sl ([.ref a_t])).length) Slot.unset).toArray = ls at hl ⊢
  have hl : lv_has ls 3 [(0, .ref a_t)] := hl
  obtain ⟨y, hB, hK0⟩ : ∃ y, f_X8_convinced v_t_house_opinions v_t_house_lines v_t_house_scribes v_t_house_need g_t_house_turn g_t_house_bent v_t_standing_known g_t_standing_rows = some y ∧ KEnd R0 y := ⟨R0, hB, rfl⟩
  have hKT := hK
  have hK := hK0
  show W p l e rm_X8_convinced s m ([.ref a_t] : List Value).toArray below meth c s.heap [] 0 0 (MQ below (vp_Si (fun r => r = R0)) ([.ref a_t] : List Value).toArray s 0 0 (fun _ => False)) (F0 m 0 ls [])
  refine lv_iconst (v := 0) hx hb dX8_convinced_0 (by decide) ?_
  refine lv_istore_n (lv' := [(1, .int (0 : Int32)), (0, .ref a_t)]) hx hb dX8_convinced_1 rfl hl (by decide) rfl (fun ls hl => ?_)
  refine lv_iconst (v := 0) hx hb dX8_convinced_2 (by decide) ?_
  refine lv_istore_n (lv' := [(2, .int (0 : Int32)), (1, .int (0 : Int32)), (0, .ref a_t)]) hx hb dX8_convinced_3 rfl hl (by decide) rfl (fun ls hl => ?_)
  refine lp_ind (Wh := fun (z1 : Int32 × Int32) => ∀ (ls : Array Slot), lv_has ls 3 [(0, .ref a_t), (1, .int z1.1), (2, .int z1.2)] → W p l e rm_X8_convinced s m ([.ref a_t] : List Value).toArray below meth c s.heap [] 0 0 (MQ below (vp_Si (fun r => r = R0)) ([.ref a_t] : List Value).toArray s 0 0 (fun _ => False)) (F0 m 4 ls [])) ?_ FU _ _ hB hK ls (lv_sub hl [2, 1, 0] rfl)
  rintro ⟨z1_0, z1_1⟩ y hB hK ls hl
  have hl : lv_has ls 3 [(0, .ref a_t), (1, .int z1_0), (2, .int z1_1)] := hl
  refine lv_iload_n hx hb dX8_convinced_4 rfl (lv_at hl 2 rfl) ?_
  refine lv_aload_n hx hb dX8_convinced_5 rfl (lv_at hl 0 rfl) ?_
  refine va_get (D := G) (ci := 8) (v := .ref a_t_house) (C := RX8) (T := TX8) (N := 14) hx hb hg inX8 hown hKT hP 0 rfl rfl 0 (by decide) (hg _ gF_X8_10) (fun _ h9 => h9) rfl dX8_convinced_6 ?_
  refine va_getN (D := G) (ci := 0) (v := .int v_t_house_scribes) (C := RX0) (T := TX0) (N := 8) hx hb hg inX0 hown hKT hP 1 rfl rfl 4 (by decide) (va_Nw.use rfl (hN _ nF_X8_207_l rfl)) (fun _ h9 => h9) rfl dX8_convinced_9 ?_
  refine lv_icmp_ge (tgt := 45) hx hb dX8_convinced_12 (by decide) (fun c_2 => ?_) (fun c_2 => ?_)
  · have hB := ifP c_2 hB
    refine lv_iload_n hx hb dX8_convinced_45 rfl (lv_at hl 1 rfl) ?_
    have hK := leafK hB hK
    have hK := elimR hK
    have hK : z1_0 = R0 := hK
    subst hK
    exact W.iret (v := z1_0) hx hb hr (fun t ht hW => ⟨_, rfl, rfl, ht⟩) (fun _ h => by cases h) dX8_convinced_46
  · have hB := ifN c_2 hB
    refine lv_aload_n hx hb dX8_convinced_15 rfl (lv_at hl 0 rfl) ?_
    refine va_get (D := G) (ci := 8) (v := .ref a_t_house) (C := RX8) (T := TX8) (N := 14) hx hb hg inX8 hown hKT hP 0 rfl rfl 0 (by decide) (hg _ gF_X8_10) (fun _ h9 => h9) rfl dX8_convinced_16 ?_
    refine lv_iload_n hx hb dX8_convinced_19 rfl (lv_at hl 2 rfl) ?_
    refine lv_aload_n hx hb dX8_convinced_20 rfl (lv_at hl 0 rfl) ?_
    refine va_get (D := G) (ci := 8) (v := .ref a_t_standing) (C := RX8) (T := TX8) (N := 14) hx hb hg inX8 hown hKT hP 0 rfl rfl 4 (by decide) (hg _ gF_X8_36) (fun _ h9 => h9) rfl dX8_convinced_21 ?_
    obtain ⟨q3, hq3, hB⟩ := bnd hB
    refine kr_VN (WC := wd_X6_book cs a_t_standing a_t_standing_rows r_t_standing_rows v_t_standing_known g_t_standing_rows) (As := []) (rest := [.int z1_1, .ref a_t_house]) (r0 := q3) ⟨hx, hb, hml, hown, hg⟩ (k_X6_book l G cs a_t_standing a_t_standing_rows r_t_standing_rows v_t_standing_known g_t_standing_rows q3 hq3) nM_X8_117_l mI_X6_book (rmk rfl) hP hKT hN 4 rfl rfl [4, 5, 6, 7, 8, 9, 10, 11, 12, 13, 14, 15, 16] rfl rfl hl.1 rfl (Nat.le_of_ble_eq_true rfl) dX8_convinced_24 ?_
    obtain ⟨q4, hq4, hB⟩ := bnd hB
    refine kr_VN (WC := wd_X0_isConvinced cs a_t_house a_t_house_turn a_t_house_bent v_t_house_opinions v_t_house_lines v_t_house_books v_t_house_told v_t_house_scribes v_t_house_need g_t_house_turn g_t_house_bent) (As := [.int z1_1, .int q3]) (rest := []) (r0 := q4) ⟨hx, hb, hml, hown, hg⟩ (k_X0_isConvinced l G cs a_t_house a_t_house_turn a_t_house_bent v_t_house_opinions v_t_house_lines v_t_house_books v_t_house_told v_t_house_scribes v_t_house_need g_t_house_turn g_t_house_bent z1_1 q3 q4 hq4) nM_X8_143_l mI_X0_isConvinced (rmk rfl) hP hKT hN 1 rfl rfl [1, 2, 3] rfl rfl hl.1 rfl (Nat.le_of_ble_eq_true rfl) dX8_convinced_27 ?_
    refine lv_if_eq (tgt := 39) hx hb dX8_convinced_30 (by decide) (fun c_5 => ?_) (fun c_5 => ?_)
    · have hB := ifP c_5 hB
      refine lv_iinc (v := z1_1 + (1 : Int32)) (lv' := [(2, .int (z1_1 + (1 : Int32))), (0, .ref a_t), (1, .int z1_0)]) hx hb dX8_convinced_39 hl (k := 2) rfl (inc_ok (by decide)) (by decide) rfl (fun ls hl => ?_)
      refine lv_goto (tgt := 4) hx hb dX8_convinced_42 (by decide) ?_
      have hK := leafK hB hK
      have hK := elimL hK
      exact hK ls (lv_sub hl [1, 2, 0] rfl)
    · have hB := ifN c_5 hB
      refine lv_iload_n hx hb dX8_convinced_33 rfl (lv_at hl 1 rfl) ?_
      refine lv_iconst (v := 1) hx hb dX8_convinced_34 (by decide) ?_
      refine lv_iload_n hx hb dX8_convinced_35 rfl (lv_at hl 2 rfl) ?_
      refine lj_ishl hx hb dX8_convinced_36 ?_
      refine lv_ior hx hb dX8_convinced_37 ?_
      refine lv_istore_n (lv' := [(1, .int (z1_0 ||| (jshl (1 : Int32) z1_1))), (0, .ref a_t), (2, .int z1_1)]) hx hb dX8_convinced_38 rfl hl (by decide) rfl (fun ls hl => ?_)
      refine lv_iinc (v := z1_1 + (1 : Int32)) (lv' := [(2, .int (z1_1 + (1 : Int32))), (1, .int (z1_0 ||| (jshl (1 : Int32) z1_1))), (0, .ref a_t)]) hx hb dX8_convinced_39 hl (k := 2) rfl (inc_ok (by decide)) (by decide) rfl (fun ls hl => ?_)
      refine lv_goto (tgt := 4) hx hb dX8_convinced_42 (by decide) ?_
      have hK := leafK hB hK
      have hK := elimL hK
      exact hK ls (lv_sub hl [2, 1, 0] rfl)
def wd_X8_now (cs : Nat → ClassId) (a_t a_t_house a_t_draft a_t_reader a_t_laws a_t_standing a_t_imageZero a_t_imageOne a_t_rounds a_t_ways a_t_margins a_t_marks a_t_house_turn a_t_house_bent a_t_standing_rows a_t_ways_laws a_t_ways_distance a_t_ways_before a_t_ways_lastScribe a_t_ways_queue a_t_ways_laws_made a_t_margins_of a_t_margins_said : Nat) (r_t_standing_rows : Nat → Nat) (v_t_keptZero : Int32) (v_t_keptOne : Int32) (v_t_target : Int32) (v_t_house_opinions : Int32) (v_t_house_lines : Int32) (v_t_house_books : Int32) (v_t_house_told : Int32) (v_t_house_scribes : Int32) (v_t_house_need : Int32) (g_t_house_turn : Nat → Int32) (g_t_house_bent : Nat → Int32) (v_t_standing_known : Int32) (g_t_standing_rows : Nat → Nat → Int32) (v_t_ways_queued : Int32) (v_t_ways_laws_scribes : Int32) (v_t_ways_laws_books : Int32) (g_t_ways_laws_made : Nat → Int32) (v_t_margins_size : Int32) (g_t_margins_of : Nat → Int32) (g_t_margins_said : Nat → Int32) : va_W := [(a_t, .inr (8, [.ref a_t_house, .ref a_t_draft, .ref a_t_reader, .ref a_t_laws, .ref a_t_standing, .ref a_t_imageZero, .ref a_t_imageOne, .int v_t_keptZero, .int v_t_keptOne, .int v_t_target, .ref a_t_rounds, .ref a_t_ways, .ref a_t_margins, .ref a_t_marks])), (a_t_house, .inr (0, [.int v_t_house_opinions, .int v_t_house_lines, .int v_t_house_books, .int v_t_house_told, .int v_t_house_scribes, .int v_t_house_need, .ref a_t_house_turn, .ref a_t_house_bent])), (a_t_house_turn, .inl (cs 0, 6, .inl g_t_house_turn)), (a_t_house_bent, .inl (cs 0, 6, .inl g_t_house_bent)), (a_t_standing, .inr (6, [.ref a_t_standing_rows, .int v_t_standing_known])), (a_t_standing_rows, .inl (cs 3, 11, .inr (.inr (.inr (.inr (gO r_t_standing_rows)))))), (r_t_standing_rows 0, .inl (cs 0, 9, .inl (g_t_standing_rows 0))), (r_t_standing_rows 1, .inl (cs 0, 9, .inl (g_t_standing_rows 1))), (r_t_standing_rows 2, .inl (cs 0, 9, .inl (g_t_standing_rows 2))), (r_t_standing_rows 3, .inl (cs 0, 9, .inl (g_t_standing_rows 3))), (r_t_standing_rows 4, .inl (cs 0, 9, .inl (g_t_standing_rows 4))), (r_t_standing_rows 5, .inl (cs 0, 9, .inl (g_t_standing_rows 5))), (r_t_standing_rows 6, .inl (cs 0, 9, .inl (g_t_standing_rows 6))), (r_t_standing_rows 7, .inl (cs 0, 9, .inl (g_t_standing_rows 7))), (r_t_standing_rows 8, .inl (cs 0, 9, .inl (g_t_standing_rows 8))), (r_t_standing_rows 9, .inl (cs 0, 9, .inl (g_t_standing_rows 9))), (r_t_standing_rows 10, .inl (cs 0, 9, .inl (g_t_standing_rows 10))), (a_t_ways, .inr (7, [.ref a_t_ways_laws, .ref a_t_ways_distance, .ref a_t_ways_before, .ref a_t_ways_lastScribe, .ref a_t_ways_queue, .int v_t_ways_queued])), (a_t_ways_laws, .inr (1, [.ref a_t_ways_laws_made, .int v_t_ways_laws_scribes, .int v_t_ways_laws_books])), (a_t_ways_laws_made, .inl (cs 0, 3750, .inl g_t_ways_laws_made)), (a_t_margins, .inr (2, [.ref a_t_margins_of, .ref a_t_margins_said, .int v_t_margins_size])), (a_t_margins_of, .inl (cs 0, 6, .inl g_t_margins_of)), (a_t_margins_said, .inl (cs 0, 6, .inl g_t_margins_said))]
def rm_X8_now : Room := { frames := 6, cells := 0, slots := 0, locals := 134 }
theorem mI_X8_now : MI yX8_now RX8 cX8_now 2 (some .int) 1 := ⟨gI_X8_now, gE_X8_now, gN_X8, gC_X8_now, by decide +kernel⟩
set_option maxHeartbeats 4000000 in
set_option maxRecDepth 100000 in
theorem k_X8_now (l : Launch) (G : va_G) (cs : Nat → ClassId) (a_t a_t_house a_t_draft a_t_reader a_t_laws a_t_standing a_t_imageZero a_t_imageOne a_t_rounds a_t_ways a_t_margins a_t_marks a_t_house_turn a_t_house_bent a_t_standing_rows a_t_ways_laws a_t_ways_distance a_t_ways_before a_t_ways_lastScribe a_t_ways_queue a_t_ways_laws_made a_t_margins_of a_t_margins_said : Nat) (r_t_standing_rows : Nat → Nat) (v_t_keptZero : Int32) (v_t_keptOne : Int32) (v_t_target : Int32) (v_t_house_opinions : Int32) (v_t_house_lines : Int32) (v_t_house_books : Int32) (v_t_house_told : Int32) (v_t_house_scribes : Int32) (v_t_house_need : Int32) (g_t_house_turn : Nat → Int32) (g_t_house_bent : Nat → Int32) (v_t_standing_known : Int32) (g_t_standing_rows : Nat → Nat → Int32) (v_t_ways_queued : Int32) (v_t_ways_laws_scribes : Int32) (v_t_ways_laws_books : Int32) (g_t_ways_laws_made : Nat → Int32) (v_t_margins_size : Int32) (g_t_margins_of : Nat → Int32) (g_t_margins_said : Nat → Int32) (p1 : Int32) (R0 : Int32) (hB : f_X8_now v_t_house_opinions v_t_house_lines v_t_house_scribes v_t_house_need g_t_house_turn g_t_house_bent v_t_standing_known g_t_standing_rows v_t_ways_laws_scribes v_t_ways_laws_books g_t_ways_laws_made v_t_margins_size g_t_margins_of g_t_margins_said p1 = some R0) : Met l yX8_now (.code yX8_now cX8_now 2 (some .int) :: GW) rm_X8_now (PcR G cs [.ref a_t, .int p1] (wd_X8_now cs a_t a_t_house a_t_draft a_t_reader a_t_laws a_t_standing a_t_imageZero a_t_imageOne a_t_rounds a_t_ways a_t_margins a_t_marks a_t_house_turn a_t_house_bent a_t_standing_rows a_t_ways_laws a_t_ways_distance a_t_ways_before a_t_ways_lastScribe a_t_ways_queue a_t_ways_laws_made a_t_margins_of a_t_margins_said r_t_standing_rows v_t_keptZero v_t_keptOne v_t_target v_t_house_opinions v_t_house_lines v_t_house_books v_t_house_told v_t_house_scribes v_t_house_need g_t_house_turn g_t_house_bent v_t_standing_known g_t_standing_rows v_t_ways_queued v_t_ways_laws_scribes v_t_ways_laws_books g_t_ways_laws_made v_t_margins_size g_t_margins_of g_t_margins_said)) (vp_Si (fun r => r = R0)) 0 0 (fun _ => False) := by
  refine Met.ofW (cc := cX8_now) (maxL := 2) (ret := (some .int)) (by decide) rfl ?_
  intro p e s m args below meth c s₁ B hml hv
  obtain ⟨rfl, hP, hK, hN⟩ := hv
  have hx := B.exec
  have hb := B.bytes
  have hr := B.returns
  have hts := atoms_spec (ws := .code yX8_now cX8_now 2 (some .int) :: GW) B.pre
  have hg : ∀ w ∈ GW, w.before _ s = true := fun w h => hts w (List.mem_cons_of_mem _ h)
  have hown : s.vm.findClass RX8 = some m.cls := findClass_of_methodNamed B.named
  have hlocks := B.notSynchronized
  have hl := lv_entry ([.ref a_t, .int p1]) (n := 2) (Nat.le_of_ble_eq_true rfl)
  rw [lg_entry_eq]
  generalize (lg_sl ([.ref a_t, .int p1]) ++ List.replicate (2 - (lg_sl ([.ref a_t, .int p1])).length) Slot.unset).toArray = ls at hl ⊢
  have hl : lv_has ls 2 [(0, .ref a_t), (1, .int p1)] := hl
  obtain ⟨y, hB, hK0⟩ : ∃ y, f_X8_now v_t_house_opinions v_t_house_lines v_t_house_scribes v_t_house_need g_t_house_turn g_t_house_bent v_t_standing_known g_t_standing_rows v_t_ways_laws_scribes v_t_ways_laws_books g_t_ways_laws_made v_t_margins_size g_t_margins_of g_t_margins_said p1 = some y ∧ KEnd R0 y := ⟨R0, hB, rfl⟩
  have hKT := hK
  have hK := hK0
  show W p l e rm_X8_now s m ([.ref a_t, .int p1] : List Value).toArray below meth c s.heap [] 0 0 (MQ below (vp_Si (fun r => r = R0)) ([.ref a_t, .int p1] : List Value).toArray s 0 0 (fun _ => False)) (F0 m 0 ls [])
  refine lv_iload_n hx hb dX8_now_0 rfl (lv_at hl 1 rfl) ?_
  by_cases c_9_0 : p1 = 0
  · have hB := ifP c_9_0 hB
    refine lv_tableIn (off := 39) (tgt := 40) hx hb dX8_now_1 (by rw [c_9_0]; decide) (by rw [c_9_0]; decide) (by rw [c_9_0]; decide) (by decide) ?_
    refine lv_aload_n hx hb dX8_now_40 rfl (lv_at hl 0 rfl) ?_
    refine va_get (D := G) (ci := 8) (v := .ref a_t_standing) (C := RX8) (T := TX8) (N := 14) hx hb hg inX8 hown hKT hP 0 rfl rfl 4 (by decide) (hg _ gF_X8_36) (fun _ h9 => h9) rfl dX8_now_41 ?_
    obtain ⟨q1, hq1, hB⟩ := bnd hB
    refine kr_VN (WC := wd_X6_copiesNow cs a_t_standing a_t_standing_rows r_t_standing_rows v_t_standing_known g_t_standing_rows) (As := []) (rest := []) (r0 := q1) ⟨hx, hb, hml, hown, hg⟩ (k_X6_copiesNow l G cs a_t_standing a_t_standing_rows r_t_standing_rows v_t_standing_known g_t_standing_rows q1 hq1) nM_X8_156_l mI_X6_copiesNow (rmk rfl) hP hKT hN 4 rfl rfl [4, 5, 6, 7, 8, 9, 10, 11, 12, 13, 14, 15, 16] rfl rfl hl.1 rfl (Nat.le_of_ble_eq_true rfl) dX8_now_44 ?_
    have hK := leafK hB hK
    have hK : q1 = R0 := hK
    subst hK
    exact W.iret (v := q1) hx hb hr (fun t ht hW => ⟨_, rfl, rfl, ht⟩) (fun _ h => by cases h) dX8_now_47
  have hB := ifN c_9_0 hB
  by_cases c_9_1 : p1 = 1
  · have hB := ifP c_9_1 hB
    refine lv_tableIn (off := 47) (tgt := 48) hx hb dX8_now_1 (by rw [c_9_1]; decide) (by rw [c_9_1]; decide) (by rw [c_9_1]; decide) (by decide) ?_
    refine lv_aload_n hx hb dX8_now_48 rfl (lv_at hl 0 rfl) ?_
    refine va_get (D := G) (ci := 8) (v := .ref a_t_standing) (C := RX8) (T := TX8) (N := 14) hx hb hg inX8 hown hKT hP 0 rfl rfl 4 (by decide) (hg _ gF_X8_36) (fun _ h9 => h9) rfl dX8_now_49 ?_
    obtain ⟨q2, hq2, hB⟩ := bnd hB
    refine kr_VN (WC := wd_X6_released cs a_t_standing a_t_standing_rows r_t_standing_rows v_t_standing_known g_t_standing_rows) (As := []) (rest := []) (r0 := q2) ⟨hx, hb, hml, hown, hg⟩ (k_X6_released l G cs a_t_standing a_t_standing_rows r_t_standing_rows v_t_standing_known g_t_standing_rows q2 hq2) nM_X8_179_l mI_X6_released (rmk rfl) hP hKT hN 4 rfl rfl [4, 5, 6, 7, 8, 9, 10, 11, 12, 13, 14, 15, 16] rfl rfl hl.1 rfl (Nat.le_of_ble_eq_true rfl) dX8_now_52 ?_
    have hK := leafK hB hK
    have hK : q2 = R0 := hK
    subst hK
    exact W.iret (v := q2) hx hb hr (fun t ht hW => ⟨_, rfl, rfl, ht⟩) (fun _ h => by cases h) dX8_now_55
  have hB := ifN c_9_1 hB
  by_cases c_9_2 : p1 = 2
  · have hB := ifP c_9_2 hB
    refine lv_tableIn (off := 55) (tgt := 56) hx hb dX8_now_1 (by rw [c_9_2]; decide) (by rw [c_9_2]; decide) (by rw [c_9_2]; decide) (by decide) ?_
    refine lv_aload_n hx hb dX8_now_56 rfl (lv_at hl 0 rfl) ?_
    obtain ⟨q3, hq3, hB⟩ := bnd hB
    refine kr_V (WC := wd_X8_convinced cs a_t a_t_house a_t_draft a_t_reader a_t_laws a_t_standing a_t_imageZero a_t_imageOne a_t_rounds a_t_ways a_t_margins a_t_marks a_t_house_turn a_t_house_bent a_t_standing_rows r_t_standing_rows v_t_keptZero v_t_keptOne v_t_target v_t_house_opinions v_t_house_lines v_t_house_books v_t_house_told v_t_house_scribes v_t_house_need g_t_house_turn g_t_house_bent v_t_standing_known g_t_standing_rows) (As := []) (rest := []) (r0 := q3) ⟨hx, hb, hml, hown, hg⟩ (k_X8_convinced l G cs a_t a_t_house a_t_draft a_t_reader a_t_laws a_t_standing a_t_imageZero a_t_imageOne a_t_rounds a_t_ways a_t_margins a_t_marks a_t_house_turn a_t_house_bent a_t_standing_rows r_t_standing_rows v_t_keptZero v_t_keptOne v_t_target v_t_house_opinions v_t_house_lines v_t_house_books v_t_house_told v_t_house_scribes v_t_house_need g_t_house_turn g_t_house_bent v_t_standing_known g_t_standing_rows q3 hq3) gM_X8_194 mI_X8_convinced (rmk rfl) hP hKT hN 0 rfl rfl [0, 1, 2, 3, 4, 5, 6, 7, 8, 9, 10, 11, 12, 13, 14, 15, 16] rfl rfl hl.1 rfl (Nat.le_of_ble_eq_true rfl) dX8_now_57 ?_
    have hK := leafK hB hK
    have hK : q3 = R0 := hK
    subst hK
    exact W.iret (v := q3) hx hb hr (fun t ht hW => ⟨_, rfl, rfl, ht⟩) (fun _ h => by cases h) dX8_now_60
  have hB := ifN c_9_2 hB
  by_cases c_9_3 : p1 = 3
  · have hB := ifP c_9_3 hB
    refine lv_tableIn (off := 60) (tgt := 61) hx hb dX8_now_1 (by rw [c_9_3]; decide) (by rw [c_9_3]; decide) (by rw [c_9_3]; decide) (by decide) ?_
    refine lv_aload_n hx hb dX8_now_61 rfl (lv_at hl 0 rfl) ?_
    refine va_get (D := G) (ci := 8) (v := .ref a_t_ways) (C := RX8) (T := TX8) (N := 14) hx hb hg inX8 hown hKT hP 0 rfl rfl 11 (by decide) (hg _ gF_X8_58) (fun _ h9 => h9) rfl dX8_now_62 ?_
    refine lv_aload_n hx hb dX8_now_65 rfl (lv_at hl 0 rfl) ?_
    refine va_get (D := G) (ci := 8) (v := .ref a_t_standing) (C := RX8) (T := TX8) (N := 14) hx hb hg inX8 hown hKT hP 0 rfl rfl 4 (by decide) (hg _ gF_X8_36) (fun _ h9 => h9) rfl dX8_now_66 ?_
    obtain ⟨q4, hq4, hB⟩ := bnd hB
    refine kr_VN (WC := wd_X6_book cs a_t_standing a_t_standing_rows r_t_standing_rows v_t_standing_known g_t_standing_rows) (As := []) (rest := [.ref a_t_ways]) (r0 := q4) ⟨hx, hb, hml, hown, hg⟩ (k_X6_book l G cs a_t_standing a_t_standing_rows r_t_standing_rows v_t_standing_known g_t_standing_rows q4 hq4) nM_X8_117_l mI_X6_book (rmk rfl) hP hKT hN 4 rfl rfl [4, 5, 6, 7, 8, 9, 10, 11, 12, 13, 14, 15, 16] rfl rfl hl.1 rfl (Nat.le_of_ble_eq_true rfl) dX8_now_69 ?_
    obtain ⟨q5, hq5, hB⟩ := bnd hB
    refine kr_VN (WC := wd_X7_lastCopiers cs a_t_ways a_t_ways_laws a_t_ways_distance a_t_ways_before a_t_ways_lastScribe a_t_ways_queue a_t_ways_laws_made v_t_ways_queued v_t_ways_laws_scribes v_t_ways_laws_books g_t_ways_laws_made) (As := [.int q4]) (rest := []) (r0 := q5) ⟨hx, hb, hml, hown, hg⟩ (k_X7_lastCopiers l G cs a_t_ways a_t_ways_laws a_t_ways_distance a_t_ways_before a_t_ways_lastScribe a_t_ways_queue a_t_ways_laws_made v_t_ways_queued v_t_ways_laws_scribes v_t_ways_laws_books g_t_ways_laws_made q4 q5 hq5) nM_X8_197_l mI_X7_lastCopiers (rmk rfl) hP hKT hN 17 rfl rfl [17, 18, 19] rfl rfl hl.1 rfl (Nat.le_of_ble_eq_true rfl) dX8_now_72 ?_
    have hK := leafK hB hK
    have hK : q5 = R0 := hK
    subst hK
    exact W.iret (v := q5) hx hb hr (fun t ht hW => ⟨_, rfl, rfl, ht⟩) (fun _ h => by cases h) dX8_now_75
  have hB := ifN c_9_3 hB
  by_cases c_9_4 : p1 = 4
  · have hB := ifP c_9_4 hB
    refine lv_tableIn (off := 75) (tgt := 76) hx hb dX8_now_1 (by rw [c_9_4]; decide) (by rw [c_9_4]; decide) (by rw [c_9_4]; decide) (by decide) ?_
    refine lv_aload_n hx hb dX8_now_76 rfl (lv_at hl 0 rfl) ?_
    refine va_get (D := G) (ci := 8) (v := .ref a_t_ways) (C := RX8) (T := TX8) (N := 14) hx hb hg inX8 hown hKT hP 0 rfl rfl 11 (by decide) (hg _ gF_X8_58) (fun _ h9 => h9) rfl dX8_now_77 ?_
    refine lv_aload_n hx hb dX8_now_80 rfl (lv_at hl 0 rfl) ?_
    refine va_get (D := G) (ci := 8) (v := .ref a_t_house) (C := RX8) (T := TX8) (N := 14) hx hb hg inX8 hown hKT hP 0 rfl rfl 0 (by decide) (hg _ gF_X8_10) (fun _ h9 => h9) rfl dX8_now_81 ?_
    refine lv_aload_n hx hb dX8_now_84 rfl (lv_at hl 0 rfl) ?_
    refine va_get (D := G) (ci := 8) (v := .ref a_t_standing) (C := RX8) (T := TX8) (N := 14) hx hb hg inX8 hown hKT hP 0 rfl rfl 4 (by decide) (hg _ gF_X8_36) (fun _ h9 => h9) rfl dX8_now_85 ?_
    obtain ⟨q6, hq6, hB⟩ := bnd hB
    refine kr_VN (WC := wd_X6_book cs a_t_standing a_t_standing_rows r_t_standing_rows v_t_standing_known g_t_standing_rows) (As := []) (rest := [.ref a_t_house, .ref a_t_ways]) (r0 := q6) ⟨hx, hb, hml, hown, hg⟩ (k_X6_book l G cs a_t_standing a_t_standing_rows r_t_standing_rows v_t_standing_known g_t_standing_rows q6 hq6) nM_X8_117_l mI_X6_book (rmk rfl) hP hKT hN 4 rfl rfl [4, 5, 6, 7, 8, 9, 10, 11, 12, 13, 14, 15, 16] rfl rfl hl.1 rfl (Nat.le_of_ble_eq_true rfl) dX8_now_88 ?_
    obtain ⟨q7, hq7, hB⟩ := bnd hB
    refine kr_VN (WC := wd_X7_sameLines cs a_t_ways a_t_ways_laws a_t_ways_distance a_t_ways_before a_t_ways_lastScribe a_t_ways_queue a_t_ways_laws_made a_t_house a_t_house_turn a_t_house_bent v_t_ways_queued v_t_ways_laws_scribes v_t_ways_laws_books g_t_ways_laws_made v_t_house_opinions v_t_house_lines v_t_house_books v_t_house_told v_t_house_scribes v_t_house_need) (As := [.ref a_t_house, .int q6]) (rest := []) (r0 := q7) ⟨hx, hb, hml, hown, hg⟩ (k_X7_sameLines l G cs a_t_ways a_t_ways_laws a_t_ways_distance a_t_ways_before a_t_ways_lastScribe a_t_ways_queue a_t_ways_laws_made a_t_house a_t_house_turn a_t_house_bent v_t_ways_queued v_t_ways_laws_scribes v_t_ways_laws_books g_t_ways_laws_made v_t_house_opinions v_t_house_lines v_t_house_books v_t_house_told v_t_house_scribes v_t_house_need q6 q7 hq7) nM_X8_200_l mI_X7_sameLines (rmk rfl) hP hKT hN 17 rfl rfl [17, 18, 19, 1] rfl rfl hl.1 rfl (Nat.le_of_ble_eq_true rfl) dX8_now_91 ?_
    have hK := leafK hB hK
    have hK : q7 = R0 := hK
    subst hK
    exact W.iret (v := q7) hx hb hr (fun t ht hW => ⟨_, rfl, rfl, ht⟩) (fun _ h => by cases h) dX8_now_94
  have hB := ifN c_9_4 hB
  by_cases c_9_5 : p1 = 5
  · have hB := ifP c_9_5 hB
    refine lv_tableIn (off := 94) (tgt := 95) hx hb dX8_now_1 (by rw [c_9_5]; decide) (by rw [c_9_5]; decide) (by rw [c_9_5]; decide) (by decide) ?_
    refine lv_aload_n hx hb dX8_now_95 rfl (lv_at hl 0 rfl) ?_
    refine va_get (D := G) (ci := 8) (v := .ref a_t_margins) (C := RX8) (T := TX8) (N := 14) hx hb hg inX8 hown hKT hP 0 rfl rfl 12 (by decide) (hg _ gF_X8_65) (fun _ h9 => h9) rfl dX8_now_96 ?_
    refine lv_aload_n hx hb dX8_now_99 rfl (lv_at hl 0 rfl) ?_
    refine va_get (D := G) (ci := 8) (v := .ref a_t_house) (C := RX8) (T := TX8) (N := 14) hx hb hg inX8 hown hKT hP 0 rfl rfl 0 (by decide) (hg _ gF_X8_10) (fun _ h9 => h9) rfl dX8_now_100 ?_
    obtain ⟨q8, hq8, hB⟩ := bnd hB
    refine kr_VN (WC := wd_X2_fittingScribes cs a_t_margins a_t_margins_of a_t_margins_said a_t_house a_t_house_turn a_t_house_bent v_t_margins_size g_t_margins_of g_t_margins_said v_t_house_opinions v_t_house_lines v_t_house_books v_t_house_told v_t_house_scribes v_t_house_need g_t_house_turn g_t_house_bent) (As := [.ref a_t_house]) (rest := []) (r0 := q8) ⟨hx, hb, hml, hown, hg⟩ (k_X2_fittingScribes l G cs a_t_margins a_t_margins_of a_t_margins_said a_t_house a_t_house_turn a_t_house_bent v_t_margins_size g_t_margins_of g_t_margins_said v_t_house_opinions v_t_house_lines v_t_house_books v_t_house_told v_t_house_scribes v_t_house_need g_t_house_turn g_t_house_bent q8 hq8) nM_X8_204_l mI_X2_fittingScribes (rmk rfl) hP hKT hN 20 rfl rfl [20, 21, 22, 1, 2, 3] rfl rfl hl.1 rfl (Nat.le_of_ble_eq_true rfl) dX8_now_103 ?_
    have hK := leafK hB hK
    have hK : q8 = R0 := hK
    subst hK
    exact W.iret (v := q8) hx hb hr (fun t ht hW => ⟨_, rfl, rfl, ht⟩) (fun _ h => by cases h) dX8_now_106
  have hB := ifN c_9_5 hB
  have c_9_0t := lv_neT (a := 0) c_9_0 rfl
  have c_9_1t := lv_neT (a := 1) c_9_1 rfl
  have c_9_2t := lv_neT (a := 2) c_9_2 rfl
  have c_9_3t := lv_neT (a := 3) c_9_3 rfl
  have c_9_4t := lv_neT (a := 4) c_9_4 rfl
  have c_9_5t := lv_neT (a := 5) c_9_5 rfl
  refine lv_tableOut (tgt := 107) hx hb dX8_now_1 (by omega) (by decide) ?_
  refine lv_iconst (v := -1) hx hb dX8_now_107 (by decide) ?_
  have hK := leafK hB hK
  have hK : (-1 : Int32) = R0 := hK
  subst hK
  exact W.iret (v := (-1 : Int32)) hx hb hr (fun t ht hW => ⟨_, rfl, rfl, ht⟩) (fun _ h => by cases h) dX8_now_108
def wd_X8_bought (cs : Nat → ClassId) (a_t a_t_house a_t_draft a_t_reader a_t_laws a_t_standing a_t_imageZero a_t_imageOne a_t_rounds a_t_ways a_t_margins a_t_marks a_t_house_turn a_t_house_bent a_t_standing_rows : Nat) (r_t_standing_rows : Nat → Nat) (v_t_keptZero : Int32) (v_t_keptOne : Int32) (v_t_target : Int32) (v_t_house_opinions : Int32) (v_t_house_lines : Int32) (v_t_house_books : Int32) (v_t_house_told : Int32) (v_t_house_scribes : Int32) (v_t_house_need : Int32) (v_t_standing_known : Int32) (g_t_standing_rows : Nat → Nat → Int32) : va_W := (a_t, .inr (8, [.ref a_t_house, .ref a_t_draft, .ref a_t_reader, .ref a_t_laws, .ref a_t_standing, .ref a_t_imageZero, .ref a_t_imageOne, .int v_t_keptZero, .int v_t_keptOne, .int v_t_target, .ref a_t_rounds, .ref a_t_ways, .ref a_t_margins, .ref a_t_marks])) :: (a_t_house, .inr (0, [.int v_t_house_opinions, .int v_t_house_lines, .int v_t_house_books, .int v_t_house_told, .int v_t_house_scribes, .int v_t_house_need, .ref a_t_house_turn, .ref a_t_house_bent])) :: (a_t_standing, .inr (6, [.ref a_t_standing_rows, .int v_t_standing_known])) :: (a_t_standing_rows, .inl (cs 3, 11, .inr (.inr (.inr (.inr (gO r_t_standing_rows)))))) :: gR (cs 0) r_t_standing_rows g_t_standing_rows
def rm_X8_bought : Room := { frames := 2, cells := 0, slots := 0, locals := 41 }
theorem mI_X8_bought : MI yX8_bought RX8 cX8_bought 1 (some .int) 0 := ⟨gI_X8_bought, gE_X8_bought, gN_X8, gC_X8_bought, by decide +kernel⟩
set_option maxHeartbeats 4000000 in
set_option maxRecDepth 100000 in
theorem k_X8_bought (l : Launch) (G : va_G) (cs : Nat → ClassId) (a_t a_t_house a_t_draft a_t_reader a_t_laws a_t_standing a_t_imageZero a_t_imageOne a_t_rounds a_t_ways a_t_margins a_t_marks a_t_house_turn a_t_house_bent a_t_standing_rows : Nat) (r_t_standing_rows : Nat → Nat) (v_t_keptZero : Int32) (v_t_keptOne : Int32) (v_t_target : Int32) (v_t_house_opinions : Int32) (v_t_house_lines : Int32) (v_t_house_books : Int32) (v_t_house_told : Int32) (v_t_house_scribes : Int32) (v_t_house_need : Int32) (v_t_standing_known : Int32) (g_t_standing_rows : Nat → Nat → Int32) (R0 : Int32) (hB : f_X8_bought v_t_house_scribes v_t_standing_known g_t_standing_rows = some R0) : Met l yX8_bought (.code yX8_bought cX8_bought 1 (some .int) :: GW) rm_X8_bought (PcR G cs [.ref a_t] (wd_X8_bought cs a_t a_t_house a_t_draft a_t_reader a_t_laws a_t_standing a_t_imageZero a_t_imageOne a_t_rounds a_t_ways a_t_margins a_t_marks a_t_house_turn a_t_house_bent a_t_standing_rows r_t_standing_rows v_t_keptZero v_t_keptOne v_t_target v_t_house_opinions v_t_house_lines v_t_house_books v_t_house_told v_t_house_scribes v_t_house_need v_t_standing_known g_t_standing_rows)) (vp_Si (fun r => r = R0)) 0 0 (fun _ => False) := by
  refine Met.ofW (cc := cX8_bought) (maxL := 1) (ret := (some .int)) (by decide) rfl ?_
  intro p e s m args below meth c s₁ B hml hv
  obtain ⟨rfl, hP, hK, hN⟩ := hv
  have hx := B.exec
  have hb := B.bytes
  have hr := B.returns
  have hts := atoms_spec (ws := .code yX8_bought cX8_bought 1 (some .int) :: GW) B.pre
  have hg : ∀ w ∈ GW, w.before _ s = true := fun w h => hts w (List.mem_cons_of_mem _ h)
  have hown : s.vm.findClass RX8 = some m.cls := findClass_of_methodNamed B.named
  have hlocks := B.notSynchronized
  have hl := lv_entry ([.ref a_t]) (n := 1) (Nat.le_of_ble_eq_true rfl)
  rw [lg_entry_eq]
  generalize (lg_sl ([.ref a_t]) ++ List.replicate (1 - (lg_sl ([.ref a_t])).length) Slot.unset).toArray = ls at hl ⊢
  have hl : lv_has ls 1 [(0, .ref a_t)] := hl
  obtain ⟨y, hB, hK0⟩ : ∃ y, f_X8_bought v_t_house_scribes v_t_standing_known g_t_standing_rows = some y ∧ KEnd R0 y := ⟨R0, hB, rfl⟩
  have hKT := hK
  have hK := hK0
  show W p l e rm_X8_bought s m ([.ref a_t] : List Value).toArray below meth c s.heap [] 0 0 (MQ below (vp_Si (fun r => r = R0)) ([.ref a_t] : List Value).toArray s 0 0 (fun _ => False)) (F0 m 0 ls [])
  refine lv_aload_n hx hb dX8_bought_0 rfl (lv_at hl 0 rfl) ?_
  refine va_get (D := G) (ci := 8) (v := .ref a_t_house) (C := RX8) (T := TX8) (N := 14) hx hb hg inX8 hown hKT hP 0 rfl rfl 0 (by decide) (hg _ gF_X8_10) (fun _ h9 => h9) rfl dX8_bought_1 ?_
  obtain ⟨q1, hq1, hB⟩ := bnd hB
  refine kr_VN (WC := wd_X0_allScribes cs a_t_house a_t_house_turn a_t_house_bent v_t_house_opinions v_t_house_lines v_t_house_books v_t_house_told v_t_house_scribes v_t_house_need) (As := []) (rest := []) (r0 := q1) ⟨hx, hb, hml, hown, hg⟩ (k_X0_allScribes l G cs a_t_house a_t_house_turn a_t_house_bent v_t_house_opinions v_t_house_lines v_t_house_books v_t_house_told v_t_house_scribes v_t_house_need q1 hq1) nM_X8_210_l mI_X0_allScribes (rmk rfl) hP hKT hN 1 rfl rfl [1] rfl rfl hl.1 rfl (Nat.le_of_ble_eq_true rfl) dX8_bought_4 ?_
  refine lv_aload_n hx hb dX8_bought_7 rfl (lv_at hl 0 rfl) ?_
  refine va_get (D := G) (ci := 8) (v := .ref a_t_standing) (C := RX8) (T := TX8) (N := 14) hx hb hg inX8 hown hKT hP 0 rfl rfl 4 (by decide) (hg _ gF_X8_36) (fun _ h9 => h9) rfl dX8_bought_8 ?_
  obtain ⟨q2, hq2, hB⟩ := bnd hB
  refine kr_VN (WC := wd_X6_released cs a_t_standing a_t_standing_rows r_t_standing_rows v_t_standing_known g_t_standing_rows) (As := []) (rest := [.int q1]) (r0 := q2) ⟨hx, hb, hml, hown, hg⟩ (k_X6_released l G cs a_t_standing a_t_standing_rows r_t_standing_rows v_t_standing_known g_t_standing_rows q2 hq2) nM_X8_179_l mI_X6_released (rmk rfl) hP hKT hN 2 rfl rfl [2, 3, 4, 5, 6, 7, 8, 9, 10, 11, 12, 13, 14] rfl rfl hl.1 rfl (Nat.le_of_ble_eq_true rfl) dX8_bought_11 ?_
  refine lv_iconst (v := -1) hx hb dX8_bought_14 (by decide) ?_
  refine lv_ixor hx hb dX8_bought_15 ?_
  refine lv_iand hx hb dX8_bought_16 ?_
  have hK := leafK hB hK
  have hK : (q1 &&& (q2 ^^^ (-1 : Int32))) = R0 := hK
  subst hK
  exact W.iret (v := q1 &&& (q2 ^^^ (-1 : Int32))) hx hb hr (fun t ht hW => ⟨_, rfl, rfl, ht⟩) (fun _ h => by cases h) dX8_bought_17
def wd_X8_behind (cs : Nat → ClassId) (a_t a_t_house a_t_draft a_t_reader a_t_laws a_t_standing a_t_imageZero a_t_imageOne a_t_rounds a_t_ways a_t_margins a_t_marks a_t_house_turn a_t_house_bent a_t_standing_rows a_t_rounds_laws a_t_rounds_laws_made : Nat) (r_t_standing_rows : Nat → Nat) (v_t_keptZero : Int32) (v_t_keptOne : Int32) (v_t_target : Int32) (v_t_house_opinions : Int32) (v_t_house_lines : Int32) (v_t_house_books : Int32) (v_t_house_told : Int32) (v_t_house_scribes : Int32) (v_t_house_need : Int32) (v_t_standing_known : Int32) (g_t_standing_rows : Nat → Nat → Int32) (v_t_rounds_book : Int32) (v_t_rounds_copies : Int32) (v_t_rounds_ender : Int32) (v_t_rounds_goesOn : Int32) (v_t_rounds_laws_scribes : Int32) (v_t_rounds_laws_books : Int32) (g_t_rounds_laws_made : Nat → Int32) : va_W := [(a_t, .inr (8, [.ref a_t_house, .ref a_t_draft, .ref a_t_reader, .ref a_t_laws, .ref a_t_standing, .ref a_t_imageZero, .ref a_t_imageOne, .int v_t_keptZero, .int v_t_keptOne, .int v_t_target, .ref a_t_rounds, .ref a_t_ways, .ref a_t_margins, .ref a_t_marks])), (a_t_house, .inr (0, [.int v_t_house_opinions, .int v_t_house_lines, .int v_t_house_books, .int v_t_house_told, .int v_t_house_scribes, .int v_t_house_need, .ref a_t_house_turn, .ref a_t_house_bent])), (a_t_standing, .inr (6, [.ref a_t_standing_rows, .int v_t_standing_known])), (a_t_standing_rows, .inl (cs 3, 11, .inr (.inr (.inr (.inr (gO r_t_standing_rows)))))), (r_t_standing_rows 0, .inl (cs 0, 9, .inl (g_t_standing_rows 0))), (r_t_standing_rows 1, .inl (cs 0, 9, .inl (g_t_standing_rows 1))), (r_t_standing_rows 2, .inl (cs 0, 9, .inl (g_t_standing_rows 2))), (r_t_standing_rows 3, .inl (cs 0, 9, .inl (g_t_standing_rows 3))), (r_t_standing_rows 4, .inl (cs 0, 9, .inl (g_t_standing_rows 4))), (r_t_standing_rows 5, .inl (cs 0, 9, .inl (g_t_standing_rows 5))), (r_t_standing_rows 6, .inl (cs 0, 9, .inl (g_t_standing_rows 6))), (r_t_standing_rows 7, .inl (cs 0, 9, .inl (g_t_standing_rows 7))), (r_t_standing_rows 8, .inl (cs 0, 9, .inl (g_t_standing_rows 8))), (r_t_standing_rows 9, .inl (cs 0, 9, .inl (g_t_standing_rows 9))), (r_t_standing_rows 10, .inl (cs 0, 9, .inl (g_t_standing_rows 10))), (a_t_rounds, .inr (5, [.ref a_t_rounds_laws, .int v_t_rounds_book, .int v_t_rounds_copies, .int v_t_rounds_ender, .int v_t_rounds_goesOn])), (a_t_rounds_laws, .inr (1, [.ref a_t_rounds_laws_made, .int v_t_rounds_laws_scribes, .int v_t_rounds_laws_books])), (a_t_rounds_laws_made, .inl (cs 0, 3750, .inl g_t_rounds_laws_made))]
def rm_X8_behind : Room := { frames := 3, cells := 0, slots := 0, locals := 61 }
theorem mI_X8_behind : MI yX8_behind RX8 cX8_behind 3 (some .int) 2 := ⟨gI_X8_behind, gE_X8_behind, gN_X8, gC_X8_behind, by decide +kernel⟩
set_option maxHeartbeats 4000000 in
set_option maxRecDepth 100000 in
theorem k_X8_behind (l : Launch) (G : va_G) (cs : Nat → ClassId) (a_t a_t_house a_t_draft a_t_reader a_t_laws a_t_standing a_t_imageZero a_t_imageOne a_t_rounds a_t_ways a_t_margins a_t_marks a_t_house_turn a_t_house_bent a_t_standing_rows a_t_rounds_laws a_t_rounds_laws_made : Nat) (r_t_standing_rows : Nat → Nat) (v_t_keptZero : Int32) (v_t_keptOne : Int32) (v_t_target : Int32) (v_t_house_opinions : Int32) (v_t_house_lines : Int32) (v_t_house_books : Int32) (v_t_house_told : Int32) (v_t_house_scribes : Int32) (v_t_house_need : Int32) (v_t_standing_known : Int32) (g_t_standing_rows : Nat → Nat → Int32) (v_t_rounds_book : Int32) (v_t_rounds_copies : Int32) (v_t_rounds_ender : Int32) (v_t_rounds_goesOn : Int32) (v_t_rounds_laws_scribes : Int32) (v_t_rounds_laws_books : Int32) (g_t_rounds_laws_made : Nat → Int32) (p1 p2 : Int32) (sz : Nat) (R0 : Int32 × Int32 × Int32 × Int32 × Int32) (hB : f_X8_behind v_t_house_opinions v_t_house_lines v_t_house_scribes v_t_standing_known g_t_standing_rows v_t_rounds_book v_t_rounds_copies v_t_rounds_ender v_t_rounds_goesOn v_t_rounds_laws_scribes v_t_rounds_laws_books g_t_rounds_laws_made p1 p2 = some R0) : Met l yX8_behind (.code yX8_behind cX8_behind 3 (some .int) :: GW) rm_X8_behind (PcW G cs [.ref a_t, .int p1, .int p2] (wd_X8_behind cs a_t a_t_house a_t_draft a_t_reader a_t_laws a_t_standing a_t_imageZero a_t_imageOne a_t_rounds a_t_ways a_t_margins a_t_marks a_t_house_turn a_t_house_bent a_t_standing_rows a_t_rounds_laws a_t_rounds_laws_made r_t_standing_rows v_t_keptZero v_t_keptOne v_t_target v_t_house_opinions v_t_house_lines v_t_house_books v_t_house_told v_t_house_scribes v_t_house_need v_t_standing_known g_t_standing_rows v_t_rounds_book v_t_rounds_copies v_t_rounds_ender v_t_rounds_goesOn v_t_rounds_laws_scribes v_t_rounds_laws_books g_t_rounds_laws_made) sz) (QcI G (va_A (wd_X8_behind cs a_t a_t_house a_t_draft a_t_reader a_t_laws a_t_standing a_t_imageZero a_t_imageOne a_t_rounds a_t_ways a_t_margins a_t_marks a_t_house_turn a_t_house_bent a_t_standing_rows a_t_rounds_laws a_t_rounds_laws_made r_t_standing_rows v_t_keptZero v_t_keptOne v_t_target v_t_house_opinions v_t_house_lines v_t_house_books v_t_house_told v_t_house_scribes v_t_house_need v_t_standing_known g_t_standing_rows v_t_rounds_book v_t_rounds_copies v_t_rounds_ender v_t_rounds_goesOn v_t_rounds_laws_scribes v_t_rounds_laws_books g_t_rounds_laws_made) sz) (wd_X8_behind cs a_t a_t_house a_t_draft a_t_reader a_t_laws a_t_standing a_t_imageZero a_t_imageOne a_t_rounds a_t_ways a_t_margins a_t_marks a_t_house_turn a_t_house_bent a_t_standing_rows a_t_rounds_laws a_t_rounds_laws_made r_t_standing_rows v_t_keptZero v_t_keptOne v_t_target v_t_house_opinions v_t_house_lines v_t_house_books v_t_house_told v_t_house_scribes v_t_house_need v_t_standing_known g_t_standing_rows R0.2.1 R0.2.2.1 R0.2.2.2.1 R0.2.2.2.2 v_t_rounds_laws_scribes v_t_rounds_laws_books g_t_rounds_laws_made) R0.1) 0 0 (va_A (wd_X8_behind cs a_t a_t_house a_t_draft a_t_reader a_t_laws a_t_standing a_t_imageZero a_t_imageOne a_t_rounds a_t_ways a_t_margins a_t_marks a_t_house_turn a_t_house_bent a_t_standing_rows a_t_rounds_laws a_t_rounds_laws_made r_t_standing_rows v_t_keptZero v_t_keptOne v_t_target v_t_house_opinions v_t_house_lines v_t_house_books v_t_house_told v_t_house_scribes v_t_house_need v_t_standing_known g_t_standing_rows v_t_rounds_book v_t_rounds_copies v_t_rounds_ender v_t_rounds_goesOn v_t_rounds_laws_scribes v_t_rounds_laws_books g_t_rounds_laws_made) sz) := by
  refine Met.ofW (cc := cX8_behind) (maxL := 3) (ret := (some .int)) (by decide) rfl ?_
  intro p e s m args below meth c s₁ B hml hv
  obtain ⟨rfl, hsz, hP, hD0, hK, hN⟩ := hv
  have hx := B.exec
  have hb := B.bytes
  have hr := B.returns
  have hts := atoms_spec (ws := .code yX8_behind cX8_behind 3 (some .int) :: GW) B.pre
  have hg : ∀ w ∈ GW, w.before _ s = true := fun w h => hts w (List.mem_cons_of_mem _ h)
  have hown : s.vm.findClass RX8 = some m.cls := findClass_of_methodNamed B.named
  have hlocks := B.notSynchronized
  subst hsz
  have hD := hD0.self (sz := s.heap.size)
  generalize hAe : va_A (wd_X8_behind cs a_t a_t_house a_t_draft a_t_reader a_t_laws a_t_standing a_t_imageZero a_t_imageOne a_t_rounds a_t_ways a_t_margins a_t_marks a_t_house_turn a_t_house_bent a_t_standing_rows a_t_rounds_laws a_t_rounds_laws_made r_t_standing_rows v_t_keptZero v_t_keptOne v_t_target v_t_house_opinions v_t_house_lines v_t_house_books v_t_house_told v_t_house_scribes v_t_house_need v_t_standing_known g_t_standing_rows v_t_rounds_book v_t_rounds_copies v_t_rounds_ender v_t_rounds_goesOn v_t_rounds_laws_scribes v_t_rounds_laws_books g_t_rounds_laws_made) s.heap.size = A at hD ⊢
  have hA : ∀ q : Nat, s.heap.size ≤ q → A q := fun q h => by rw [← hAe]; exact Or.inr h
  have hS : va_S A s.heap s.heap [] := va_S.rf
  have hl := lv_entry ([.ref a_t, .int p1, .int p2]) (n := 3) (Nat.le_of_ble_eq_true rfl)
  rw [lg_entry_eq]
  generalize (lg_sl ([.ref a_t, .int p1, .int p2]) ++ List.replicate (3 - (lg_sl ([.ref a_t, .int p1, .int p2])).length) Slot.unset).toArray = ls at hl ⊢
  have hl : lv_has ls 3 [(0, .ref a_t), (1, .int p1), (2, .int p2)] := hl
  obtain ⟨y, hB, hK0⟩ : ∃ y, f_X8_behind v_t_house_opinions v_t_house_lines v_t_house_scribes v_t_standing_known g_t_standing_rows v_t_rounds_book v_t_rounds_copies v_t_rounds_ender v_t_rounds_goesOn v_t_rounds_laws_scribes v_t_rounds_laws_books g_t_rounds_laws_made p1 p2 = some y ∧ KEnd R0 y := ⟨R0, hB, rfl⟩
  have hKT := hK
  have hK := hK0
  obtain ⟨H, hHe⟩ : ∃ H, H = s.heap := ⟨_, rfl⟩
  obtain ⟨locs, hLe⟩ : ∃ L : List Loc, L = [] := ⟨_, rfl⟩
  rw [← hHe] at hP
  have hS : va_S A s.heap H locs := by rw [hHe, hLe]; exact hS
  show W p l e rm_X8_behind s m ([.ref a_t, .int p1, .int p2] : List Value).toArray below meth c s.heap [] 0 0 _ _
  suffices hgo : W p l e rm_X8_behind s m ([.ref a_t, .int p1, .int p2] : List Value).toArray below meth c H locs 0 0 (MQ below (QcI G A (wd_X8_behind cs a_t a_t_house a_t_draft a_t_reader a_t_laws a_t_standing a_t_imageZero a_t_imageOne a_t_rounds a_t_ways a_t_margins a_t_marks a_t_house_turn a_t_house_bent a_t_standing_rows a_t_rounds_laws a_t_rounds_laws_made r_t_standing_rows v_t_keptZero v_t_keptOne v_t_target v_t_house_opinions v_t_house_lines v_t_house_books v_t_house_told v_t_house_scribes v_t_house_need v_t_standing_known g_t_standing_rows R0.2.1 R0.2.2.1 R0.2.2.2.1 R0.2.2.2.2 v_t_rounds_laws_scribes v_t_rounds_laws_books g_t_rounds_laws_made) R0.1) ([.ref a_t, .int p1, .int p2] : List Value).toArray s 0 0 A) (F0 m 0 ls []) by rw [hHe, hLe] at hgo; exact hgo
  refine lv_iload_n hx hb dX8_behind_0 rfl (lv_at hl 1 rfl) ?_
  refine lv_if_lt (tgt := 21) hx hb dX8_behind_1 (by decide) (fun c_1 => ?_) (fun c_1 => ?_)
  · have hB := ifP c_1 hB
    refine lv_iconst (v := -1) hx hb dX8_behind_21 (by decide) ?_
    have hK := leafK hB hK
    have hK : ((-1 : Int32), v_t_rounds_book, v_t_rounds_copies, v_t_rounds_ender, v_t_rounds_goesOn) = R0 := hK
    subst hK
    exact W.iret (v := (-1 : Int32)) hx hb hr (fun t ht hW => ⟨⟨_, (), rfl, rfl, by rw [ht]; exact hP, hD⟩, hS.F ht⟩) hS.2.2 dX8_behind_22
  · have hB := ifN c_1 hB
    refine lv_iload_n hx hb dX8_behind_4 rfl (lv_at hl 1 rfl) ?_
    refine lv_bipush (v := 99) hx hb dX8_behind_5 (by decide) ?_
    refine lv_icmp_gt (tgt := 21) hx hb dX8_behind_7 (by decide) (fun c_2 => ?_) (fun c_2 => ?_)
    · have hB := ifP c_2 hB
      refine lv_iconst (v := -1) hx hb dX8_behind_21 (by decide) ?_
      have hK := leafK hB hK
      have hK : ((-1 : Int32), v_t_rounds_book, v_t_rounds_copies, v_t_rounds_ender, v_t_rounds_goesOn) = R0 := hK
      subst hK
      exact W.iret (v := (-1 : Int32)) hx hb hr (fun t ht hW => ⟨⟨_, (), rfl, rfl, by rw [ht]; exact hP, hD⟩, hS.F ht⟩) hS.2.2 dX8_behind_22
    · have hB := ifN c_2 hB
      refine lv_aload_n hx hb dX8_behind_10 rfl (lv_at hl 0 rfl) ?_
      refine va_get (D := G) (ci := 8) (v := .ref a_t_house) (C := RX8) (T := TX8) (N := 14) hx hb hg inX8 hown hKT hP 0 rfl rfl 0 (by decide) (hg _ gF_X8_10) (fun _ h9 => h9) rfl dX8_behind_11 ?_
      refine lv_iload_n hx hb dX8_behind_14 rfl (lv_at hl 2 rfl) ?_
      obtain ⟨q3, hq3, hB⟩ := bnd hB
      refine kr_VN (WC := wd_X0_hasLine cs a_t_house a_t_house_turn a_t_house_bent v_t_house_opinions v_t_house_lines v_t_house_books v_t_house_told v_t_house_scribes v_t_house_need) (As := [.int p2]) (rest := []) (r0 := q3) ⟨hx, hb, hml, hown, hg⟩ (k_X0_hasLine l G cs a_t_house a_t_house_turn a_t_house_bent v_t_house_opinions v_t_house_lines v_t_house_books v_t_house_told v_t_house_scribes v_t_house_need p2 q3 hq3) nM_X8_114_l mI_X0_hasLine (rmk rfl) hP hKT hN 1 rfl rfl [1] rfl rfl hl.1 rfl (Nat.le_of_ble_eq_true rfl) dX8_behind_15 ?_
      refine lv_if_ne (tgt := 23) hx hb dX8_behind_18 (by decide) (fun c_4 => ?_) (fun c_4 => ?_)
      · have hB := ifN c_4 hB
        refine lv_aload_n hx hb dX8_behind_23 rfl (lv_at hl 0 rfl) ?_
        refine va_get (D := G) (ci := 8) (v := .ref a_t_rounds) (C := RX8) (T := TX8) (N := 14) hx hb hg inX8 hown hKT hP 0 rfl rfl 10 (by decide) (hg _ gF_X8_51) (fun _ h9 => h9) rfl dX8_behind_24 ?_
        refine lv_aload_n hx hb dX8_behind_27 rfl (lv_at hl 0 rfl) ?_
        refine va_get (D := G) (ci := 8) (v := .ref a_t_standing) (C := RX8) (T := TX8) (N := 14) hx hb hg inX8 hown hKT hP 0 rfl rfl 4 (by decide) (hg _ gF_X8_36) (fun _ h9 => h9) rfl dX8_behind_28 ?_
        obtain ⟨q5, hq5, hB⟩ := bnd hB
        refine kr_VN (WC := wd_X6_book cs a_t_standing a_t_standing_rows r_t_standing_rows v_t_standing_known g_t_standing_rows) (As := []) (rest := [.ref a_t_rounds]) (r0 := q5) ⟨hx, hb, hml, hown, hg⟩ (k_X6_book l G cs a_t_standing a_t_standing_rows r_t_standing_rows v_t_standing_known g_t_standing_rows q5 hq5) nM_X8_117_l mI_X6_book (rmk rfl) hP hKT hN 2 rfl rfl [2, 3, 4, 5, 6, 7, 8, 9, 10, 11, 12, 13, 14] rfl rfl hl.1 rfl (Nat.le_of_ble_eq_true rfl) dX8_behind_31 ?_
        refine lv_aload_n hx hb dX8_behind_34 rfl (lv_at hl 0 rfl) ?_
        obtain ⟨q6, hq6, hB⟩ := bnd hB
        refine kr_V (WC := wd_X8_bought cs a_t a_t_house a_t_draft a_t_reader a_t_laws a_t_standing a_t_imageZero a_t_imageOne a_t_rounds a_t_ways a_t_margins a_t_marks a_t_house_turn a_t_house_bent a_t_standing_rows r_t_standing_rows v_t_keptZero v_t_keptOne v_t_target v_t_house_opinions v_t_house_lines v_t_house_books v_t_house_told v_t_house_scribes v_t_house_need v_t_standing_known g_t_standing_rows) (As := []) (rest := [.int q5, .ref a_t_rounds]) (r0 := q6) ⟨hx, hb, hml, hown, hg⟩ (k_X8_bought l G cs a_t a_t_house a_t_draft a_t_reader a_t_laws a_t_standing a_t_imageZero a_t_imageOne a_t_rounds a_t_ways a_t_margins a_t_marks a_t_house_turn a_t_house_bent a_t_standing_rows r_t_standing_rows v_t_keptZero v_t_keptOne v_t_target v_t_house_opinions v_t_house_lines v_t_house_books v_t_house_told v_t_house_scribes v_t_house_need v_t_standing_known g_t_standing_rows q6 hq6) gM_X8_213 mI_X8_bought (rmk rfl) hP hKT hN 0 rfl rfl [0, 1, 2, 3, 4, 5, 6, 7, 8, 9, 10, 11, 12, 13, 14] rfl rfl hl.1 rfl (Nat.le_of_ble_eq_true rfl) dX8_behind_35 ?_
        refine lv_iload_n hx hb dX8_behind_38 rfl (lv_at hl 1 rfl) ?_
        obtain ⟨⟨q7_0, q7_1, q7_2, q7_3⟩, hq7, hB⟩ := bnd hB
        refine kw_v (WC := wd_X5_run cs a_t_rounds a_t_rounds_laws a_t_rounds_laws_made v_t_rounds_book v_t_rounds_copies v_t_rounds_ender v_t_rounds_goesOn v_t_rounds_laws_scribes v_t_rounds_laws_books g_t_rounds_laws_made) (W1 := wd_X5_run cs a_t_rounds a_t_rounds_laws a_t_rounds_laws_made q7_0 q7_1 q7_2 q7_3 v_t_rounds_laws_scribes v_t_rounds_laws_books g_t_rounds_laws_made) (W2 := wd_X8_behind cs a_t a_t_house a_t_draft a_t_reader a_t_laws a_t_standing a_t_imageZero a_t_imageOne a_t_rounds a_t_ways a_t_margins a_t_marks a_t_house_turn a_t_house_bent a_t_standing_rows a_t_rounds_laws a_t_rounds_laws_made r_t_standing_rows v_t_keptZero v_t_keptOne v_t_target v_t_house_opinions v_t_house_lines v_t_house_books v_t_house_told v_t_house_scribes v_t_house_need v_t_standing_known g_t_standing_rows q7_0 q7_1 q7_2 q7_3 v_t_rounds_laws_scribes v_t_rounds_laws_books g_t_rounds_laws_made) (rw_VN (As := [.int q5, .int q6, .int p1]) (rest := []) ⟨hx, hb, hml, hown, hg⟩ (k_X5_run l G cs a_t_rounds a_t_rounds_laws a_t_rounds_laws_made v_t_rounds_book v_t_rounds_copies v_t_rounds_ender v_t_rounds_goesOn v_t_rounds_laws_scribes v_t_rounds_laws_books g_t_rounds_laws_made q5 q6 p1 H.size (q7_0, q7_1, q7_2, q7_3) hq7) nM_X8_216_l mI_X5_run (rmk rfl) hP hD hKT hN 15 rfl rfl [15, 16, 17] rfl rfl rfl hl.1 rfl (Nat.le_of_ble_eq_true rfl) dX8_behind_39) hP hD hS hA [15, 16, 17] [0, 1, 2, 3, 4, 5, 6, 7, 8, 9, 10, 11, 12, 13, 14] [0, 1, 2, 3, 4, 5, 6, 7, 8, 9, 10, 11, 12, 13, 14, 15, 16, 17] ⟨rfl, rfl, rfl, rfl, rfl, rfl, rfl⟩ (fun H locs hP hD hS => ?_)
        refine lv_aload_n hx hb dX8_behind_42 rfl (lv_at hl 0 rfl) ?_
        refine va_get (D := G) (ci := 8) (v := .ref a_t_house) (C := RX8) (T := TX8) (N := 14) hx hb hg inX8 hown hKT hP 0 rfl rfl 0 (by decide) (hg _ gF_X8_10) (fun _ h9 => h9) rfl dX8_behind_43 ?_
        refine lv_aload_n hx hb dX8_behind_46 rfl (lv_at hl 0 rfl) ?_
        refine va_get (D := G) (ci := 8) (v := .ref a_t_rounds) (C := RX8) (T := TX8) (N := 14) hx hb hg inX8 hown hKT hP 0 rfl rfl 10 (by decide) (hg _ gF_X8_51) (fun _ h9 => h9) rfl dX8_behind_47 ?_
        refine va_getN (D := G) (ci := 5) (v := .int q7_0) (C := RX5) (T := TX5) (N := 5) hx hb hg inX5 hown hKT hP 15 rfl rfl 1 (by decide) (va_Nw.use rfl (hN _ nF_X8_220_l rfl)) (fun _ h9 => h9) rfl dX8_behind_50 ?_
        refine lv_iload_n hx hb dX8_behind_53 rfl (lv_at hl 2 rfl) ?_
        obtain ⟨q8, hq8, hB⟩ := bnd hB
        refine kr_VN (WC := wd_X0_lineOf cs a_t_house a_t_house_turn a_t_house_bent v_t_house_opinions v_t_house_lines v_t_house_books v_t_house_told v_t_house_scribes v_t_house_need) (As := [.int q7_0, .int p2]) (rest := []) (r0 := q8) ⟨hx, hb, hml, hown, hg⟩ (k_X0_lineOf l G cs a_t_house a_t_house_turn a_t_house_bent v_t_house_opinions v_t_house_lines v_t_house_books v_t_house_told v_t_house_scribes v_t_house_need q7_0 p2 q8 hq8) nM_X8_120_l mI_X0_lineOf (rmk rfl) hP hKT hN 1 rfl rfl [1] rfl rfl hl.1 rfl (Nat.le_of_ble_eq_true rfl) dX8_behind_54 ?_
        have hK := leafK hB hK
        have hK : (q8, q7_0, q7_1, q7_2, q7_3) = R0 := hK
        subst hK
        exact W.iret (v := q8) hx hb hr (fun t ht hW => ⟨⟨_, (), rfl, rfl, by rw [ht]; exact hP, hD⟩, hS.F ht⟩) hS.2.2 dX8_behind_57
      · have hB := ifP c_4 hB
        refine lv_iconst (v := -1) hx hb dX8_behind_21 (by decide) ?_
        have hK := leafK hB hK
        have hK : ((-1 : Int32), v_t_rounds_book, v_t_rounds_copies, v_t_rounds_ender, v_t_rounds_goesOn) = R0 := hK
        subst hK
        exact W.iret (v := (-1 : Int32)) hx hb hr (fun t ht hW => ⟨⟨_, (), rfl, rfl, by rw [ht]; exact hP, hD⟩, hS.F ht⟩) hS.2.2 dX8_behind_22
