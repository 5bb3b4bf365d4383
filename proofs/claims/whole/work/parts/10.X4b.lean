def wd_X4_readScribe (cs : Nat → ClassId) (a_t a_t_text a_p1 a_p1_turn a_p1_bent : Nat) (v_t_length : Int32) (v_t_next : Int32) (v_t_place : Int32) (v_t_sort : Int32) (v_t_value : Int32) (v_t_bookTold : Int32) (v_t_needTold : Int32) (g_t_text : Nat → Int32) (v_p1_opinions : Int32) (v_p1_lines : Int32) (v_p1_books : Int32) (v_p1_told : Int32) (v_p1_scribes : Int32) (v_p1_need : Int32) (g_p1_turn : Nat → Int32) (g_p1_bent : Nat → Int32) : va_W := [(a_t, .inr (4, [.ref a_t_text, .int v_t_length, .int v_t_next, .int v_t_place, .int v_t_sort, .int v_t_value, .int v_t_bookTold, .int v_t_needTold])), (a_t_text, .inl (cs 0, 120, .inl g_t_text)), (a_p1, .inr (0, [.int v_p1_opinions, .int v_p1_lines, .int v_p1_books, .int v_p1_told, .int v_p1_scribes, .int v_p1_need, .ref a_p1_turn, .ref a_p1_bent])), (a_p1_turn, .inl (cs 0, 6, .inl g_p1_turn)), (a_p1_bent, .inl (cs 0, 6, .inl g_p1_bent))]
def rm_X4_readScribe : Room := { frames := 4, cells := 0, slots := 0, locals := 94 }
theorem mI_X4_readScribe : MI yX4_readScribe RX4 cX4_readScribe 3 (some .boolean) 1 := ⟨gI_X4_readScribe, gE_X4_readScribe, gN_X4, gC_X4_readScribe, by decide +kernel⟩
set_option maxHeartbeats 4000000 in
set_option maxRecDepth 100000 in
theorem k_X4_readScribe (l : Launch) (G : va_G) (cs : Nat → ClassId) (a_t a_t_text a_p1 a_p1_turn a_p1_bent : Nat) (v_t_length : Int32) (v_t_next : Int32) (v_t_place : Int32) (v_t_sort : Int32) (v_t_value : Int32) (v_t_bookTold : Int32) (v_t_needTold : Int32) (g_t_text : Nat → Int32) (v_p1_opinions : Int32) (v_p1_lines : Int32) (v_p1_books : Int32) (v_p1_told : Int32) (v_p1_scribes : Int32) (v_p1_need : Int32) (g_p1_turn : Nat → Int32) (g_p1_bent : Nat → Int32) (sz : Nat) (R0 : Int32 × Int32 × Int32 × Int32 × Int32 × Int32 × (Nat → Int32) × (Nat → Int32)) (hB : f_X4_readScribe v_t_length v_t_next v_t_value g_t_text v_p1_scribes g_p1_turn g_p1_bent = some R0) : Met l yX4_readScribe (.code yX4_readScribe cX4_readScribe 3 (some .boolean) :: GW) rm_X4_readScribe (PcW G cs [.ref a_t, .ref a_p1] (wd_X4_readScribe cs a_t a_t_text a_p1 a_p1_turn a_p1_bent v_t_length v_t_next v_t_place v_t_sort v_t_value v_t_bookTold v_t_needTold g_t_text v_p1_opinions v_p1_lines v_p1_books v_p1_told v_p1_scribes v_p1_need g_p1_turn g_p1_bent) sz) (QcI G (va_A (wd_X4_readScribe cs a_t a_t_text a_p1 a_p1_turn a_p1_bent v_t_length v_t_next v_t_place v_t_sort v_t_value v_t_bookTold v_t_needTold g_t_text v_p1_opinions v_p1_lines v_p1_books v_p1_told v_p1_scribes v_p1_need g_p1_turn g_p1_bent) sz) (wd_X4_readScribe cs a_t a_t_text a_p1 a_p1_turn a_p1_bent v_t_length R0.2.1 R0.2.2.1 R0.2.2.2.1 R0.2.2.2.2.1 v_t_bookTold v_t_needTold g_t_text v_p1_opinions v_p1_lines v_p1_books v_p1_told R0.2.2.2.2.2.1 v_p1_need R0.2.2.2.2.2.2.1 R0.2.2.2.2.2.2.2) R0.1) 0 0 (va_A (wd_X4_readScribe cs a_t a_t_text a_p1 a_p1_turn a_p1_bent v_t_length v_t_next v_t_place v_t_sort v_t_value v_t_bookTold v_t_needTold g_t_text v_p1_opinions v_p1_lines v_p1_books v_p1_told v_p1_scribes v_p1_need g_p1_turn g_p1_bent) sz) := by
  refine Met.ofW (cc := cX4_readScribe) (maxL := 3) (ret := (some .boolean)) (by decide) rfl ?_
  intro p e s m args below meth c s₁ B hml hv
  obtain ⟨rfl, hsz, hP, hD0, hK, hN⟩ := hv
  have hx := B.exec
  have hb := B.bytes
  have hr := B.returns
  have hts := atoms_spec (ws := .code yX4_readScribe cX4_readScribe 3 (some .boolean) :: GW) B.pre
  have hg : ∀ w ∈ GW, w.before _ s = true := fun w h => hts w (List.mem_cons_of_mem _ h)
  have hown : s.vm.findClass RX4 = some m.cls := findClass_of_methodNamed B.named
  have hlocks := B.notSynchronized
  subst hsz
  have hD := hD0.self (sz := s.heap.size)
  generalize hAe : va_A (wd_X4_readScribe cs a_t a_t_text a_p1 a_p1_turn a_p1_bent v_t_length v_t_next v_t_place v_t_sort v_t_value v_t_bookTold v_t_needTold g_t_text v_p1_opinions v_p1_lines v_p1_books v_p1_told v_p1_scribes v_p1_need g_p1_turn g_p1_bent) s.heap.size = A at hD ⊢
  have hA : ∀ q : Nat, s.heap.size ≤ q → A q := fun q h => by rw [← hAe]; exact Or.inr h
  have hS : va_S A s.heap s.heap [] := va_S.rf
  have hl := lv_entry ([.ref a_t, .ref a_p1]) (n := 3) (Nat.le_of_ble_eq_true rfl)
  rw [lg_entry_eq]
  generalize (lg_sl ([.ref a_t, .ref a_p1]) ++ List.replicate (3 - (lg_sl ([.ref a_t, .ref a_p1])).length) Slot.unset).toArray = ls at hl ⊢
  have hl : lv_has ls 3 [(0, .ref a_t), (1, .ref a_p1)] := hl
  obtain ⟨y, hB, hK0⟩ : ∃ y, f_X4_readScribe v_t_length v_t_next v_t_value g_t_text v_p1_scribes g_p1_turn g_p1_bent = some y ∧ KEnd R0 y := ⟨R0, hB, rfl⟩
  have hKT := hK
  have hK := hK0
  obtain ⟨H, hHe⟩ : ∃ H, H = s.heap := ⟨_, rfl⟩
  obtain ⟨locs, hLe⟩ : ∃ L : List Loc, L = [] := ⟨_, rfl⟩
  rw [← hHe] at hP
  have hS : va_S A s.heap H locs := by rw [hHe, hLe]; exact hS
  show W p l e rm_X4_readScribe s m ([.ref a_t, .ref a_p1] : List Value).toArray below meth c s.heap [] 0 0 _ _
  suffices hgo : W p l e rm_X4_readScribe s m ([.ref a_t, .ref a_p1] : List Value).toArray below meth c H locs 0 0 (MQ below (QcI G A (wd_X4_readScribe cs a_t a_t_text a_p1 a_p1_turn a_p1_bent v_t_length R0.2.1 R0.2.2.1 R0.2.2.2.1 R0.2.2.2.2.1 v_t_bookTold v_t_needTold g_t_text v_p1_opinions v_p1_lines v_p1_books v_p1_told R0.2.2.2.2.2.1 v_p1_need R0.2.2.2.2.2.2.1 R0.2.2.2.2.2.2.2) R0.1) ([.ref a_t, .ref a_p1] : List Value).toArray s 0 0 A) (F0 m 0 ls []) by rw [hHe, hLe] at hgo; exact hgo
  refine lv_aload_n hx hb dX4_readScribe_0 rfl (lv_at hl 0 rfl) ?_
  refine lv_iconst (v := 0) hx hb dX4_readScribe_1 (by decide) ?_
  refine lv_bipush (v := 6) hx hb dX4_readScribe_2 (by decide) ?_
  obtain ⟨⟨q1_0, q1_1, q1_2, q1_3, q1_4⟩, hq1, hB⟩ := bnd hB
  refine kw_i (WC := wd_X4_readNumber cs a_t a_t_text v_t_length v_t_next v_t_place v_t_sort v_t_value v_t_bookTold v_t_needTold g_t_text) (W1 := wd_X4_readNumber cs a_t a_t_text v_t_length q1_1 q1_2 q1_3 q1_4 v_t_bookTold v_t_needTold g_t_text) (W2 := wd_X4_readScribe cs a_t a_t_text a_p1 a_p1_turn a_p1_bent v_t_length q1_1 q1_2 q1_3 q1_4 v_t_bookTold v_t_needTold g_t_text v_p1_opinions v_p1_lines v_p1_books v_p1_told v_p1_scribes v_p1_need g_p1_turn g_p1_bent) (r0 := q1_0) (rw_V (As := [.int (0 : Int32), .int (6 : Int32)]) (rest := []) ⟨hx, hb, hml, hown, hg⟩ (k_X4_readNumber l G cs a_t a_t_text v_t_length v_t_next v_t_place v_t_sort v_t_value v_t_bookTold v_t_needTold g_t_text (0 : Int32) (6 : Int32) H.size (q1_0, q1_1, q1_2, q1_3, q1_4) hq1) gM_X4_62 mI_X4_readNumber (rmk rfl) hP hD hKT hN 0 rfl rfl [0, 1] rfl rfl rfl hl.1 rfl (Nat.le_of_ble_eq_true rfl) dX4_readScribe_4) hP hD hS hA [0, 1] [2, 3, 4] [3, 4, 0, 1, 2] ⟨rfl, rfl, rfl, rfl, rfl, rfl, rfl⟩ (fun H locs hP hD hS => ?_)
  refine lv_if_ne (tgt := 12) hx hb dX4_readScribe_7 (by decide) (fun c_2 => ?_) (fun c_2 => ?_)
  · have hB := ifN c_2 hB
    refine lv_aload_n hx hb dX4_readScribe_12 rfl (lv_at hl 0 rfl) ?_
    refine va_get (D := G) (ci := 4) (v := .int q1_4) (C := RX4) (T := TX4) (N := 8) hx hb hg inX4 hown hKT hP 0 rfl rfl 5 (by decide) (hg _ gF_X4_40) (fun _ h9 => h9) rfl dX4_readScribe_13 ?_
    refine lv_istore_n (lv' := [(2, .int q1_4), (0, .ref a_t), (1, .ref a_p1)]) hx hb dX4_readScribe_16 rfl hl (by decide) rfl (fun ls hl => ?_)
    refine lv_aload_n hx hb dX4_readScribe_17 rfl (lv_at hl 1 rfl) ?_
    refine lv_iconst (v := 0) hx hb dX4_readScribe_18 (by decide) ?_
    refine lv_bipush (v := 6) hx hb dX4_readScribe_19 (by decide) ?_
    obtain ⟨⟨q3_0, q3_1, q3_2, q3_3, q3_4⟩, hq3, hB⟩ := bnd hB
    refine kw_i (WC := wd_X4_readNumber cs a_t a_t_text v_t_length q1_1 q1_2 q1_3 q1_4 v_t_bookTold v_t_needTold g_t_text) (W1 := wd_X4_readNumber cs a_t a_t_text v_t_length q3_1 q3_2 q3_3 q3_4 v_t_bookTold v_t_needTold g_t_text) (W2 := wd_X4_readScribe cs a_t a_t_text a_p1 a_p1_turn a_p1_bent v_t_length q3_1 q3_2 q3_3 q3_4 v_t_bookTold v_t_needTold g_t_text v_p1_opinions v_p1_lines v_p1_books v_p1_told v_p1_scribes v_p1_need g_p1_turn g_p1_bent) (r0 := q3_0) (rw_V (As := [.int (0 : Int32), .int (6 : Int32)]) (rest := []) ⟨hx, hb, hml, hown, hg⟩ (k_X4_readNumber l G cs a_t a_t_text v_t_length q1_1 q1_2 q1_3 q1_4 v_t_bookTold v_t_needTold g_t_text (0 : Int32) (6 : Int32) H.size (q3_0, q3_1, q3_2, q3_3, q3_4) hq3) gM_X4_62 mI_X4_readNumber (rmk rfl) hP hD hKT hN 0 rfl rfl [0, 1] rfl rfl rfl hl.1 rfl (Nat.le_of_ble_eq_true rfl) dX4_readScribe_21) hP hD hS hA [0, 1] [2, 3, 4] [3, 4, 0, 1, 2] ⟨rfl, rfl, rfl, rfl, rfl, rfl, rfl⟩ (fun H locs hP hD hS => ?_)
    refine lv_if_ne (tgt := 29) hx hb dX4_readScribe_24 (by decide) (fun c_4 => ?_) (fun c_4 => ?_)
    · have hB := ifN c_4 hB
      refine lv_aload_n hx hb dX4_readScribe_29 rfl (lv_at hl 2 rfl) ?_
      refine lv_iload_n hx hb dX4_readScribe_30 rfl (lv_at hl 0 rfl) ?_
      refine lv_aload_n hx hb dX4_readScribe_31 rfl (lv_at hl 1 rfl) ?_
      refine va_get (D := G) (ci := 4) (v := .int q3_4) (C := RX4) (T := TX4) (N := 8) hx hb hg inX4 hown hKT hP 0 rfl rfl 5 (by decide) (hg _ gF_X4_40) (fun _ h9 => h9) rfl dX4_readScribe_32 ?_
      obtain ⟨⟨q5_0, q5_1, q5_2⟩, hq5, hB⟩ := bnd hB
      refine kw_v (WC := wd_X0_addScribe cs a_p1 a_p1_turn a_p1_bent v_p1_opinions v_p1_lines v_p1_books v_p1_told v_p1_scribes v_p1_need g_p1_turn g_p1_bent) (W1 := wd_X0_addScribe cs a_p1 a_p1_turn a_p1_bent v_p1_opinions v_p1_lines v_p1_books v_p1_told q5_0 v_p1_need q5_1 q5_2) (W2 := wd_X4_readScribe cs a_t a_t_text a_p1 a_p1_turn a_p1_bent v_t_length q3_1 q3_2 q3_3 q3_4 v_t_bookTold v_t_needTold g_t_text v_p1_opinions v_p1_lines v_p1_books v_p1_told q5_0 v_p1_need q5_1 q5_2) (rw_VN (As := [.int q1_4, .int q3_4]) (rest := []) ⟨hx, hb, hml, hown, hg⟩ (k_X0_addScribe l G cs a_p1 a_p1_turn a_p1_bent v_p1_opinions v_p1_lines v_p1_books v_p1_told v_p1_scribes v_p1_need g_p1_turn g_p1_bent q1_4 q3_4 H.size (q5_0, q5_1, q5_2) hq5) nM_X4_81_l mI_X0_addScribe (rmk rfl) hP hD hKT hN 2 rfl rfl [2, 3, 4] rfl rfl rfl hl.1 rfl (Nat.le_of_ble_eq_true rfl) dX4_readScribe_35) hP hD hS hA [2, 3, 4] [0, 1] [0, 1, 2, 3, 4] ⟨rfl, rfl, rfl, rfl, rfl, rfl, rfl⟩ (fun H locs hP hD hS => ?_)
      refine lv_aload_n hx hb dX4_readScribe_38 rfl (lv_at hl 1 rfl) ?_
      obtain ⟨⟨q6_0, q6_1, q6_2, q6_3, q6_4⟩, hq6, hB⟩ := bnd hB
      refine kw_i (WC := wd_X4_readStop cs a_t a_t_text v_t_length q3_1 q3_2 q3_3 q3_4 v_t_bookTold v_t_needTold g_t_text) (W1 := wd_X4_readStop cs a_t a_t_text v_t_length q6_1 q6_2 q6_3 q6_4 v_t_bookTold v_t_needTold g_t_text) (W2 := wd_X4_readScribe cs a_t a_t_text a_p1 a_p1_turn a_p1_bent v_t_length q6_1 q6_2 q6_3 q6_4 v_t_bookTold v_t_needTold g_t_text v_p1_opinions v_p1_lines v_p1_books v_p1_told q5_0 v_p1_need q5_1 q5_2) (r0 := q6_0) (rw_V (As := []) (rest := []) ⟨hx, hb, hml, hown, hg⟩ (k_X4_readStop l G cs a_t a_t_text v_t_length q3_1 q3_2 q3_3 q3_4 v_t_bookTold v_t_needTold g_t_text H.size (q6_0, q6_1, q6_2, q6_3, q6_4) hq6) gM_X4_69 mI_X4_readStop (rmk rfl) hP hD hKT hN 0 rfl rfl [0, 1] rfl rfl rfl hl.1 rfl (Nat.le_of_ble_eq_true rfl) dX4_readScribe_39) hP hD hS hA [0, 1] [2, 3, 4] [3, 4, 0, 1, 2] ⟨rfl, rfl, rfl, rfl, rfl, rfl, rfl⟩ (fun H locs hP hD hS => ?_)
      obtain ⟨h_7, hB⟩ := ifG hB
      have hK := leafK hB hK
      have hK : (q6_0, q6_1, q6_2, q6_3, q6_4, q5_0, q5_1, q5_2) = R0 := hK
      subst hK
      exact W.zret (v := q6_0) (ty := .boolean) hx hb hr (nar01 h_7) (fun t ht hW => ⟨⟨_, (), rfl, rfl, by rw [ht]; exact hP, hD⟩, hS.F ht⟩) hS.2.2 dX4_readScribe_42
    · have hB := ifP c_4 hB
      refine lv_iconst (v := 0) hx hb dX4_readScribe_27 (by decide) ?_
      have hK := leafK hB hK
      have hK : ((0 : Int32), q3_1, q3_2, q3_3, q3_4, v_p1_scribes, g_p1_turn, g_p1_bent) = R0 := hK
      subst hK
      exact W.zret (v := (0 : Int32)) (ty := .boolean) hx hb hr rfl (fun t ht hW => ⟨⟨_, (), rfl, rfl, by rw [ht]; exact hP, hD⟩, hS.F ht⟩) hS.2.2 dX4_readScribe_28
  · have hB := ifP c_2 hB
    refine lv_iconst (v := 0) hx hb dX4_readScribe_10 (by decide) ?_
    have hK := leafK hB hK
    have hK : ((0 : Int32), q1_1, q1_2, q1_3, q1_4, v_p1_scribes, g_p1_turn, g_p1_bent) = R0 := hK
    subst hK
    exact W.zret (v := (0 : Int32)) (ty := .boolean) hx hb hr rfl (fun t ht hW => ⟨⟨_, (), rfl, rfl, by rw [ht]; exact hP, hD⟩, hS.F ht⟩) hS.2.2 dX4_readScribe_11
def wd_X4_readNeed (cs : Nat → ClassId) (a_t a_t_text a_p1 a_p1_turn a_p1_bent : Nat) (v_t_length : Int32) (v_t_next : Int32) (v_t_place : Int32) (v_t_sort : Int32) (v_t_value : Int32) (v_t_bookTold : Int32) (v_t_needTold : Int32) (g_t_text : Nat → Int32) (v_p1_opinions : Int32) (v_p1_lines : Int32) (v_p1_books : Int32) (v_p1_told : Int32) (v_p1_scribes : Int32) (v_p1_need : Int32) : va_W := [(a_t, .inr (4, [.ref a_t_text, .int v_t_length, .int v_t_next, .int v_t_place, .int v_t_sort, .int v_t_value, .int v_t_bookTold, .int v_t_needTold])), (a_t_text, .inl (cs 0, 120, .inl g_t_text)), (a_p1, .inr (0, [.int v_p1_opinions, .int v_p1_lines, .int v_p1_books, .int v_p1_told, .int v_p1_scribes, .int v_p1_need, .ref a_p1_turn, .ref a_p1_bent]))]
def rm_X4_readNeed : Room := { frames := 4, cells := 0, slots := 0, locals := 94 }
theorem mI_X4_readNeed : MI yX4_readNeed RX4 cX4_readNeed 2 (some .boolean) 1 := ⟨gI_X4_readNeed, gE_X4_readNeed, gN_X4, gC_X4_readNeed, by decide +kernel⟩
set_option maxHeartbeats 4000000 in
set_option maxRecDepth 100000 in
theorem k_X4_readNeed (l : Launch) (G : va_G) (cs : Nat → ClassId) (a_t a_t_text a_p1 a_p1_turn a_p1_bent : Nat) (v_t_length : Int32) (v_t_next : Int32) (v_t_place : Int32) (v_t_sort : Int32) (v_t_value : Int32) (v_t_bookTold : Int32) (v_t_needTold : Int32) (g_t_text : Nat → Int32) (v_p1_opinions : Int32) (v_p1_lines : Int32) (v_p1_books : Int32) (v_p1_told : Int32) (v_p1_scribes : Int32) (v_p1_need : Int32) (sz : Nat) (R0 : Int32 × Int32 × Int32 × Int32 × Int32 × Int32 × Int32) (hB : f_X4_readNeed v_t_length v_t_next v_t_value g_t_text v_p1_need = some R0) : Met l yX4_readNeed (.code yX4_readNeed cX4_readNeed 2 (some .boolean) :: GW) rm_X4_readNeed (PcW G cs [.ref a_t, .ref a_p1] (wd_X4_readNeed cs a_t a_t_text a_p1 a_p1_turn a_p1_bent v_t_length v_t_next v_t_place v_t_sort v_t_value v_t_bookTold v_t_needTold g_t_text v_p1_opinions v_p1_lines v_p1_books v_p1_told v_p1_scribes v_p1_need) sz) (QcI G (va_A (wd_X4_readNeed cs a_t a_t_text a_p1 a_p1_turn a_p1_bent v_t_length v_t_next v_t_place v_t_sort v_t_value v_t_bookTold v_t_needTold g_t_text v_p1_opinions v_p1_lines v_p1_books v_p1_told v_p1_scribes v_p1_need) sz) (wd_X4_readNeed cs a_t a_t_text a_p1 a_p1_turn a_p1_bent v_t_length R0.2.1 R0.2.2.1 R0.2.2.2.1 R0.2.2.2.2.1 v_t_bookTold R0.2.2.2.2.2.1 g_t_text v_p1_opinions v_p1_lines v_p1_books v_p1_told v_p1_scribes R0.2.2.2.2.2.2) R0.1) 0 0 (va_A (wd_X4_readNeed cs a_t a_t_text a_p1 a_p1_turn a_p1_bent v_t_length v_t_next v_t_place v_t_sort v_t_value v_t_bookTold v_t_needTold g_t_text v_p1_opinions v_p1_lines v_p1_books v_p1_told v_p1_scribes v_p1_need) sz) := by
  refine Met.ofW (cc := cX4_readNeed) (maxL := 2) (ret := (some .boolean)) (by decide) rfl ?_
  intro p e s m args below meth c s₁ B hml hv
  obtain ⟨rfl, hsz, hP, hD0, hK, hN⟩ := hv
  have hx := B.exec
  have hb := B.bytes
  have hr := B.returns
  have hts := atoms_spec (ws := .code yX4_readNeed cX4_readNeed 2 (some .boolean) :: GW) B.pre
  have hg : ∀ w ∈ GW, w.before _ s = true := fun w h => hts w (List.mem_cons_of_mem _ h)
  have hown : s.vm.findClass RX4 = some m.cls := findClass_of_methodNamed B.named
  have hlocks := B.notSynchronized
  subst hsz
  have hD := hD0.self (sz := s.heap.size)
  generalize hAe : va_A (wd_X4_readNeed cs a_t a_t_text a_p1 a_p1_turn a_p1_bent v_t_length v_t_next v_t_place v_t_sort v_t_value v_t_bookTold v_t_needTold g_t_text v_p1_opinions v_p1_lines v_p1_books v_p1_told v_p1_scribes v_p1_need) s.heap.size = A at hD ⊢
  have hA : ∀ q : Nat, s.heap.size ≤ q → A q := fun q h => by rw [← hAe]; exact Or.inr h
  have hS : va_S A s.heap s.heap [] := va_S.rf
  have hl := lv_entry ([.ref a_t, .ref a_p1]) (n := 2) (Nat.le_of_ble_eq_true rfl)
  rw [lg_entry_eq]
  generalize (lg_sl ([.ref a_t, .ref a_p1]) ++ List.replicate (2 - (lg_sl ([.ref a_t, .ref a_p1])).length) Slot.unset).toArray = ls at hl ⊢
  have hl : lv_has ls 2 [(0, .ref a_t), (1, .ref a_p1)] := hl
  obtain ⟨y, hB, hK0⟩ : ∃ y, f_X4_readNeed v_t_length v_t_next v_t_value g_t_text v_p1_need = some y ∧ KEnd R0 y := ⟨R0, hB, rfl⟩
  have hKT := hK
  have hK := hK0
  obtain ⟨H, hHe⟩ : ∃ H, H = s.heap := ⟨_, rfl⟩
  obtain ⟨locs, hLe⟩ : ∃ L : List Loc, L = [] := ⟨_, rfl⟩
  rw [← hHe] at hP
  have hS : va_S A s.heap H locs := by rw [hHe, hLe]; exact hS
  show W p l e rm_X4_readNeed s m ([.ref a_t, .ref a_p1] : List Value).toArray below meth c s.heap [] 0 0 _ _
  suffices hgo : W p l e rm_X4_readNeed s m ([.ref a_t, .ref a_p1] : List Value).toArray below meth c H locs 0 0 (MQ below (QcI G A (wd_X4_readNeed cs a_t a_t_text a_p1 a_p1_turn a_p1_bent v_t_length R0.2.1 R0.2.2.1 R0.2.2.2.1 R0.2.2.2.2.1 v_t_bookTold R0.2.2.2.2.2.1 g_t_text v_p1_opinions v_p1_lines v_p1_books v_p1_told v_p1_scribes R0.2.2.2.2.2.2) R0.1) ([.ref a_t, .ref a_p1] : List Value).toArray s 0 0 A) (F0 m 0 ls []) by rw [hHe, hLe] at hgo; exact hgo
  refine lv_aload_n hx hb dX4_readNeed_0 rfl (lv_at hl 0 rfl) ?_
  refine lv_iconst (v := 1) hx hb dX4_readNeed_1 (by decide) ?_
  refine va_put (D := G) (ci := 4) (v := .int (1 : Int32)) (ty := .boolean) (C := RX4) (T := TX4) (N := 8) hx hb hg inX4 tyX4 tyX4_ok nmX4 hown hKT hP hD hS 0 rfl rfl 7 (by decide) (hg _ gF_X4_31) (fun _ h9 => h9) rfl (by decide +kernel) rfl rfl (Nat.le_of_ble_eq_true rfl) dX4_readNeed_2 (fun H locs hP hD hS => ?_)
  have hP : va_P G vwCl (wd_X4_readNeed cs a_t a_t_text a_p1 a_p1_turn a_p1_bent v_t_length v_t_next v_t_place v_t_sort v_t_value v_t_bookTold (1 : Int32) g_t_text v_p1_opinions v_p1_lines v_p1_books v_p1_told v_p1_scribes v_p1_need) H := hP
  have hD : va_D A (wd_X4_readNeed cs a_t a_t_text a_p1 a_p1_turn a_p1_bent v_t_length v_t_next v_t_place v_t_sort v_t_value v_t_bookTold (1 : Int32) g_t_text v_p1_opinions v_p1_lines v_p1_books v_p1_told v_p1_scribes v_p1_need) := hD
  refine lv_aload_n hx hb dX4_readNeed_5 rfl (lv_at hl 0 rfl) ?_
  refine lv_iconst (v := 1) hx hb dX4_readNeed_6 (by decide) ?_
  refine lv_iconst (v := 4) hx hb dX4_readNeed_7 (by decide) ?_
  obtain ⟨⟨q1_0, q1_1, q1_2, q1_3, q1_4⟩, hq1, hB⟩ := bnd hB
  refine kw_i (WC := wd_X4_readNumber cs a_t a_t_text v_t_length v_t_next v_t_place v_t_sort v_t_value v_t_bookTold (1 : Int32) g_t_text) (W1 := wd_X4_readNumber cs a_t a_t_text v_t_length q1_1 q1_2 q1_3 q1_4 v_t_bookTold (1 : Int32) g_t_text) (W2 := wd_X4_readNeed cs a_t a_t_text a_p1 a_p1_turn a_p1_bent v_t_length q1_1 q1_2 q1_3 q1_4 v_t_bookTold (1 : Int32) g_t_text v_p1_opinions v_p1_lines v_p1_books v_p1_told v_p1_scribes v_p1_need) (r0 := q1_0) (rw_V (As := [.int (1 : Int32), .int (4 : Int32)]) (rest := []) ⟨hx, hb, hml, hown, hg⟩ (k_X4_readNumber l G cs a_t a_t_text v_t_length v_t_next v_t_place v_t_sort v_t_value v_t_bookTold (1 : Int32) g_t_text (1 : Int32) (4 : Int32) H.size (q1_0, q1_1, q1_2, q1_3, q1_4) hq1) gM_X4_62 mI_X4_readNumber (rmk rfl) hP hD hKT hN 0 rfl rfl [0, 1] rfl rfl rfl hl.1 rfl (Nat.le_of_ble_eq_true rfl) dX4_readNeed_8) hP hD hS hA [0, 1] [2] [1, 2, 0] ⟨rfl, rfl, rfl, rfl, rfl, rfl, rfl⟩ (fun H locs hP hD hS => ?_)
  refine lv_if_ne (tgt := 16) hx hb dX4_readNeed_11 (by decide) (fun c_2 => ?_) (fun c_2 => ?_)
  · have hB := ifN c_2 hB
    refine lv_aload_n hx hb dX4_readNeed_16 rfl (lv_at hl 1 rfl) ?_
    refine lv_aload_n hx hb dX4_readNeed_17 rfl (lv_at hl 0 rfl) ?_
    refine va_get (D := G) (ci := 4) (v := .int q1_4) (C := RX4) (T := TX4) (N := 8) hx hb hg inX4 hown hKT hP 0 rfl rfl 5 (by decide) (hg _ gF_X4_40) (fun _ h9 => h9) rfl dX4_readNeed_18 ?_
    refine va_putN (D := G) (ci := 0) (v := .int q1_4) (ty := .int) (C := RX0) (T := TX0) (N := 8) hx hb hg inX0 tyX0 tyX0_ok nmX0 hown hKT hP hD hS 2 rfl rfl 5 (by decide) (va_Nw.use rfl (hN _ nF_X4_85_l rfl)) (fun _ h9 => h9) rfl (by decide +kernel) rfl rfl (Nat.le_of_ble_eq_true rfl) dX4_readNeed_21 (fun H locs hP hD hS => ?_)
    have hP : va_P G vwCl (wd_X4_readNeed cs a_t a_t_text a_p1 a_p1_turn a_p1_bent v_t_length q1_1 q1_2 q1_3 q1_4 v_t_bookTold (1 : Int32) g_t_text v_p1_opinions v_p1_lines v_p1_books v_p1_told v_p1_scribes q1_4) H := hP
    have hD : va_D A (wd_X4_readNeed cs a_t a_t_text a_p1 a_p1_turn a_p1_bent v_t_length q1_1 q1_2 q1_3 q1_4 v_t_bookTold (1 : Int32) g_t_text v_p1_opinions v_p1_lines v_p1_books v_p1_told v_p1_scribes q1_4) := hD
    refine lv_aload_n hx hb dX4_readNeed_24 rfl (lv_at hl 0 rfl) ?_
    obtain ⟨⟨q3_0, q3_1, q3_2, q3_3, q3_4⟩, hq3, hB⟩ := bnd hB
    refine kw_i (WC := wd_X4_readStop cs a_t a_t_text v_t_length q1_1 q1_2 q1_3 q1_4 v_t_bookTold (1 : Int32) g_t_text) (W1 := wd_X4_readStop cs a_t a_t_text v_t_length q3_1 q3_2 q3_3 q3_4 v_t_bookTold (1 : Int32) g_t_text) (W2 := wd_X4_readNeed cs a_t a_t_text a_p1 a_p1_turn a_p1_bent v_t_length q3_1 q3_2 q3_3 q3_4 v_t_bookTold (1 : Int32) g_t_text v_p1_opinions v_p1_lines v_p1_books v_p1_told v_p1_scribes q1_4) (r0 := q3_0) (rw_V (As := []) (rest := []) ⟨hx, hb, hml, hown, hg⟩ (k_X4_readStop l G cs a_t a_t_text v_t_length q1_1 q1_2 q1_3 q1_4 v_t_bookTold (1 : Int32) g_t_text H.size (q3_0, q3_1, q3_2, q3_3, q3_4) hq3) gM_X4_69 mI_X4_readStop (rmk rfl) hP hD hKT hN 0 rfl rfl [0, 1] rfl rfl rfl hl.1 rfl (Nat.le_of_ble_eq_true rfl) dX4_readNeed_25) hP hD hS hA [0, 1] [2] [1, 2, 0] ⟨rfl, rfl, rfl, rfl, rfl, rfl, rfl⟩ (fun H locs hP hD hS => ?_)
    obtain ⟨h_4, hB⟩ := ifG hB
    have hK := leafK hB hK
    have hK : (q3_0, q3_1, q3_2, q3_3, q3_4, (1 : Int32), q1_4) = R0 := hK
    subst hK
    exact W.zret (v := q3_0) (ty := .boolean) hx hb hr (nar01 h_4) (fun t ht hW => ⟨⟨_, (), rfl, rfl, by rw [ht]; exact hP, hD⟩, hS.F ht⟩) hS.2.2 dX4_readNeed_28
  · have hB := ifP c_2 hB
    refine lv_iconst (v := 0) hx hb dX4_readNeed_14 (by decide) ?_
    have hK := leafK hB hK
    have hK : ((0 : Int32), q1_1, q1_2, q1_3, q1_4, (1 : Int32), v_p1_need) = R0 := hK
    subst hK
    exact W.zret (v := (0 : Int32)) (ty := .boolean) hx hb hr rfl (fun t ht hW => ⟨⟨_, (), rfl, rfl, by rw [ht]; exact hP, hD⟩, hS.F ht⟩) hS.2.2 dX4_readNeed_15
def wd_X4_read (cs : Nat → ClassId) (a_t a_t_text a_p1 a_p1_turn a_p1_bent : Nat) (v_t_length : Int32) (v_t_next : Int32) (v_t_place : Int32) (v_t_sort : Int32) (v_t_value : Int32) (v_t_bookTold : Int32) (v_t_needTold : Int32) (g_t_text : Nat → Int32) (v_p1_opinions : Int32) (v_p1_lines : Int32) (v_p1_books : Int32) (v_p1_told : Int32) (v_p1_scribes : Int32) (v_p1_need : Int32) (g_p1_turn : Nat → Int32) (g_p1_bent : Nat → Int32) : va_W := [(a_t, .inr (4, [.ref a_t_text, .int v_t_length, .int v_t_next, .int v_t_place, .int v_t_sort, .int v_t_value, .int v_t_bookTold, .int v_t_needTold])), (a_t_text, .inl (cs 0, 120, .inl g_t_text)), (a_p1, .inr (0, [.int v_p1_opinions, .int v_p1_lines, .int v_p1_books, .int v_p1_told, .int v_p1_scribes, .int v_p1_need, .ref a_p1_turn, .ref a_p1_bent])), (a_p1_turn, .inl (cs 0, 6, .inl g_p1_turn)), (a_p1_bent, .inl (cs 0, 6, .inl g_p1_bent))]
def rm_X4_read : Room := { frames := 5, cells := 0, slots := 0, locals := 116 }
theorem mI_X4_read : MI yX4_read RX4 cX4_read 4 (some .int) 1 := ⟨gI_X4_read, gE_X4_read, gN_X4, gC_X4_read, by decide +kernel⟩
set_option maxHeartbeats 4000000 in
set_option maxRecDepth 100000 in
theorem k_X4_read (l : Launch) (G : va_G) (cs : Nat → ClassId) (a_t a_t_text a_p1 a_p1_turn a_p1_bent : Nat) (v_t_length : Int32) (v_t_next : Int32) (v_t_place : Int32) (v_t_sort : Int32) (v_t_value : Int32) (v_t_bookTold : Int32) (v_t_needTold : Int32) (g_t_text : Nat → Int32) (v_p1_opinions : Int32) (v_p1_lines : Int32) (v_p1_books : Int32) (v_p1_told : Int32) (v_p1_scribes : Int32) (v_p1_need : Int32) (g_p1_turn : Nat → Int32) (g_p1_bent : Nat → Int32) (sz : Nat) (R0 : Int32 × Int32 × Int32 × Int32 × Int32 × Int32 × Int32 × Int32 × Int32 × Int32 × Int32 × Int32 × Int32 × (Nat → Int32) × (Nat → Int32)) (hB : f_X4_read v_t_length v_t_place v_t_sort v_t_value g_t_text g_p1_turn g_p1_bent = some R0) : Met l yX4_read (.code yX4_read cX4_read 4 (some .int) :: GW) rm_X4_read (PcW G cs [.ref a_t, .ref a_p1] (wd_X4_read cs a_t a_t_text a_p1 a_p1_turn a_p1_bent v_t_length v_t_next v_t_place v_t_sort v_t_value v_t_bookTold v_t_needTold g_t_text v_p1_opinions v_p1_lines v_p1_books v_p1_told v_p1_scribes v_p1_need g_p1_turn g_p1_bent) sz) (QcI G (va_A (wd_X4_read cs a_t a_t_text a_p1 a_p1_turn a_p1_bent v_t_length v_t_next v_t_place v_t_sort v_t_value v_t_bookTold v_t_needTold g_t_text v_p1_opinions v_p1_lines v_p1_books v_p1_told v_p1_scribes v_p1_need g_p1_turn g_p1_bent) sz) (wd_X4_read cs a_t a_t_text a_p1 a_p1_turn a_p1_bent v_t_length R0.2.1 R0.2.2.1 R0.2.2.2.1 R0.2.2.2.2.1 R0.2.2.2.2.2.1 R0.2.2.2.2.2.2.1 g_t_text R0.2.2.2.2.2.2.2.1 R0.2.2.2.2.2.2.2.2.1 R0.2.2.2.2.2.2.2.2.2.1 R0.2.2.2.2.2.2.2.2.2.2.1 R0.2.2.2.2.2.2.2.2.2.2.2.1 R0.2.2.2.2.2.2.2.2.2.2.2.2.1 R0.2.2.2.2.2.2.2.2.2.2.2.2.2.1 R0.2.2.2.2.2.2.2.2.2.2.2.2.2.2) R0.1) 0 0 (va_A (wd_X4_read cs a_t a_t_text a_p1 a_p1_turn a_p1_bent v_t_length v_t_next v_t_place v_t_sort v_t_value v_t_bookTold v_t_needTold g_t_text v_p1_opinions v_p1_lines v_p1_books v_p1_told v_p1_scribes v_p1_need g_p1_turn g_p1_bent) sz) := by
  refine Met.ofW (cc := cX4_read) (maxL := 4) (ret := (some .int)) (by decide) rfl ?_
  intro p e s m args below meth c s₁ B hml hv
  obtain ⟨rfl, hsz, hP, hD0, hK, hN⟩ := hv
  have hx := B.exec
  have hb := B.bytes
  have hr := B.returns
  have hts := atoms_spec (ws := .code yX4_read cX4_read 4 (some .int) :: GW) B.pre
  have hg : ∀ w ∈ GW, w.before _ s = true := fun w h => hts w (List.mem_cons_of_mem _ h)
  have hown : s.vm.findClass RX4 = some m.cls := findClass_of_methodNamed B.named
  have hlocks := B.notSynchronized
  subst hsz
  have hD := hD0.self (sz := s.heap.size)
  generalize hAe : va_A (wd_X4_read cs a_t a_t_text a_p1 a_p1_turn a_p1_bent v_t_length v_t_next v_t_place v_t_sort v_t_value v_t_bookTold v_t_needTold g_t_text v_p1_opinions v_p1_lines v_p1_books v_p1_told v_p1_scribes v_p1_need g_p1_turn g_p1_bent) s.heap.size = A at hD ⊢
  have hA : ∀ q : Nat, s.heap.size ≤ q → A q := fun q h => by rw [← hAe]; exact Or.inr h
  have hS : va_S A s.heap s.heap [] := va_S.rf
  have hl := lv_entry ([.ref a_t, .ref a_p1]) (n := 4) (Nat.le_of_ble_eq_true rfl)
  rw [lg_entry_eq]
  generalize (lg_sl ([.ref a_t, .ref a_p1]) ++ List.replicate (4 - (lg_sl ([.ref a_t, .ref a_p1])).length) Slot.unset).toArray = ls at hl ⊢
  have hl : lv_has ls 4 [(0, .ref a_t), (1, .ref a_p1)] := hl
  obtain ⟨y, hB, hK0⟩ : ∃ y, f_X4_read v_t_length v_t_place v_t_sort v_t_value g_t_text g_p1_turn g_p1_bent = some y ∧ KEnd R0 y := ⟨R0, hB, rfl⟩
  have hKT := hK
  have hK := hK0
  obtain ⟨H, hHe⟩ : ∃ H, H = s.heap := ⟨_, rfl⟩
  obtain ⟨locs, hLe⟩ : ∃ L : List Loc, L = [] := ⟨_, rfl⟩
  rw [← hHe] at hP
  have hS : va_S A s.heap H locs := by rw [hHe, hLe]; exact hS
  show W p l e rm_X4_read s m ([.ref a_t, .ref a_p1] : List Value).toArray below meth c s.heap [] 0 0 _ _
  suffices hgo : W p l e rm_X4_read s m ([.ref a_t, .ref a_p1] : List Value).toArray below meth c H locs 0 0 (MQ below (QcI G A (wd_X4_read cs a_t a_t_text a_p1 a_p1_turn a_p1_bent v_t_length R0.2.1 R0.2.2.1 R0.2.2.2.1 R0.2.2.2.2.1 R0.2.2.2.2.2.1 R0.2.2.2.2.2.2.1 g_t_text R0.2.2.2.2.2.2.2.1 R0.2.2.2.2.2.2.2.2.1 R0.2.2.2.2.2.2.2.2.2.1 R0.2.2.2.2.2.2.2.2.2.2.1 R0.2.2.2.2.2.2.2.2.2.2.2.1 R0.2.2.2.2.2.2.2.2.2.2.2.2.1 R0.2.2.2.2.2.2.2.2.2.2.2.2.2.1 R0.2.2.2.2.2.2.2.2.2.2.2.2.2.2) R0.1) ([.ref a_t, .ref a_p1] : List Value).toArray s 0 0 A) (F0 m 0 ls []) by rw [hHe, hLe] at hgo; exact hgo
  refine lv_aload_n hx hb dX4_read_0 rfl (lv_at hl 1 rfl) ?_
  obtain ⟨⟨q1_0, q1_1, q1_2, q1_3, q1_4, q1_5⟩, hq1, hB⟩ := bnd hB
  refine kw_v (WC := wd_X0_begin cs a_p1 a_p1_turn a_p1_bent v_p1_opinions v_p1_lines v_p1_books v_p1_told v_p1_scribes v_p1_need) (W1 := wd_X0_begin cs a_p1 a_p1_turn a_p1_bent q1_0 q1_1 q1_2 q1_3 q1_4 q1_5) (W2 := wd_X4_read cs a_t a_t_text a_p1 a_p1_turn a_p1_bent v_t_length v_t_next v_t_place v_t_sort v_t_value v_t_bookTold v_t_needTold g_t_text q1_0 q1_1 q1_2 q1_3 q1_4 q1_5 g_p1_turn g_p1_bent) (rw_VN (As := []) (rest := []) ⟨hx, hb, hml, hown, hg⟩ (k_X0_begin l G cs a_p1 a_p1_turn a_p1_bent v_p1_opinions v_p1_lines v_p1_books v_p1_told v_p1_scribes v_p1_need H.size (q1_0, q1_1, q1_2, q1_3, q1_4, q1_5) hq1) nM_X4_19_l mI_X0_begin (rmk rfl) hP hD hKT hN 2 rfl rfl [2] rfl rfl rfl hl.1 rfl (Nat.le_of_ble_eq_true rfl) dX4_read_1) hP hD hS hA [2] [0, 1, 3, 4] [0, 1, 4, 2, 3] ⟨rfl, rfl, rfl, rfl, rfl, rfl, rfl⟩ (fun H locs hP hD hS => ?_)
  refine lv_aload_n hx hb dX4_read_4 rfl (lv_at hl 0 rfl) ?_
  refine lv_iconst (v := 0) hx hb dX4_read_5 (by decide) ?_
  refine va_put (D := G) (ci := 4) (v := .int (0 : Int32)) (ty := .int) (C := RX4) (T := TX4) (N := 8) hx hb hg inX4 tyX4 tyX4_ok nmX4 hown hKT hP hD hS 0 rfl rfl 2 (by decide) (hg _ gF_X4_24) (fun _ h9 => h9) rfl (by decide +kernel) rfl rfl (Nat.le_of_ble_eq_true rfl) dX4_read_6 (fun H locs hP hD hS => ?_)
  have hP : va_P G vwCl (wd_X4_read cs a_t a_t_text a_p1 a_p1_turn a_p1_bent v_t_length (0 : Int32) v_t_place v_t_sort v_t_value v_t_bookTold v_t_needTold g_t_text q1_0 q1_1 q1_2 q1_3 q1_4 q1_5 g_p1_turn g_p1_bent) H := hP
  have hD : va_D A (wd_X4_read cs a_t a_t_text a_p1 a_p1_turn a_p1_bent v_t_length (0 : Int32) v_t_place v_t_sort v_t_value v_t_bookTold v_t_needTold g_t_text q1_0 q1_1 q1_2 q1_3 q1_4 q1_5 g_p1_turn g_p1_bent) := hD
  refine lv_aload_n hx hb dX4_read_9 rfl (lv_at hl 0 rfl) ?_
  refine lv_iconst (v := 0) hx hb dX4_read_10 (by decide) ?_
  refine va_put (D := G) (ci := 4) (v := .int (0 : Int32)) (ty := .boolean) (C := RX4) (T := TX4) (N := 8) hx hb hg inX4 tyX4 tyX4_ok nmX4 hown hKT hP hD hS 0 rfl rfl 6 (by decide) (hg _ gF_X4_27) (fun _ h9 => h9) rfl (by decide +kernel) rfl rfl (Nat.le_of_ble_eq_true rfl) dX4_read_11 (fun H locs hP hD hS => ?_)
  have hP : va_P G vwCl (wd_X4_read cs a_t a_t_text a_p1 a_p1_turn a_p1_bent v_t_length (0 : Int32) v_t_place v_t_sort v_t_value (0 : Int32) v_t_needTold g_t_text q1_0 q1_1 q1_2 q1_3 q1_4 q1_5 g_p1_turn g_p1_bent) H := hP
  have hD : va_D A (wd_X4_read cs a_t a_t_text a_p1 a_p1_turn a_p1_bent v_t_length (0 : Int32) v_t_place v_t_sort v_t_value (0 : Int32) v_t_needTold g_t_text q1_0 q1_1 q1_2 q1_3 q1_4 q1_5 g_p1_turn g_p1_bent) := hD
  refine lv_aload_n hx hb dX4_read_14 rfl (lv_at hl 0 rfl) ?_
  refine lv_iconst (v := 0) hx hb dX4_read_15 (by decide) ?_
  refine va_put (D := G) (ci := 4) (v := .int (0 : Int32)) (ty := .boolean) (C := RX4) (T := TX4) (N := 8) hx hb hg inX4 tyX4 tyX4_ok nmX4 hown hKT hP hD hS 0 rfl rfl 7 (by decide) (hg _ gF_X4_31) (fun _ h9 => h9) rfl (by decide +kernel) rfl rfl (Nat.le_of_ble_eq_true rfl) dX4_read_16 (fun H locs hP hD hS => ?_)
  have hP : va_P G vwCl (wd_X4_read cs a_t a_t_text a_p1 a_p1_turn a_p1_bent v_t_length (0 : Int32) v_t_place v_t_sort v_t_value (0 : Int32) (0 : Int32) g_t_text q1_0 q1_1 q1_2 q1_3 q1_4 q1_5 g_p1_turn g_p1_bent) H := hP
  have hD : va_D A (wd_X4_read cs a_t a_t_text a_p1 a_p1_turn a_p1_bent v_t_length (0 : Int32) v_t_place v_t_sort v_t_value (0 : Int32) (0 : Int32) g_t_text q1_0 q1_1 q1_2 q1_3 q1_4 q1_5 g_p1_turn g_p1_bent) := hD
  refine lv_iconst (v := 0) hx hb dX4_read_19 (by decide) ?_
  refine lv_istore_n (lv' := [(2, .int (0 : Int32)), (0, .ref a_t), (1, .ref a_p1)]) hx hb dX4_read_20 rfl hl (by decide) rfl (fun ls hl => ?_)
  refine lp_ind (Wh := fun (z2 : Int32 × Int32 × Int32 × Int32 × Int32 × Int32 × Int32 × Int32 × Int32 × Int32 × Int32 × Int32 × Int32 × (Nat → Int32) × (Nat → Int32)) => ∀ (H : Heap) (locs : List Loc), va_P G vwCl (wd_X4_read cs a_t a_t_text a_p1 a_p1_turn a_p1_bent v_t_length z2.2.1 z2.2.2.1 z2.2.2.2.1 z2.2.2.2.2.1 z2.2.2.2.2.2.1 z2.2.2.2.2.2.2.1 g_t_text z2.2.2.2.2.2.2.2.1 z2.2.2.2.2.2.2.2.2.1 z2.2.2.2.2.2.2.2.2.2.1 z2.2.2.2.2.2.2.2.2.2.2.1 z2.2.2.2.2.2.2.2.2.2.2.2.1 z2.2.2.2.2.2.2.2.2.2.2.2.2.1 z2.2.2.2.2.2.2.2.2.2.2.2.2.2.1 z2.2.2.2.2.2.2.2.2.2.2.2.2.2.2) H → va_D A (wd_X4_read cs a_t a_t_text a_p1 a_p1_turn a_p1_bent v_t_length z2.2.1 z2.2.2.1 z2.2.2.2.1 z2.2.2.2.2.1 z2.2.2.2.2.2.1 z2.2.2.2.2.2.2.1 g_t_text z2.2.2.2.2.2.2.2.1 z2.2.2.2.2.2.2.2.2.1 z2.2.2.2.2.2.2.2.2.2.1 z2.2.2.2.2.2.2.2.2.2.2.1 z2.2.2.2.2.2.2.2.2.2.2.2.1 z2.2.2.2.2.2.2.2.2.2.2.2.2.1 z2.2.2.2.2.2.2.2.2.2.2.2.2.2.1 z2.2.2.2.2.2.2.2.2.2.2.2.2.2.2) → va_S A s.heap H locs → ∀ (ls : Array Slot), lv_has ls 4 [(0, .ref a_t), (1, .ref a_p1), (2, .int z2.1)] → W p l e rm_X4_read s m ([.ref a_t, .ref a_p1] : List Value).toArray below meth c H locs 0 0 (MQ below (QcI G A (wd_X4_read cs a_t a_t_text a_p1 a_p1_turn a_p1_bent v_t_length R0.2.1 R0.2.2.1 R0.2.2.2.1 R0.2.2.2.2.1 R0.2.2.2.2.2.1 R0.2.2.2.2.2.2.1 g_t_text R0.2.2.2.2.2.2.2.1 R0.2.2.2.2.2.2.2.2.1 R0.2.2.2.2.2.2.2.2.2.1 R0.2.2.2.2.2.2.2.2.2.2.1 R0.2.2.2.2.2.2.2.2.2.2.2.1 R0.2.2.2.2.2.2.2.2.2.2.2.2.1 R0.2.2.2.2.2.2.2.2.2.2.2.2.2.1 R0.2.2.2.2.2.2.2.2.2.2.2.2.2.2) R0.1) ([.ref a_t, .ref a_p1] : List Value).toArray s 0 0 A) (F0 m 21 ls [])) ?_ FU _ _ hB hK H locs hP hD hS ls (lv_sub hl [1, 2, 0] rfl)
  rintro ⟨z2_0, z2_1, z2_2, z2_3, z2_4, z2_5, z2_6, z2_7, z2_8, z2_9, z2_10, z2_11, z2_12, z2_13, z2_14⟩ y hB hK H locs hP hD hS ls hl
  have hl : lv_has ls 4 [(0, .ref a_t), (1, .ref a_p1), (2, .int z2_0)] := hl
  have hP : va_P G vwCl (wd_X4_read cs a_t a_t_text a_p1 a_p1_turn a_p1_bent v_t_length z2_1 z2_2 z2_3 z2_4 z2_5 z2_6 g_t_text z2_7 z2_8 z2_9 z2_10 z2_11 z2_12 z2_13 z2_14) H := hP
  have hD : va_D A (wd_X4_read cs a_t a_t_text a_p1 a_p1_turn a_p1_bent v_t_length z2_1 z2_2 z2_3 z2_4 z2_5 z2_6 g_t_text z2_7 z2_8 z2_9 z2_10 z2_11 z2_12 z2_13 z2_14) := hD
  refine lv_iload_n hx hb dX4_read_21 rfl (lv_at hl 2 rfl) ?_
  refine lv_bipush (v := 120) hx hb dX4_read_22 (by decide) ?_
  refine lv_icmp_gt (tgt := 210) hx hb dX4_read_24 (by decide) (fun c_3 => ?_) (fun c_3 => ?_)
  · have hB := ifP c_3 hB
    refine lv_bipush (v := -10) hx hb dX4_read_210 (by decide) ?_
    refine lv_aload_n hx hb dX4_read_212 rfl (lv_at hl 0 rfl) ?_
    refine va_get (D := G) (ci := 4) (v := .int z2_2) (C := RX4) (T := TX4) (N := 8) hx hb hg inX4 hown hKT hP 0 rfl rfl 3 (by decide) (hg _ gF_X4_59) (fun _ h9 => h9) rfl dX4_read_213 ?_
    refine lv_isub hx hb dX4_read_216 ?_
    have hK := leafK hB hK
    have hK := elimR hK
    have hK : ((-10 : Int32) - z2_2, z2_1, z2_2, z2_3, z2_4, z2_5, z2_6, z2_7, z2_8, z2_9, z2_10, z2_11, z2_12, z2_13, z2_14) = R0 := hK
    subst hK
    exact W.iret (v := (-10 : Int32) - z2_2) hx hb hr (fun t ht hW => ⟨⟨_, (), rfl, rfl, by rw [ht]; exact hP, hD⟩, hS.F ht⟩) hS.2.2 dX4_read_217
  · have hB := ifN c_3 hB
    refine lv_aload_n hx hb dX4_read_27 rfl (lv_at hl 0 rfl) ?_
    obtain ⟨⟨q4_0, q4_1, q4_2, q4_3⟩, hq4, hB⟩ := bnd hB
    refine kw_v (WC := wd_X4_readToken cs a_t a_t_text v_t_length z2_1 z2_2 z2_3 z2_4 z2_5 z2_6 g_t_text) (W1 := wd_X4_readToken cs a_t a_t_text v_t_length q4_0 q4_1 q4_2 q4_3 z2_5 z2_6 g_t_text) (W2 := wd_X4_read cs a_t a_t_text a_p1 a_p1_turn a_p1_bent v_t_length q4_0 q4_1 q4_2 q4_3 z2_5 z2_6 g_t_text z2_7 z2_8 z2_9 z2_10 z2_11 z2_12 z2_13 z2_14) (rw_V (As := []) (rest := []) ⟨hx, hb, hml, hown, hg⟩ (k_X4_readToken l G cs a_t a_t_text v_t_length z2_1 z2_2 z2_3 z2_4 z2_5 z2_6 g_t_text H.size (q4_0, q4_1, q4_2, q4_3) hq4) gM_X4_34 mI_X4_readToken (rmk rfl) hP hD hKT hN 0 rfl rfl [0, 1] rfl rfl rfl hl.1 rfl (Nat.le_of_ble_eq_true rfl) dX4_read_28) hP hD hS hA [0, 1] [2, 3, 4] [3, 4, 0, 1, 2] ⟨rfl, rfl, rfl, rfl, rfl, rfl, rfl⟩ (fun H locs hP hD hS => ?_)
    refine lv_aload_n hx hb dX4_read_31 rfl (lv_at hl 0 rfl) ?_
    refine va_get (D := G) (ci := 4) (v := .int q4_2) (C := RX4) (T := TX4) (N := 8) hx hb hg inX4 hown hKT hP 0 rfl rfl 4 (by decide) (hg _ gF_X4_37) (fun _ h9 => h9) rfl dX4_read_32 ?_
    refine lv_if_ne (tgt := 40) hx hb dX4_read_35 (by decide) (fun c_5 => ?_) (fun c_5 => ?_)
    · have hB := ifN c_5 hB
      refine lv_aload_n hx hb dX4_read_40 rfl (lv_at hl 0 rfl) ?_
      refine va_get (D := G) (ci := 4) (v := .int q4_2) (C := RX4) (T := TX4) (N := 8) hx hb hg inX4 hown hKT hP 0 rfl rfl 4 (by decide) (hg _ gF_X4_37) (fun _ h9 => h9) rfl dX4_read_41 ?_
      refine lv_iconst (v := 1) hx hb dX4_read_44 (by decide) ?_
      refine lv_icmp_ne (tgt := 55) hx hb dX4_read_45 (by decide) (fun c_6 => ?_) (fun c_6 => ?_)
      · have hB := ifN c_6 hB
        refine lv_iconst (v := 0) hx hb dX4_read_55 (by decide) ?_
        refine lv_lookup (off := 139) (tgt := 195) hx hb dX4_read_56 (by decide) (by decide) (by decide) ?_
        refine lv_iconst (v := 0) hx hb dX4_read_195 (by decide) ?_
        refine lv_istore_n (lv' := [(3, .int (0 : Int32)), (0, .ref a_t), (1, .ref a_p1), (2, .int z2_0)]) hx hb dX4_read_196 rfl hl (by decide) rfl (fun ls hl => ?_)
        refine lv_iload_n hx hb dX4_read_197 rfl (lv_at hl 0 rfl) ?_
        refine lv_if_ne (tgt := 204) hx hb dX4_read_198 (by decide) (fun c_7 => ?_) (fun c_7 => ?_)
        · exact absurd c_7 (by decide)
        · refine lv_goto (tgt := 210) hx hb dX4_read_201 (by decide) ?_
          refine lv_bipush (v := -10) hx hb dX4_read_210 (by decide) ?_
          refine lv_aload_n hx hb dX4_read_212 rfl (lv_at hl 1 rfl) ?_
          refine va_get (D := G) (ci := 4) (v := .int q4_1) (C := RX4) (T := TX4) (N := 8) hx hb hg inX4 hown hKT hP 0 rfl rfl 3 (by decide) (hg _ gF_X4_59) (fun _ h9 => h9) rfl dX4_read_213 ?_
          refine lv_isub hx hb dX4_read_216 ?_
          have hK := leafK hB hK
          have hK := elimR hK
          have hK : ((-10 : Int32) - q4_1, q4_0, q4_1, q4_2, q4_3, z2_5, z2_6, z2_7, z2_8, z2_9, z2_10, z2_11, z2_12, z2_13, z2_14) = R0 := hK
          subst hK
          exact W.iret (v := (-10 : Int32) - q4_1) hx hb hr (fun t ht hW => ⟨⟨_, (), rfl, rfl, by rw [ht]; exact hP, hD⟩, hS.F ht⟩) hS.2.2 dX4_read_217
      · have hB := ifP c_6 hB
        refine lv_aload_n hx hb dX4_read_48 rfl (lv_at hl 0 rfl) ?_
        refine va_get (D := G) (ci := 4) (v := .int q4_3) (C := RX4) (T := TX4) (N := 8) hx hb hg inX4 hown hKT hP 0 rfl rfl 5 (by decide) (hg _ gF_X4_40) (fun _ h9 => h9) rfl dX4_read_49 ?_
        refine lv_goto (tgt := 56) hx hb dX4_read_52 (by decide) ?_
        by_cases c_33_0 : q4_3 = 98
        · have hB := ifP c_33_0 hB
          refine lv_lookup (off := 65) (tgt := 121) hx hb dX4_read_56 (by decide) (by rw [c_33_0]; decide) (by decide) ?_
          refine lv_aload_n hx hb dX4_read_121 rfl (lv_at hl 0 rfl) ?_
          refine va_get (D := G) (ci := 4) (v := .int z2_5) (C := RX4) (T := TX4) (N := 8) hx hb hg inX4 hown hKT hP 0 rfl rfl 6 (by decide) (hg _ gF_X4_27) (fun _ h9 => h9) rfl dX4_read_122 ?_
          refine lv_if_ne (tgt := 140) hx hb dX4_read_125 (by decide) (fun c_8 => ?_) (fun c_8 => ?_)
          · have hB := ifN c_8 hB
            refine lv_iconst (v := 0) hx hb dX4_read_140 (by decide) ?_
            refine lv_istore_n (lv' := [(3, .int (0 : Int32)), (0, .ref a_t), (1, .ref a_p1), (2, .int z2_0)]) hx hb dX4_read_141 rfl hl (by decide) rfl (fun ls hl => ?_)
            refine lv_goto (tgt := 197) hx hb dX4_read_142 (by decide) ?_
            refine lv_iload_n hx hb dX4_read_197 rfl (lv_at hl 0 rfl) ?_
            refine lv_if_ne (tgt := 204) hx hb dX4_read_198 (by decide) (fun c_9 => ?_) (fun c_9 => ?_)
            · exact absurd c_9 (by decide)
            · refine lv_goto (tgt := 210) hx hb dX4_read_201 (by decide) ?_
              refine lv_bipush (v := -10) hx hb dX4_read_210 (by decide) ?_
              refine lv_aload_n hx hb dX4_read_212 rfl (lv_at hl 1 rfl) ?_
              refine va_get (D := G) (ci := 4) (v := .int q4_1) (C := RX4) (T := TX4) (N := 8) hx hb hg inX4 hown hKT hP 0 rfl rfl 3 (by decide) (hg _ gF_X4_59) (fun _ h9 => h9) rfl dX4_read_213 ?_
              refine lv_isub hx hb dX4_read_216 ?_
              have hK := leafK hB hK
              have hK := elimR hK
              have hK : ((-10 : Int32) - q4_1, q4_0, q4_1, q4_2, q4_3, z2_5, z2_6, z2_7, z2_8, z2_9, z2_10, z2_11, z2_12, z2_13, z2_14) = R0 := hK
              subst hK
              exact W.iret (v := (-10 : Int32) - q4_1) hx hb hr (fun t ht hW => ⟨⟨_, (), rfl, rfl, by rw [ht]; exact hP, hD⟩, hS.F ht⟩) hS.2.2 dX4_read_217
          · have hB := ifP c_8 hB
            refine lv_aload_n hx hb dX4_read_128 rfl (lv_at hl 0 rfl) ?_
            refine lv_aload_n hx hb dX4_read_129 rfl (lv_at hl 1 rfl) ?_
            obtain ⟨⟨q10_0, q10_1, q10_2, q10_3, q10_4, q10_5, q10_6, q10_7, q10_8⟩, hq10, hB⟩ := bnd hB
            refine kw_i (WC := wd_X4_readBook cs a_t a_t_text a_p1 a_p1_turn a_p1_bent v_t_length q4_0 q4_1 q4_2 q4_3 z2_5 z2_6 g_t_text z2_7 z2_8 z2_9 z2_10 z2_11 z2_12) (W1 := wd_X4_readBook cs a_t a_t_text a_p1 a_p1_turn a_p1_bent v_t_length q10_1 q10_2 q10_3 q10_4 q10_5 z2_6 g_t_text z2_7 q10_6 q10_7 q10_8 z2_11 z2_12) (W2 := wd_X4_read cs a_t a_t_text a_p1 a_p1_turn a_p1_bent v_t_length q10_1 q10_2 q10_3 q10_4 q10_5 z2_6 g_t_text z2_7 q10_6 q10_7 q10_8 z2_11 z2_12 z2_13 z2_14) (r0 := q10_0) (rw_V (As := [.ref a_p1]) (rest := []) ⟨hx, hb, hml, hown, hg⟩ (k_X4_readBook l G cs a_t a_t_text a_p1 a_p1_turn a_p1_bent v_t_length q4_0 q4_1 q4_2 q4_3 z2_5 z2_6 g_t_text z2_7 z2_8 z2_9 z2_10 z2_11 z2_12 H.size (q10_0, q10_1, q10_2, q10_3, q10_4, q10_5, q10_6, q10_7, q10_8) hq10) gM_X4_47 mI_X4_readBook (rmk rfl) hP hD hKT hN 0 rfl rfl [0, 1, 2] rfl rfl rfl hl.1 rfl (Nat.le_of_ble_eq_true rfl) dX4_read_130) hP hD hS hA [0, 1, 2] [3, 4] [2, 3, 4, 0, 1] ⟨rfl, rfl, rfl, rfl, rfl, rfl, rfl⟩ (fun H locs hP hD hS => ?_)
            refine lv_if_eq (tgt := 140) hx hb dX4_read_133 (by decide) (fun c_11 => ?_) (fun c_11 => ?_)
            · have hB := ifP c_11 hB
              refine lv_iconst (v := 0) hx hb dX4_read_140 (by decide) ?_
              refine lv_istore_n (lv' := [(3, .int (0 : Int32)), (0, .ref a_t), (1, .ref a_p1), (2, .int z2_0)]) hx hb dX4_read_141 rfl hl (by decide) rfl (fun ls hl => ?_)
              refine lv_goto (tgt := 197) hx hb dX4_read_142 (by decide) ?_
              refine lv_iload_n hx hb dX4_read_197 rfl (lv_at hl 0 rfl) ?_
              refine lv_if_ne (tgt := 204) hx hb dX4_read_198 (by decide) (fun c_12 => ?_) (fun c_12 => ?_)
              · exact absurd c_12 (by decide)
              · refine lv_goto (tgt := 210) hx hb dX4_read_201 (by decide) ?_
                refine lv_bipush (v := -10) hx hb dX4_read_210 (by decide) ?_
                refine lv_aload_n hx hb dX4_read_212 rfl (lv_at hl 1 rfl) ?_
                refine va_get (D := G) (ci := 4) (v := .int q10_2) (C := RX4) (T := TX4) (N := 8) hx hb hg inX4 hown hKT hP 0 rfl rfl 3 (by decide) (hg _ gF_X4_59) (fun _ h9 => h9) rfl dX4_read_213 ?_
                refine lv_isub hx hb dX4_read_216 ?_
                have hK := leafK hB hK
                have hK := elimR hK
                have hK : ((-10 : Int32) - q10_2, q10_1, q10_2, q10_3, q10_4, q10_5, z2_6, z2_7, q10_6, q10_7, q10_8, z2_11, z2_12, z2_13, z2_14) = R0 := hK
                subst hK
                exact W.iret (v := (-10 : Int32) - q10_2) hx hb hr (fun t ht hW => ⟨⟨_, (), rfl, rfl, by rw [ht]; exact hP, hD⟩, hS.F ht⟩) hS.2.2 dX4_read_217
            · have hB := ifN c_11 hB
              refine lv_iconst (v := 1) hx hb dX4_read_136 (by decide) ?_
              refine lv_goto (tgt := 141) hx hb dX4_read_137 (by decide) ?_
              refine lv_istore_n (lv' := [(3, .int (1 : Int32)), (0, .ref a_t), (1, .ref a_p1), (2, .int z2_0)]) hx hb dX4_read_141 rfl hl (by decide) rfl (fun ls hl => ?_)
              refine lv_goto (tgt := 197) hx hb dX4_read_142 (by decide) ?_
              refine lv_iload_n hx hb dX4_read_197 rfl (lv_at hl 0 rfl) ?_
              refine lv_if_ne (tgt := 204) hx hb dX4_read_198 (by decide) (fun c_13 => ?_) (fun c_13 => ?_)
              · refine lv_iinc (v := z2_0 + (1 : Int32)) (lv' := [(2, .int (z2_0 + (1 : Int32))), (3, .int (1 : Int32)), (0, .ref a_t), (1, .ref a_p1)]) hx hb dX4_read_204 hl (k := 3) rfl (inc_ok (by decide)) (by decide) rfl (fun ls hl => ?_)
                refine lv_goto (tgt := 21) hx hb dX4_read_207 (by decide) ?_
                have hK := leafK hB hK
                have hK := elimL hK
                exact hK H locs hP hD hS ls (lv_sub hl [2, 3, 0] rfl)
              · exact absurd c_13 (by decide)
        have hB := ifN c_33_0 hB
        by_cases c_33_1 : q4_3 = 110
        · have hB := ifP c_33_1 hB
          refine lv_lookup (off := 115) (tgt := 171) hx hb dX4_read_56 (by decide) (by rw [c_33_1]; decide) (by decide) ?_
          refine lv_aload_n hx hb dX4_read_171 rfl (lv_at hl 0 rfl) ?_
          refine va_get (D := G) (ci := 4) (v := .int z2_6) (C := RX4) (T := TX4) (N := 8) hx hb hg inX4 hown hKT hP 0 rfl rfl 7 (by decide) (hg _ gF_X4_31) (fun _ h9 => h9) rfl dX4_read_172 ?_
          refine lv_if_ne (tgt := 190) hx hb dX4_read_175 (by decide) (fun c_14 => ?_) (fun c_14 => ?_)
          · have hB := ifN c_14 hB
            refine lv_iconst (v := 0) hx hb dX4_read_190 (by decide) ?_
            refine lv_istore_n (lv' := [(3, .int (0 : Int32)), (0, .ref a_t), (1, .ref a_p1), (2, .int z2_0)]) hx hb dX4_read_191 rfl hl (by decide) rfl (fun ls hl => ?_)
            refine lv_goto (tgt := 197) hx hb dX4_read_192 (by decide) ?_
            refine lv_iload_n hx hb dX4_read_197 rfl (lv_at hl 0 rfl) ?_
            refine lv_if_ne (tgt := 204) hx hb dX4_read_198 (by decide) (fun c_15 => ?_) (fun c_15 => ?_)
            · exact absurd c_15 (by decide)
            · refine lv_goto (tgt := 210) hx hb dX4_read_201 (by decide) ?_
              refine lv_bipush (v := -10) hx hb dX4_read_210 (by decide) ?_
              refine lv_aload_n hx hb dX4_read_212 rfl (lv_at hl 1 rfl) ?_
              refine va_get (D := G) (ci := 4) (v := .int q4_1) (C := RX4) (T := TX4) (N := 8) hx hb hg inX4 hown hKT hP 0 rfl rfl 3 (by decide) (hg _ gF_X4_59) (fun _ h9 => h9) rfl dX4_read_213 ?_
              refine lv_isub hx hb dX4_read_216 ?_
              have hK := leafK hB hK
              have hK := elimR hK
              have hK : ((-10 : Int32) - q4_1, q4_0, q4_1, q4_2, q4_3, z2_5, z2_6, z2_7, z2_8, z2_9, z2_10, z2_11, z2_12, z2_13, z2_14) = R0 := hK
              subst hK
              exact W.iret (v := (-10 : Int32) - q4_1) hx hb hr (fun t ht hW => ⟨⟨_, (), rfl, rfl, by rw [ht]; exact hP, hD⟩, hS.F ht⟩) hS.2.2 dX4_read_217
          · have hB := ifP c_14 hB
            refine lv_aload_n hx hb dX4_read_178 rfl (lv_at hl 0 rfl) ?_
            refine lv_aload_n hx hb dX4_read_179 rfl (lv_at hl 1 rfl) ?_
            obtain ⟨⟨q16_0, q16_1, q16_2, q16_3, q16_4, q16_5, q16_6⟩, hq16, hB⟩ := bnd hB
            refine kw_i (WC := wd_X4_readNeed cs a_t a_t_text a_p1 a_p1_turn a_p1_bent v_t_length q4_0 q4_1 q4_2 q4_3 z2_5 z2_6 g_t_text z2_7 z2_8 z2_9 z2_10 z2_11 z2_12) (W1 := wd_X4_readNeed cs a_t a_t_text a_p1 a_p1_turn a_p1_bent v_t_length q16_1 q16_2 q16_3 q16_4 z2_5 q16_5 g_t_text z2_7 z2_8 z2_9 z2_10 z2_11 q16_6) (W2 := wd_X4_read cs a_t a_t_text a_p1 a_p1_turn a_p1_bent v_t_length q16_1 q16_2 q16_3 q16_4 z2_5 q16_5 g_t_text z2_7 z2_8 z2_9 z2_10 z2_11 q16_6 z2_13 z2_14) (r0 := q16_0) (rw_V (As := [.ref a_p1]) (rest := []) ⟨hx, hb, hml, hown, hg⟩ (k_X4_readNeed l G cs a_t a_t_text a_p1 a_p1_turn a_p1_bent v_t_length q4_0 q4_1 q4_2 q4_3 z2_5 z2_6 g_t_text z2_7 z2_8 z2_9 z2_10 z2_11 z2_12 H.size (q16_0, q16_1, q16_2, q16_3, q16_4, q16_5, q16_6) hq16) gM_X4_56 mI_X4_readNeed (rmk rfl) hP hD hKT hN 0 rfl rfl [0, 1, 2] rfl rfl rfl hl.1 rfl (Nat.le_of_ble_eq_true rfl) dX4_read_180) hP hD hS hA [0, 1, 2] [3, 4] [2, 3, 4, 0, 1] ⟨rfl, rfl, rfl, rfl, rfl, rfl, rfl⟩ (fun H locs hP hD hS => ?_)
            refine lv_if_eq (tgt := 190) hx hb dX4_read_183 (by decide) (fun c_17 => ?_) (fun c_17 => ?_)
            · have hB := ifP c_17 hB
              refine lv_iconst (v := 0) hx hb dX4_read_190 (by decide) ?_
              refine lv_istore_n (lv' := [(3, .int (0 : Int32)), (0, .ref a_t), (1, .ref a_p1), (2, .int z2_0)]) hx hb dX4_read_191 rfl hl (by decide) rfl (fun ls hl => ?_)
              refine lv_goto (tgt := 197) hx hb dX4_read_192 (by decide) ?_
              refine lv_iload_n hx hb dX4_read_197 rfl (lv_at hl 0 rfl) ?_
              refine lv_if_ne (tgt := 204) hx hb dX4_read_198 (by decide) (fun c_18 => ?_) (fun c_18 => ?_)
              · exact absurd c_18 (by decide)
              · refine lv_goto (tgt := 210) hx hb dX4_read_201 (by decide) ?_
                refine lv_bipush (v := -10) hx hb dX4_read_210 (by decide) ?_
                refine lv_aload_n hx hb dX4_read_212 rfl (lv_at hl 1 rfl) ?_
                refine va_get (D := G) (ci := 4) (v := .int q16_2) (C := RX4) (T := TX4) (N := 8) hx hb hg inX4 hown hKT hP 0 rfl rfl 3 (by decide) (hg _ gF_X4_59) (fun _ h9 => h9) rfl dX4_read_213 ?_
                refine lv_isub hx hb dX4_read_216 ?_
                have hK := leafK hB hK
                have hK := elimR hK
                have hK : ((-10 : Int32) - q16_2, q16_1, q16_2, q16_3, q16_4, z2_5, q16_5, z2_7, z2_8, z2_9, z2_10, z2_11, q16_6, z2_13, z2_14) = R0 := hK
                subst hK
                exact W.iret (v := (-10 : Int32) - q16_2) hx hb hr (fun t ht hW => ⟨⟨_, (), rfl, rfl, by rw [ht]; exact hP, hD⟩, hS.F ht⟩) hS.2.2 dX4_read_217
            · have hB := ifN c_17 hB
              refine lv_iconst (v := 1) hx hb dX4_read_186 (by decide) ?_
              refine lv_goto (tgt := 191) hx hb dX4_read_187 (by decide) ?_
              refine lv_istore_n (lv' := [(3, .int (1 : Int32)), (0, .ref a_t), (1, .ref a_p1), (2, .int z2_0)]) hx hb dX4_read_191 rfl hl (by decide) rfl (fun ls hl => ?_)
              refine lv_goto (tgt := 197) hx hb dX4_read_192 (by decide) ?_
              refine lv_iload_n hx hb dX4_read_197 rfl (lv_at hl 0 rfl) ?_
              refine lv_if_ne (tgt := 204) hx hb dX4_read_198 (by decide) (fun c_19 => ?_) (fun c_19 => ?_)
              · refine lv_iinc (v := z2_0 + (1 : Int32)) (lv' := [(2, .int (z2_0 + (1 : Int32))), (3, .int (1 : Int32)), (0, .ref a_t), (1, .ref a_p1)]) hx hb dX4_read_204 hl (k := 3) rfl (inc_ok (by decide)) (by decide) rfl (fun ls hl => ?_)
                refine lv_goto (tgt := 21) hx hb dX4_read_207 (by decide) ?_
                have hK := leafK hB hK
                have hK := elimL hK
                exact hK H locs hP hD hS ls (lv_sub hl [2, 3, 0] rfl)
              · exact absurd c_19 (by decide)
        have hB := ifN c_33_1 hB
        by_cases c_33_2 : q4_3 = 111
        · have hB := ifP c_33_2 hB
          refine lv_lookup (off := 44) (tgt := 100) hx hb dX4_read_56 (by decide) (by rw [c_33_2]; decide) (by decide) ?_
          refine lv_iload_n hx hb dX4_read_100 rfl (lv_at hl 2 rfl) ?_
          refine lv_if_ne (tgt := 116) hx hb dX4_read_101 (by decide) (fun c_20 => ?_) (fun c_20 => ?_)
          · have hB := ifN c_20 hB
            refine lv_iconst (v := 0) hx hb dX4_read_116 (by decide) ?_
            refine lv_istore_n (lv' := [(3, .int (0 : Int32)), (0, .ref a_t), (1, .ref a_p1), (2, .int z2_0)]) hx hb dX4_read_117 rfl hl (by decide) rfl (fun ls hl => ?_)
            refine lv_goto (tgt := 197) hx hb dX4_read_118 (by decide) ?_
            refine lv_iload_n hx hb dX4_read_197 rfl (lv_at hl 0 rfl) ?_
            refine lv_if_ne (tgt := 204) hx hb dX4_read_198 (by decide) (fun c_21 => ?_) (fun c_21 => ?_)
            · exact absurd c_21 (by decide)
            · refine lv_goto (tgt := 210) hx hb dX4_read_201 (by decide) ?_
              refine lv_bipush (v := -10) hx hb dX4_read_210 (by decide) ?_
              refine lv_aload_n hx hb dX4_read_212 rfl (lv_at hl 1 rfl) ?_
              refine va_get (D := G) (ci := 4) (v := .int q4_1) (C := RX4) (T := TX4) (N := 8) hx hb hg inX4 hown hKT hP 0 rfl rfl 3 (by decide) (hg _ gF_X4_59) (fun _ h9 => h9) rfl dX4_read_213 ?_
              refine lv_isub hx hb dX4_read_216 ?_
              have hK := leafK hB hK
              have hK := elimR hK
              have hK : ((-10 : Int32) - q4_1, q4_0, q4_1, q4_2, q4_3, z2_5, z2_6, z2_7, z2_8, z2_9, z2_10, z2_11, z2_12, z2_13, z2_14) = R0 := hK
              subst hK
              exact W.iret (v := (-10 : Int32) - q4_1) hx hb hr (fun t ht hW => ⟨⟨_, (), rfl, rfl, by rw [ht]; exact hP, hD⟩, hS.F ht⟩) hS.2.2 dX4_read_217
          · have hB := ifP c_20 hB
            refine lv_aload_n hx hb dX4_read_104 rfl (lv_at hl 0 rfl) ?_
            refine lv_aload_n hx hb dX4_read_105 rfl (lv_at hl 1 rfl) ?_
            obtain ⟨⟨q22_0, q22_1, q22_2, q22_3, q22_4, q22_5⟩, hq22, hB⟩ := bnd hB
            refine kw_i (WC := wd_X4_readOpinions cs a_t a_t_text a_p1 a_p1_turn a_p1_bent v_t_length q4_0 q4_1 q4_2 q4_3 z2_5 z2_6 g_t_text z2_7 z2_8 z2_9 z2_10 z2_11 z2_12) (W1 := wd_X4_readOpinions cs a_t a_t_text a_p1 a_p1_turn a_p1_bent v_t_length q22_1 q22_2 q22_3 q22_4 z2_5 z2_6 g_t_text q22_5 z2_8 z2_9 z2_10 z2_11 z2_12) (W2 := wd_X4_read cs a_t a_t_text a_p1 a_p1_turn a_p1_bent v_t_length q22_1 q22_2 q22_3 q22_4 z2_5 z2_6 g_t_text q22_5 z2_8 z2_9 z2_10 z2_11 z2_12 z2_13 z2_14) (r0 := q22_0) (rw_V (As := [.ref a_p1]) (rest := []) ⟨hx, hb, hml, hown, hg⟩ (k_X4_readOpinions l G cs a_t a_t_text a_p1 a_p1_turn a_p1_bent v_t_length q4_0 q4_1 q4_2 q4_3 z2_5 z2_6 g_t_text z2_7 z2_8 z2_9 z2_10 z2_11 z2_12 H.size (q22_0, q22_1, q22_2, q22_3, q22_4, q22_5) hq22) gM_X4_43 mI_X4_readOpinions (rmk rfl) hP hD hKT hN 0 rfl rfl [0, 1, 2] rfl rfl rfl hl.1 rfl (Nat.le_of_ble_eq_true rfl) dX4_read_106) hP hD hS hA [0, 1, 2] [3, 4] [2, 3, 4, 0, 1] ⟨rfl, rfl, rfl, rfl, rfl, rfl, rfl⟩ (fun H locs hP hD hS => ?_)
            refine lv_if_eq (tgt := 116) hx hb dX4_read_109 (by decide) (fun c_23 => ?_) (fun c_23 => ?_)
            · have hB := ifP c_23 hB
              refine lv_iconst (v := 0) hx hb dX4_read_116 (by decide) ?_
              refine lv_istore_n (lv' := [(3, .int (0 : Int32)), (0, .ref a_t), (1, .ref a_p1), (2, .int z2_0)]) hx hb dX4_read_117 rfl hl (by decide) rfl (fun ls hl => ?_)
              refine lv_goto (tgt := 197) hx hb dX4_read_118 (by decide) ?_
              refine lv_iload_n hx hb dX4_read_197 rfl (lv_at hl 0 rfl) ?_
              refine lv_if_ne (tgt := 204) hx hb dX4_read_198 (by decide) (fun c_24 => ?_) (fun c_24 => ?_)
              · exact absurd c_24 (by decide)
              · refine lv_goto (tgt := 210) hx hb dX4_read_201 (by decide) ?_
                refine lv_bipush (v := -10) hx hb dX4_read_210 (by decide) ?_
                refine lv_aload_n hx hb dX4_read_212 rfl (lv_at hl 1 rfl) ?_
                refine va_get (D := G) (ci := 4) (v := .int q22_2) (C := RX4) (T := TX4) (N := 8) hx hb hg inX4 hown hKT hP 0 rfl rfl 3 (by decide) (hg _ gF_X4_59) (fun _ h9 => h9) rfl dX4_read_213 ?_
                refine lv_isub hx hb dX4_read_216 ?_
                have hK := leafK hB hK
                have hK := elimR hK
                have hK : ((-10 : Int32) - q22_2, q22_1, q22_2, q22_3, q22_4, z2_5, z2_6, q22_5, z2_8, z2_9, z2_10, z2_11, z2_12, z2_13, z2_14) = R0 := hK
                subst hK
                exact W.iret (v := (-10 : Int32) - q22_2) hx hb hr (fun t ht hW => ⟨⟨_, (), rfl, rfl, by rw [ht]; exact hP, hD⟩, hS.F ht⟩) hS.2.2 dX4_read_217
            · have hB := ifN c_23 hB
              refine lv_iconst (v := 1) hx hb dX4_read_112 (by decide) ?_
              refine lv_goto (tgt := 117) hx hb dX4_read_113 (by decide) ?_
              refine lv_istore_n (lv' := [(3, .int (1 : Int32)), (0, .ref a_t), (1, .ref a_p1), (2, .int z2_0)]) hx hb dX4_read_117 rfl hl (by decide) rfl (fun ls hl => ?_)
              refine lv_goto (tgt := 197) hx hb dX4_read_118 (by decide) ?_
              refine lv_iload_n hx hb dX4_read_197 rfl (lv_at hl 0 rfl) ?_
              refine lv_if_ne (tgt := 204) hx hb dX4_read_198 (by decide) (fun c_25 => ?_) (fun c_25 => ?_)
              · refine lv_iinc (v := z2_0 + (1 : Int32)) (lv' := [(2, .int (z2_0 + (1 : Int32))), (3, .int (1 : Int32)), (0, .ref a_t), (1, .ref a_p1)]) hx hb dX4_read_204 hl (k := 3) rfl (inc_ok (by decide)) (by decide) rfl (fun ls hl => ?_)
                refine lv_goto (tgt := 21) hx hb dX4_read_207 (by decide) ?_
                have hK := leafK hB hK
                have hK := elimL hK
                exact hK H locs hP hD hS ls (lv_sub hl [2, 3, 0] rfl)
              · exact absurd c_25 (by decide)
        have hB := ifN c_33_2 hB
        by_cases c_33_3 : q4_3 = 115
        · have hB := ifP c_33_3 hB
          refine lv_lookup (off := 89) (tgt := 145) hx hb dX4_read_56 (by decide) (by rw [c_33_3]; decide) (by decide) ?_
          refine lv_aload_n hx hb dX4_read_145 rfl (lv_at hl 1 rfl) ?_
          refine va_getN (D := G) (ci := 0) (v := .int z2_11) (C := RX0) (T := TX0) (N := 8) hx hb hg inX0 hown hKT hP 2 rfl rfl 4 (by decide) (va_Nw.use rfl (hN _ nF_X4_50_l rfl)) (fun _ h9 => h9) rfl dX4_read_146 ?_
          refine lv_bipush (v := 6) hx hb dX4_read_149 (by decide) ?_
          refine lv_icmp_ge (tgt := 166) hx hb dX4_read_151 (by decide) (fun c_26 => ?_) (fun c_26 => ?_)
          · have hB := ifP c_26 hB
            refine lv_iconst (v := 0) hx hb dX4_read_166 (by decide) ?_
            refine lv_istore_n (lv' := [(3, .int (0 : Int32)), (0, .ref a_t), (1, .ref a_p1), (2, .int z2_0)]) hx hb dX4_read_167 rfl hl (by decide) rfl (fun ls hl => ?_)
            refine lv_goto (tgt := 197) hx hb dX4_read_168 (by decide) ?_
            refine lv_iload_n hx hb dX4_read_197 rfl (lv_at hl 0 rfl) ?_
            refine lv_if_ne (tgt := 204) hx hb dX4_read_198 (by decide) (fun c_27 => ?_) (fun c_27 => ?_)
            · exact absurd c_27 (by decide)
            · refine lv_goto (tgt := 210) hx hb dX4_read_201 (by decide) ?_
              refine lv_bipush (v := -10) hx hb dX4_read_210 (by decide) ?_
              refine lv_aload_n hx hb dX4_read_212 rfl (lv_at hl 1 rfl) ?_
              refine va_get (D := G) (ci := 4) (v := .int q4_1) (C := RX4) (T := TX4) (N := 8) hx hb hg inX4 hown hKT hP 0 rfl rfl 3 (by decide) (hg _ gF_X4_59) (fun _ h9 => h9) rfl dX4_read_213 ?_
              refine lv_isub hx hb dX4_read_216 ?_
              have hK := leafK hB hK
              have hK := elimR hK
              have hK : ((-10 : Int32) - q4_1, q4_0, q4_1, q4_2, q4_3, z2_5, z2_6, z2_7, z2_8, z2_9, z2_10, z2_11, z2_12, z2_13, z2_14) = R0 := hK
              subst hK
              exact W.iret (v := (-10 : Int32) - q4_1) hx hb hr (fun t ht hW => ⟨⟨_, (), rfl, rfl, by rw [ht]; exact hP, hD⟩, hS.F ht⟩) hS.2.2 dX4_read_217
          · have hB := ifN c_26 hB
            refine lv_aload_n hx hb dX4_read_154 rfl (lv_at hl 0 rfl) ?_
            refine lv_aload_n hx hb dX4_read_155 rfl (lv_at hl 1 rfl) ?_
            obtain ⟨⟨q28_0, q28_1, q28_2, q28_3, q28_4, q28_5, q28_6, q28_7⟩, hq28, hB⟩ := bnd hB
            refine kw_i (WC := wd_X4_readScribe cs a_t a_t_text a_p1 a_p1_turn a_p1_bent v_t_length q4_0 q4_1 q4_2 q4_3 z2_5 z2_6 g_t_text z2_7 z2_8 z2_9 z2_10 z2_11 z2_12 z2_13 z2_14) (W1 := wd_X4_readScribe cs a_t a_t_text a_p1 a_p1_turn a_p1_bent v_t_length q28_1 q28_2 q28_3 q28_4 z2_5 z2_6 g_t_text z2_7 z2_8 z2_9 z2_10 q28_5 z2_12 q28_6 q28_7) (W2 := wd_X4_read cs a_t a_t_text a_p1 a_p1_turn a_p1_bent v_t_length q28_1 q28_2 q28_3 q28_4 z2_5 z2_6 g_t_text z2_7 z2_8 z2_9 z2_10 q28_5 z2_12 q28_6 q28_7) (r0 := q28_0) (rw_V (As := [.ref a_p1]) (rest := []) ⟨hx, hb, hml, hown, hg⟩ (k_X4_readScribe l G cs a_t a_t_text a_p1 a_p1_turn a_p1_bent v_t_length q4_0 q4_1 q4_2 q4_3 z2_5 z2_6 g_t_text z2_7 z2_8 z2_9 z2_10 z2_11 z2_12 z2_13 z2_14 H.size (q28_0, q28_1, q28_2, q28_3, q28_4, q28_5, q28_6, q28_7) hq28) gM_X4_53 mI_X4_readScribe (rmk rfl) hP hD hKT hN 0 rfl rfl [0, 1, 2, 3, 4] rfl rfl rfl hl.1 rfl (Nat.le_of_ble_eq_true rfl) dX4_read_156) hP hD hS hA [0, 1, 2, 3, 4] [] [0, 1, 2, 3, 4] ⟨rfl, rfl, rfl, rfl, rfl, rfl, rfl⟩ (fun H locs hP hD hS => ?_)
            refine lv_if_eq (tgt := 166) hx hb dX4_read_159 (by decide) (fun c_29 => ?_) (fun c_29 => ?_)
            · have hB := ifP c_29 hB
              refine lv_iconst (v := 0) hx hb dX4_read_166 (by decide) ?_
              refine lv_istore_n (lv' := [(3, .int (0 : Int32)), (0, .ref a_t), (1, .ref a_p1), (2, .int z2_0)]) hx hb dX4_read_167 rfl hl (by decide) rfl (fun ls hl => ?_)
              refine lv_goto (tgt := 197) hx hb dX4_read_168 (by decide) ?_
              refine lv_iload_n hx hb dX4_read_197 rfl (lv_at hl 0 rfl) ?_
              refine lv_if_ne (tgt := 204) hx hb dX4_read_198 (by decide) (fun c_30 => ?_) (fun c_30 => ?_)
              · exact absurd c_30 (by decide)
              · refine lv_goto (tgt := 210) hx hb dX4_read_201 (by decide) ?_
                refine lv_bipush (v := -10) hx hb dX4_read_210 (by decide) ?_
                refine lv_aload_n hx hb dX4_read_212 rfl (lv_at hl 1 rfl) ?_
                refine va_get (D := G) (ci := 4) (v := .int q28_2) (C := RX4) (T := TX4) (N := 8) hx hb hg inX4 hown hKT hP 0 rfl rfl 3 (by decide) (hg _ gF_X4_59) (fun _ h9 => h9) rfl dX4_read_213 ?_
                refine lv_isub hx hb dX4_read_216 ?_
                have hK := leafK hB hK
                have hK := elimR hK
                have hK : ((-10 : Int32) - q28_2, q28_1, q28_2, q28_3, q28_4, z2_5, z2_6, z2_7, z2_8, z2_9, z2_10, q28_5, z2_12, q28_6, q28_7) = R0 := hK
                subst hK
                exact W.iret (v := (-10 : Int32) - q28_2) hx hb hr (fun t ht hW => ⟨⟨_, (), rfl, rfl, by rw [ht]; exact hP, hD⟩, hS.F ht⟩) hS.2.2 dX4_read_217
            · have hB := ifN c_29 hB
              refine lv_iconst (v := 1) hx hb dX4_read_162 (by decide) ?_
              refine lv_goto (tgt := 167) hx hb dX4_read_163 (by decide) ?_
              refine lv_istore_n (lv' := [(3, .int (1 : Int32)), (0, .ref a_t), (1, .ref a_p1), (2, .int z2_0)]) hx hb dX4_read_167 rfl hl (by decide) rfl (fun ls hl => ?_)
              refine lv_goto (tgt := 197) hx hb dX4_read_168 (by decide) ?_
              refine lv_iload_n hx hb dX4_read_197 rfl (lv_at hl 0 rfl) ?_
              refine lv_if_ne (tgt := 204) hx hb dX4_read_198 (by decide) (fun c_31 => ?_) (fun c_31 => ?_)
              · refine lv_iinc (v := z2_0 + (1 : Int32)) (lv' := [(2, .int (z2_0 + (1 : Int32))), (3, .int (1 : Int32)), (0, .ref a_t), (1, .ref a_p1)]) hx hb dX4_read_204 hl (k := 3) rfl (inc_ok (by decide)) (by decide) rfl (fun ls hl => ?_)
                refine lv_goto (tgt := 21) hx hb dX4_read_207 (by decide) ?_
                have hK := leafK hB hK
                have hK := elimL hK
                exact hK H locs hP hD hS ls (lv_sub hl [2, 3, 0] rfl)
              · exact absurd c_31 (by decide)
        have hB := ifN c_33_3 hB
        refine lv_lookup (off := 139) (tgt := 195) hx hb dX4_read_56 (by decide) ((lv_osw c_33_0 rfl).trans ((lv_osw c_33_1 rfl).trans ((lv_osw c_33_2 rfl).trans ((lv_osw c_33_3 rfl).trans (rfl))))) (by decide) ?_
        refine lv_iconst (v := 0) hx hb dX4_read_195 (by decide) ?_
        refine lv_istore_n (lv' := [(3, .int (0 : Int32)), (0, .ref a_t), (1, .ref a_p1), (2, .int z2_0)]) hx hb dX4_read_196 rfl hl (by decide) rfl (fun ls hl => ?_)
        refine lv_iload_n hx hb dX4_read_197 rfl (lv_at hl 0 rfl) ?_
        refine lv_if_ne (tgt := 204) hx hb dX4_read_198 (by decide) (fun c_32 => ?_) (fun c_32 => ?_)
        · exact absurd c_32 (by decide)
        · refine lv_goto (tgt := 210) hx hb dX4_read_201 (by decide) ?_
          refine lv_bipush (v := -10) hx hb dX4_read_210 (by decide) ?_
          refine lv_aload_n hx hb dX4_read_212 rfl (lv_at hl 1 rfl) ?_
          refine va_get (D := G) (ci := 4) (v := .int q4_1) (C := RX4) (T := TX4) (N := 8) hx hb hg inX4 hown hKT hP 0 rfl rfl 3 (by decide) (hg _ gF_X4_59) (fun _ h9 => h9) rfl dX4_read_213 ?_
          refine lv_isub hx hb dX4_read_216 ?_
          have hK := leafK hB hK
          have hK := elimR hK
          have hK : ((-10 : Int32) - q4_1, q4_0, q4_1, q4_2, q4_3, z2_5, z2_6, z2_7, z2_8, z2_9, z2_10, z2_11, z2_12, z2_13, z2_14) = R0 := hK
          subst hK
          exact W.iret (v := (-10 : Int32) - q4_1) hx hb hr (fun t ht hW => ⟨⟨_, (), rfl, rfl, by rw [ht]; exact hP, hD⟩, hS.F ht⟩) hS.2.2 dX4_read_217
    · have hB := ifP c_5 hB
      refine lv_iload_n hx hb dX4_read_38 rfl (lv_at hl 2 rfl) ?_
      have hK := leafK hB hK
      have hK := elimR hK
      have hK : (z2_0, q4_0, q4_1, q4_2, q4_3, z2_5, z2_6, z2_7, z2_8, z2_9, z2_10, z2_11, z2_12, z2_13, z2_14) = R0 := hK
      subst hK
      exact W.iret (v := z2_0) hx hb hr (fun t ht hW => ⟨⟨_, (), rfl, rfl, by rw [ht]; exact hP, hD⟩, hS.F ht⟩) hS.2.2 dX4_read_39
