def wd_X8_ends (cs : Nat → ClassId) (a_t a_t_house a_t_draft a_t_reader a_t_laws a_t_standing a_t_imageZero a_t_imageOne a_t_rounds a_t_ways a_t_margins a_t_marks a_t_house_turn a_t_house_bent a_t_standing_rows a_t_rounds_laws a_t_rounds_laws_made : Nat) (r_t_standing_rows : Nat → Nat) (v_t_keptZero : Int32) (v_t_keptOne : Int32) (v_t_target : Int32) (v_t_house_opinions : Int32) (v_t_house_lines : Int32) (v_t_house_books : Int32) (v_t_house_told : Int32) (v_t_house_scribes : Int32) (v_t_house_need : Int32) (v_t_standing_known : Int32) (g_t_standing_rows : Nat → Nat → Int32) (v_t_rounds_book : Int32) (v_t_rounds_copies : Int32) (v_t_rounds_ender : Int32) (v_t_rounds_goesOn : Int32) (v_t_rounds_laws_scribes : Int32) (v_t_rounds_laws_books : Int32) (g_t_rounds_laws_made : Nat → Int32) : va_W := [(a_t, .inr (8, [.ref a_t_house, .ref a_t_draft, .ref a_t_reader, .ref a_t_laws, .ref a_t_standing, .ref a_t_imageZero, .ref a_t_imageOne, .int v_t_keptZero, .int v_t_keptOne, .int v_t_target, .ref a_t_rounds, .ref a_t_ways, .ref a_t_margins, .ref a_t_marks])), (a_t_house, .inr (0, [.int v_t_house_opinions, .int v_t_house_lines, .int v_t_house_books, .int v_t_house_told, .int v_t_house_scribes, .int v_t_house_need, .ref a_t_house_turn, .ref a_t_house_bent])), (a_t_standing, .inr (6, [.ref a_t_standing_rows, .int v_t_standing_known])), (a_t_standing_rows, .inl (cs 3, 11, .inr (.inr (.inr (.inr (gO r_t_standing_rows)))))), (r_t_standing_rows 0, .inl (cs 0, 9, .inl (g_t_standing_rows 0))), (r_t_standing_rows 1, .inl (cs 0, 9, .inl (g_t_standing_rows 1))), (r_t_standing_rows 2, .inl (cs 0, 9, .inl (g_t_standing_rows 2))), (r_t_standing_rows 3, .inl (cs 0, 9, .inl (g_t_standing_rows 3))), (r_t_standing_rows 4, .inl (cs 0, 9, .inl (g_t_standing_rows 4))), (r_t_standing_rows 5, .inl (cs 0, 9, .inl (g_t_standing_rows 5))), (r_t_standing_rows 6, .inl (cs 0, 9, .inl (g_t_standing_rows 6))), (r_t_standing_rows 7, .inl (cs 0, 9, .inl (g_t_standing_rows 7))), (r_t_standing_rows 8, .inl (cs 0, 9, .inl (g_t_standing_rows 8))), (r_t_standing_rows 9, .inl (cs 0, 9, .inl (g_t_standing_rows 9))), (r_t_standing_rows 10, .inl (cs 0, 9, .inl (g_t_standing_rows 10))), (a_t_rounds, .inr (5, [.ref a_t_rounds_laws, .int v_t_rounds_book, .int v_t_rounds_copies, .int v_t_rounds_ender, .int v_t_rounds_goesOn])), (a_t_rounds_laws, .inr (1, [.ref a_t_rounds_laws_made, .int v_t_rounds_laws_scribes, .int v_t_rounds_laws_books])), (a_t_rounds_laws_made, .inl (cs 0, 3750, .inl g_t_rounds_laws_made))]
def rm_X8_ends : Room := { frames := 3, cells := 0, slots := 0, locals := 71 }
theorem mI_X8_ends : MI yX8_ends RX8 cX8_ends 2 (some .int) 1 := ⟨gI_X8_ends, gE_X8_ends, gN_X8, gC_X8_ends, by decide +kernel⟩
set_option maxHeartbeats 4000000 in
set_option maxRecDepth 100000 in
theorem k_X8_ends (l : Launch) (G : va_G) (cs : Nat → ClassId) (a_t a_t_house a_t_draft a_t_reader a_t_laws a_t_standing a_t_imageZero a_t_imageOne a_t_rounds a_t_ways a_t_margins a_t_marks a_t_house_turn a_t_house_bent a_t_standing_rows a_t_rounds_laws a_t_rounds_laws_made : Nat) (r_t_standing_rows : Nat → Nat) (v_t_keptZero : Int32) (v_t_keptOne : Int32) (v_t_target : Int32) (v_t_house_opinions : Int32) (v_t_house_lines : Int32) (v_t_house_books : Int32) (v_t_house_told : Int32) (v_t_house_scribes : Int32) (v_t_house_need : Int32) (v_t_standing_known : Int32) (g_t_standing_rows : Nat → Nat → Int32) (v_t_rounds_book : Int32) (v_t_rounds_copies : Int32) (v_t_rounds_ender : Int32) (v_t_rounds_goesOn : Int32) (v_t_rounds_laws_scribes : Int32) (v_t_rounds_laws_books : Int32) (g_t_rounds_laws_made : Nat → Int32) (p1 : Int32) (sz : Nat) (R0 : Int32 × Int32 × Int32 × Int32 × Int32) (hB : f_X8_ends v_t_house_scribes v_t_standing_known g_t_standing_rows v_t_rounds_book v_t_rounds_copies v_t_rounds_ender v_t_rounds_goesOn v_t_rounds_laws_scribes v_t_rounds_laws_books g_t_rounds_laws_made p1 = some R0) : Met l yX8_ends (.code yX8_ends cX8_ends 2 (some .int) :: GW) rm_X8_ends (PcW G cs [.ref a_t, .int p1] (wd_X8_ends cs a_t a_t_house a_t_draft a_t_reader a_t_laws a_t_standing a_t_imageZero a_t_imageOne a_t_rounds a_t_ways a_t_margins a_t_marks a_t_house_turn a_t_house_bent a_t_standing_rows a_t_rounds_laws a_t_rounds_laws_made r_t_standing_rows v_t_keptZero v_t_keptOne v_t_target v_t_house_opinions v_t_house_lines v_t_house_books v_t_house_told v_t_house_scribes v_t_house_need v_t_standing_known g_t_standing_rows v_t_rounds_book v_t_rounds_copies v_t_rounds_ender v_t_rounds_goesOn v_t_rounds_laws_scribes v_t_rounds_laws_books g_t_rounds_laws_made) sz) (QcI G (va_A (wd_X8_ends cs a_t a_t_house a_t_draft a_t_reader a_t_laws a_t_standing a_t_imageZero a_t_imageOne a_t_rounds a_t_ways a_t_margins a_t_marks a_t_house_turn a_t_house_bent a_t_standing_rows a_t_rounds_laws a_t_rounds_laws_made r_t_standing_rows v_t_keptZero v_t_keptOne v_t_target v_t_house_opinions v_t_house_lines v_t_house_books v_t_house_told v_t_house_scribes v_t_house_need v_t_standing_known g_t_standing_rows v_t_rounds_book v_t_rounds_copies v_t_rounds_ender v_t_rounds_goesOn v_t_rounds_laws_scribes v_t_rounds_laws_books g_t_rounds_laws_made) sz) (wd_X8_ends cs a_t a_t_house a_t_draft a_t_reader a_t_laws a_t_standing a_t_imageZero a_t_imageOne a_t_rounds a_t_ways a_t_margins a_t_marks a_t_house_turn a_t_house_bent a_t_standing_rows a_t_rounds_laws a_t_rounds_laws_made r_t_standing_rows v_t_keptZero v_t_keptOne v_t_target v_t_house_opinions v_t_house_lines v_t_house_books v_t_house_told v_t_house_scribes v_t_house_need v_t_standing_known g_t_standing_rows R0.2.1 R0.2.2.1 R0.2.2.2.1 R0.2.2.2.2 v_t_rounds_laws_scribes v_t_rounds_laws_books g_t_rounds_laws_made) R0.1) 0 0 (va_A (wd_X8_ends cs a_t a_t_house a_t_draft a_t_reader a_t_laws a_t_standing a_t_imageZero a_t_imageOne a_t_rounds a_t_ways a_t_margins a_t_marks a_t_house_turn a_t_house_bent a_t_standing_rows a_t_rounds_laws a_t_rounds_laws_made r_t_standing_rows v_t_keptZero v_t_keptOne v_t_target v_t_house_opinions v_t_house_lines v_t_house_books v_t_house_told v_t_house_scribes v_t_house_need v_t_standing_known g_t_standing_rows v_t_rounds_book v_t_rounds_copies v_t_rounds_ender v_t_rounds_goesOn v_t_rounds_laws_scribes v_t_rounds_laws_books g_t_rounds_laws_made) sz) := by
  refine Met.ofW (cc := cX8_ends) (maxL := 2) (ret := (some .int)) (by decide) rfl ?_
  intro p e s m args below meth c s₁ B hml hv
  obtain ⟨rfl, hsz, hP, hD0, hK, hN⟩ := hv
  have hx := B.exec
  have hb := B.bytes
  have hr := B.returns
  have hts := atoms_spec (ws := .code yX8_ends cX8_ends 2 (some .int) :: GW) B.pre
  have hg : ∀ w ∈ GW, w.before _ s = true := fun w h => hts w (List.mem_cons_of_mem _ h)
  have hown : s.vm.findClass RX8 = some m.cls := findClass_of_methodNamed B.named
  have hlocks := B.notSynchronized
  subst hsz
  have hD := hD0.self (sz := s.heap.size)
  generalize hAe : va_A (wd_X8_ends cs a_t a_t_house a_t_draft a_t_reader a_t_laws a_t_standing a_t_imageZero a_t_imageOne a_t_rounds a_t_ways a_t_margins a_t_marks a_t_house_turn a_t_house_bent a_t_standing_rows a_t_rounds_laws a_t_rounds_laws_made r_t_standing_rows v_t_keptZero v_t_keptOne v_t_target v_t_house_opinions v_t_house_lines v_t_house_books v_t_house_told v_t_house_scribes v_t_house_need v_t_standing_known g_t_standing_rows v_t_rounds_book v_t_rounds_copies v_t_rounds_ender v_t_rounds_goesOn v_t_rounds_laws_scribes v_t_rounds_laws_books g_t_rounds_laws_made) s.heap.size = A at hD ⊢
  have hA : ∀ q : Nat, s.heap.size ≤ q → A q := fun q h => by rw [← hAe]; exact Or.inr h
  have hS : va_S A s.heap s.heap [] := va_S.rf
  have hl := lv_entry ([.ref a_t, .int p1]) (n := 2) (Nat.le_of_ble_eq_true rfl)
  rw [lg_entry_eq]
  generalize (lg_sl ([.ref a_t, .int p1]) ++ List.replicate (2 - (lg_sl ([.ref a_t, .int p1])).length) Slot.unset).toArray = ls at hl ⊢
  have hl : lv_has ls 2 [(0, .ref a_t), (1, .int p1)] := hl
  obtain ⟨y, hB, hK0⟩ : ∃ y, f_X8_ends v_t_house_scribes v_t_standing_known g_t_standing_rows v_t_rounds_book v_t_rounds_copies v_t_rounds_ender v_t_rounds_goesOn v_t_rounds_laws_scribes v_t_rounds_laws_books g_t_rounds_laws_made p1 = some y ∧ KEnd R0 y := ⟨R0, hB, rfl⟩
  have hKT := hK
  have hK := hK0
  obtain ⟨H, hHe⟩ : ∃ H, H = s.heap := ⟨_, rfl⟩
  obtain ⟨locs, hLe⟩ : ∃ L : List Loc, L = [] := ⟨_, rfl⟩
  rw [← hHe] at hP
  have hS : va_S A s.heap H locs := by rw [hHe, hLe]; exact hS
  show W p l e rm_X8_ends s m ([.ref a_t, .int p1] : List Value).toArray below meth c s.heap [] 0 0 _ _
  suffices hgo : W p l e rm_X8_ends s m ([.ref a_t, .int p1] : List Value).toArray below meth c H locs 0 0 (MQ below (QcI G A (wd_X8_ends cs a_t a_t_house a_t_draft a_t_reader a_t_laws a_t_standing a_t_imageZero a_t_imageOne a_t_rounds a_t_ways a_t_margins a_t_marks a_t_house_turn a_t_house_bent a_t_standing_rows a_t_rounds_laws a_t_rounds_laws_made r_t_standing_rows v_t_keptZero v_t_keptOne v_t_target v_t_house_opinions v_t_house_lines v_t_house_books v_t_house_told v_t_house_scribes v_t_house_need v_t_standing_known g_t_standing_rows R0.2.1 R0.2.2.1 R0.2.2.2.1 R0.2.2.2.2 v_t_rounds_laws_scribes v_t_rounds_laws_books g_t_rounds_laws_made) R0.1) ([.ref a_t, .int p1] : List Value).toArray s 0 0 A) (F0 m 0 ls []) by rw [hHe, hLe] at hgo; exact hgo
  refine lv_iload_n hx hb dX8_ends_0 rfl (lv_at hl 1 rfl) ?_
  refine lv_if_lt (tgt := 9) hx hb dX8_ends_1 (by decide) (fun c_1 => ?_) (fun c_1 => ?_)
  · have hB := ifP c_1 hB
    refine lv_iconst (v := -1) hx hb dX8_ends_9 (by decide) ?_
    have hK := leafK hB hK
    have hK : ((-1 : Int32), v_t_rounds_book, v_t_rounds_copies, v_t_rounds_ender, v_t_rounds_goesOn) = R0 := hK
    subst hK
    exact W.iret (v := (-1 : Int32)) hx hb hr (fun t ht hW => ⟨⟨_, (), rfl, rfl, by rw [ht]; exact hP, hD⟩, hS.F ht⟩) hS.2.2 dX8_ends_10
  · have hB := ifN c_1 hB
    refine lv_iload_n hx hb dX8_ends_4 rfl (lv_at hl 1 rfl) ?_
    refine lv_iconst (v := 1) hx hb dX8_ends_5 (by decide) ?_
    refine lv_icmp_le (tgt := 11) hx hb dX8_ends_6 (by decide) (fun c_2 => ?_) (fun c_2 => ?_)
    · have hB := ifP c_2 hB
      refine lv_aload_n hx hb dX8_ends_11 rfl (lv_at hl 0 rfl) ?_
      refine va_get (D := G) (ci := 8) (v := .ref a_t_rounds) (C := RX8) (T := TX8) (N := 14) hx hb hg inX8 hown hKT hP 0 rfl rfl 10 (by decide) (hg _ gF_X8_51) (fun _ h9 => h9) rfl dX8_ends_12 ?_
      refine lv_aload_n hx hb dX8_ends_15 rfl (lv_at hl 0 rfl) ?_
      refine va_get (D := G) (ci := 8) (v := .ref a_t_standing) (C := RX8) (T := TX8) (N := 14) hx hb hg inX8 hown hKT hP 0 rfl rfl 4 (by decide) (hg _ gF_X8_36) (fun _ h9 => h9) rfl dX8_ends_16 ?_
      obtain ⟨q3, hq3, hB⟩ := bnd hB
      refine kr_VN (WC := wd_X6_book cs a_t_standing a_t_standing_rows r_t_standing_rows v_t_standing_known g_t_standing_rows) (As := []) (rest := [.ref a_t_rounds]) (r0 := q3) ⟨hx, hb, hml, hown, hg⟩ (k_X6_book l G cs a_t_standing a_t_standing_rows r_t_standing_rows v_t_standing_known g_t_standing_rows q3 hq3) nM_X8_117_l mI_X6_book (rmk rfl) hP hKT hN 2 rfl rfl [2, 3, 4, 5, 6, 7, 8, 9, 10, 11, 12, 13, 14] rfl rfl hl.1 rfl (Nat.le_of_ble_eq_true rfl) dX8_ends_19 ?_
      refine lv_aload_n hx hb dX8_ends_22 rfl (lv_at hl 0 rfl) ?_
      obtain ⟨q4, hq4, hB⟩ := bnd hB
      refine kr_V (WC := wd_X8_bought cs a_t a_t_house a_t_draft a_t_reader a_t_laws a_t_standing a_t_imageZero a_t_imageOne a_t_rounds a_t_ways a_t_margins a_t_marks a_t_house_turn a_t_house_bent a_t_standing_rows r_t_standing_rows v_t_keptZero v_t_keptOne v_t_target v_t_house_opinions v_t_house_lines v_t_house_books v_t_house_told v_t_house_scribes v_t_house_need v_t_standing_known g_t_standing_rows) (As := []) (rest := [.int q3, .ref a_t_rounds]) (r0 := q4) ⟨hx, hb, hml, hown, hg⟩ (k_X8_bought l G cs a_t a_t_house a_t_draft a_t_reader a_t_laws a_t_standing a_t_imageZero a_t_imageOne a_t_rounds a_t_ways a_t_margins a_t_marks a_t_house_turn a_t_house_bent a_t_standing_rows r_t_standing_rows v_t_keptZero v_t_keptOne v_t_target v_t_house_opinions v_t_house_lines v_t_house_books v_t_house_told v_t_house_scribes v_t_house_need v_t_standing_known g_t_standing_rows q4 hq4) gM_X8_213 mI_X8_bought (rmk rfl) hP hKT hN 0 rfl rfl [0, 1, 2, 3, 4, 5, 6, 7, 8, 9, 10, 11, 12, 13, 14] rfl rfl hl.1 rfl (Nat.le_of_ble_eq_true rfl) dX8_ends_23 ?_
      obtain ⟨⟨q5_0, q5_1, q5_2, q5_3⟩, hq5, hB⟩ := bnd hB
      refine kw_v (WC := wd_X5_runToEnd cs a_t_rounds a_t_rounds_laws a_t_rounds_laws_made v_t_rounds_book v_t_rounds_copies v_t_rounds_ender v_t_rounds_goesOn v_t_rounds_laws_scribes v_t_rounds_laws_books g_t_rounds_laws_made) (W1 := wd_X5_runToEnd cs a_t_rounds a_t_rounds_laws a_t_rounds_laws_made q5_0 q5_1 q5_2 q5_3 v_t_rounds_laws_scribes v_t_rounds_laws_books g_t_rounds_laws_made) (W2 := wd_X8_ends cs a_t a_t_house a_t_draft a_t_reader a_t_laws a_t_standing a_t_imageZero a_t_imageOne a_t_rounds a_t_ways a_t_margins a_t_marks a_t_house_turn a_t_house_bent a_t_standing_rows a_t_rounds_laws a_t_rounds_laws_made r_t_standing_rows v_t_keptZero v_t_keptOne v_t_target v_t_house_opinions v_t_house_lines v_t_house_books v_t_house_told v_t_house_scribes v_t_house_need v_t_standing_known g_t_standing_rows q5_0 q5_1 q5_2 q5_3 v_t_rounds_laws_scribes v_t_rounds_laws_books g_t_rounds_laws_made) (rw_VN (As := [.int q3, .int q4]) (rest := []) ⟨hx, hb, hml, hown, hg⟩ (k_X5_runToEnd l G cs a_t_rounds a_t_rounds_laws a_t_rounds_laws_made v_t_rounds_book v_t_rounds_copies v_t_rounds_ender v_t_rounds_goesOn v_t_rounds_laws_scribes v_t_rounds_laws_books g_t_rounds_laws_made q3 q4 H.size (q5_0, q5_1, q5_2, q5_3) hq5) nM_X8_222_l mI_X5_runToEnd (rmk rfl) hP hD hKT hN 15 rfl rfl [15, 16, 17] rfl rfl rfl hl.1 rfl (Nat.le_of_ble_eq_true rfl) dX8_ends_26) hP hD hS hA [15, 16, 17] [0, 1, 2, 3, 4, 5, 6, 7, 8, 9, 10, 11, 12, 13, 14] [0, 1, 2, 3, 4, 5, 6, 7, 8, 9, 10, 11, 12, 13, 14, 15, 16, 17] ⟨rfl, rfl, rfl, rfl, rfl, rfl, rfl⟩ (fun H locs hP hD hS => ?_)
      refine lv_iload_n hx hb dX8_ends_29 rfl (lv_at hl 1 rfl) ?_
      refine lv_if_ne (tgt := 41) hx hb dX8_ends_30 (by decide) (fun c_6 => ?_) (fun c_6 => ?_)
      · have hB := ifN c_6 hB
        refine lv_aload_n hx hb dX8_ends_41 rfl (lv_at hl 0 rfl) ?_
        refine va_get (D := G) (ci := 8) (v := .ref a_t_rounds) (C := RX8) (T := TX8) (N := 14) hx hb hg inX8 hown hKT hP 0 rfl rfl 10 (by decide) (hg _ gF_X8_51) (fun _ h9 => h9) rfl dX8_ends_42 ?_
        refine va_getN (D := G) (ci := 5) (v := .int q5_3) (C := RX5) (T := TX5) (N := 5) hx hb hg inX5 hown hKT hP 15 rfl rfl 4 (by decide) (va_Nw.use rfl (hN _ nF_X8_228_l rfl)) (fun _ h9 => h9) rfl dX8_ends_45 ?_
        refine lv_if_eq (tgt := 56) hx hb dX8_ends_48 (by decide) (fun c_7 => ?_) (fun c_7 => ?_)
        · have hB := ifP c_7 hB
          refine lv_aload_n hx hb dX8_ends_56 rfl (lv_at hl 0 rfl) ?_
          refine va_get (D := G) (ci := 8) (v := .ref a_t_rounds) (C := RX8) (T := TX8) (N := 14) hx hb hg inX8 hown hKT hP 0 rfl rfl 10 (by decide) (hg _ gF_X8_51) (fun _ h9 => h9) rfl dX8_ends_57 ?_
          refine va_getN (D := G) (ci := 5) (v := .int q5_1) (C := RX5) (T := TX5) (N := 5) hx hb hg inX5 hown hKT hP 15 rfl rfl 2 (by decide) (va_Nw.use rfl (hN _ nF_X8_231_l rfl)) (fun _ h9 => h9) rfl dX8_ends_60 ?_
          have hK := leafK hB hK
          have hK : (q5_1, q5_0, q5_1, q5_2, q5_3) = R0 := hK
          subst hK
          exact W.iret (v := q5_1) hx hb hr (fun t ht hW => ⟨⟨_, (), rfl, rfl, by rw [ht]; exact hP, hD⟩, hS.F ht⟩) hS.2.2 dX8_ends_63
        · have hB := ifN c_7 hB
          refine lv_bipush (v := -9) hx hb dX8_ends_51 (by decide) ?_
          refine lv_goto (tgt := 63) hx hb dX8_ends_53 (by decide) ?_
          have hK := leafK hB hK
          have hK : ((-9 : Int32), q5_0, q5_1, q5_2, q5_3) = R0 := hK
          subst hK
          exact W.iret (v := (-9 : Int32)) hx hb hr (fun t ht hW => ⟨⟨_, (), rfl, rfl, by rw [ht]; exact hP, hD⟩, hS.F ht⟩) hS.2.2 dX8_ends_63
      · have hB := ifP c_6 hB
        refine lv_aload_n hx hb dX8_ends_33 rfl (lv_at hl 0 rfl) ?_
        refine va_get (D := G) (ci := 8) (v := .ref a_t_rounds) (C := RX8) (T := TX8) (N := 14) hx hb hg inX8 hown hKT hP 0 rfl rfl 10 (by decide) (hg _ gF_X8_51) (fun _ h9 => h9) rfl dX8_ends_34 ?_
        refine va_getN (D := G) (ci := 5) (v := .int q5_2) (C := RX5) (T := TX5) (N := 5) hx hb hg inX5 hown hKT hP 15 rfl rfl 3 (by decide) (va_Nw.use rfl (hN _ nF_X8_225_l rfl)) (fun _ h9 => h9) rfl dX8_ends_37 ?_
        have hK := leafK hB hK
        have hK : (q5_2, q5_0, q5_1, q5_2, q5_3) = R0 := hK
        subst hK
        exact W.iret (v := q5_2) hx hb hr (fun t ht hW => ⟨⟨_, (), rfl, rfl, by rw [ht]; exact hP, hD⟩, hS.F ht⟩) hS.2.2 dX8_ends_40
    · have hB := ifN c_2 hB
      refine lv_iconst (v := -1) hx hb dX8_ends_9 (by decide) ?_
      have hK := leafK hB hK
      have hK : ((-1 : Int32), v_t_rounds_book, v_t_rounds_copies, v_t_rounds_ender, v_t_rounds_goesOn) = R0 := hK
      subst hK
      exact W.iret (v := (-1 : Int32)) hx hb hr (fun t ht hW => ⟨⟨_, (), rfl, rfl, by rw [ht]; exact hP, hD⟩, hS.F ht⟩) hS.2.2 dX8_ends_10
def wd_X8_lasts (cs : Nat → ClassId) (a_t a_t_house a_t_draft a_t_reader a_t_laws a_t_standing a_t_imageZero a_t_imageOne a_t_rounds a_t_ways a_t_margins a_t_marks a_t_house_turn a_t_house_bent a_t_standing_rows a_t_rounds_laws a_t_rounds_laws_made : Nat) (r_t_standing_rows : Nat → Nat) (v_t_keptZero : Int32) (v_t_keptOne : Int32) (v_t_target : Int32) (v_t_house_opinions : Int32) (v_t_house_lines : Int32) (v_t_house_books : Int32) (v_t_house_told : Int32) (v_t_house_scribes : Int32) (v_t_house_need : Int32) (v_t_standing_known : Int32) (g_t_standing_rows : Nat → Nat → Int32) (v_t_rounds_book : Int32) (v_t_rounds_copies : Int32) (v_t_rounds_ender : Int32) (v_t_rounds_goesOn : Int32) (v_t_rounds_laws_scribes : Int32) (v_t_rounds_laws_books : Int32) (g_t_rounds_laws_made : Nat → Int32) : va_W := [(a_t, .inr (8, [.ref a_t_house, .ref a_t_draft, .ref a_t_reader, .ref a_t_laws, .ref a_t_standing, .ref a_t_imageZero, .ref a_t_imageOne, .int v_t_keptZero, .int v_t_keptOne, .int v_t_target, .ref a_t_rounds, .ref a_t_ways, .ref a_t_margins, .ref a_t_marks])), (a_t_house, .inr (0, [.int v_t_house_opinions, .int v_t_house_lines, .int v_t_house_books, .int v_t_house_told, .int v_t_house_scribes, .int v_t_house_need, .ref a_t_house_turn, .ref a_t_house_bent])), (a_t_standing, .inr (6, [.ref a_t_standing_rows, .int v_t_standing_known])), (a_t_standing_rows, .inl (cs 3, 11, .inr (.inr (.inr (.inr (gO r_t_standing_rows)))))), (r_t_standing_rows 0, .inl (cs 0, 9, .inl (g_t_standing_rows 0))), (r_t_standing_rows 1, .inl (cs 0, 9, .inl (g_t_standing_rows 1))), (r_t_standing_rows 2, .inl (cs 0, 9, .inl (g_t_standing_rows 2))), (r_t_standing_rows 3, .inl (cs 0, 9, .inl (g_t_standing_rows 3))), (r_t_standing_rows 4, .inl (cs 0, 9, .inl (g_t_standing_rows 4))), (r_t_standing_rows 5, .inl (cs 0, 9, .inl (g_t_standing_rows 5))), (r_t_standing_rows 6, .inl (cs 0, 9, .inl (g_t_standing_rows 6))), (r_t_standing_rows 7, .inl (cs 0, 9, .inl (g_t_standing_rows 7))), (r_t_standing_rows 8, .inl (cs 0, 9, .inl (g_t_standing_rows 8))), (r_t_standing_rows 9, .inl (cs 0, 9, .inl (g_t_standing_rows 9))), (r_t_standing_rows 10, .inl (cs 0, 9, .inl (g_t_standing_rows 10))), (a_t_rounds, .inr (5, [.ref a_t_rounds_laws, .int v_t_rounds_book, .int v_t_rounds_copies, .int v_t_rounds_ender, .int v_t_rounds_goesOn])), (a_t_rounds_laws, .inr (1, [.ref a_t_rounds_laws_made, .int v_t_rounds_laws_scribes, .int v_t_rounds_laws_books])), (a_t_rounds_laws_made, .inl (cs 0, 3750, .inl g_t_rounds_laws_made))]
def rm_X8_lasts : Room := { frames := 4, cells := 0, slots := 0, locals := 95 }
theorem mI_X8_lasts : MI yX8_lasts RX8 cX8_lasts 3 (some .int) 1 := ⟨gI_X8_lasts, gE_X8_lasts, gN_X8, gC_X8_lasts, by decide +kernel⟩
set_option maxHeartbeats 4000000 in
set_option maxRecDepth 100000 in
theorem k_X8_lasts (l : Launch) (G : va_G) (cs : Nat → ClassId) (a_t a_t_house a_t_draft a_t_reader a_t_laws a_t_standing a_t_imageZero a_t_imageOne a_t_rounds a_t_ways a_t_margins a_t_marks a_t_house_turn a_t_house_bent a_t_standing_rows a_t_rounds_laws a_t_rounds_laws_made : Nat) (r_t_standing_rows : Nat → Nat) (v_t_keptZero : Int32) (v_t_keptOne : Int32) (v_t_target : Int32) (v_t_house_opinions : Int32) (v_t_house_lines : Int32) (v_t_house_books : Int32) (v_t_house_told : Int32) (v_t_house_scribes : Int32) (v_t_house_need : Int32) (v_t_standing_known : Int32) (g_t_standing_rows : Nat → Nat → Int32) (v_t_rounds_book : Int32) (v_t_rounds_copies : Int32) (v_t_rounds_ender : Int32) (v_t_rounds_goesOn : Int32) (v_t_rounds_laws_scribes : Int32) (v_t_rounds_laws_books : Int32) (g_t_rounds_laws_made : Nat → Int32) (p1 : Int32) (sz : Nat) (R0 : Int32 × Int32 × Int32 × Int32 × Int32) (hB : f_X8_lasts v_t_house_lines v_t_house_scribes v_t_standing_known g_t_standing_rows v_t_rounds_book v_t_rounds_copies v_t_rounds_ender v_t_rounds_goesOn v_t_rounds_laws_scribes v_t_rounds_laws_books g_t_rounds_laws_made p1 = some R0) : Met l yX8_lasts (.code yX8_lasts cX8_lasts 3 (some .int) :: GW) rm_X8_lasts (PcW G cs [.ref a_t, .int p1] (wd_X8_lasts cs a_t a_t_house a_t_draft a_t_reader a_t_laws a_t_standing a_t_imageZero a_t_imageOne a_t_rounds a_t_ways a_t_margins a_t_marks a_t_house_turn a_t_house_bent a_t_standing_rows a_t_rounds_laws a_t_rounds_laws_made r_t_standing_rows v_t_keptZero v_t_keptOne v_t_target v_t_house_opinions v_t_house_lines v_t_house_books v_t_house_told v_t_house_scribes v_t_house_need v_t_standing_known g_t_standing_rows v_t_rounds_book v_t_rounds_copies v_t_rounds_ender v_t_rounds_goesOn v_t_rounds_laws_scribes v_t_rounds_laws_books g_t_rounds_laws_made) sz) (QcI G (va_A (wd_X8_lasts cs a_t a_t_house a_t_draft a_t_reader a_t_laws a_t_standing a_t_imageZero a_t_imageOne a_t_rounds a_t_ways a_t_margins a_t_marks a_t_house_turn a_t_house_bent a_t_standing_rows a_t_rounds_laws a_t_rounds_laws_made r_t_standing_rows v_t_keptZero v_t_keptOne v_t_target v_t_house_opinions v_t_house_lines v_t_house_books v_t_house_told v_t_house_scribes v_t_house_need v_t_standing_known g_t_standing_rows v_t_rounds_book v_t_rounds_copies v_t_rounds_ender v_t_rounds_goesOn v_t_rounds_laws_scribes v_t_rounds_laws_books g_t_rounds_laws_made) sz) (wd_X8_lasts cs a_t a_t_house a_t_draft a_t_reader a_t_laws a_t_standing a_t_imageZero a_t_imageOne a_t_rounds a_t_ways a_t_margins a_t_marks a_t_house_turn a_t_house_bent a_t_standing_rows a_t_rounds_laws a_t_rounds_laws_made r_t_standing_rows v_t_keptZero v_t_keptOne v_t_target v_t_house_opinions v_t_house_lines v_t_house_books v_t_house_told v_t_house_scribes v_t_house_need v_t_standing_known g_t_standing_rows R0.2.1 R0.2.2.1 R0.2.2.2.1 R0.2.2.2.2 v_t_rounds_laws_scribes v_t_rounds_laws_books g_t_rounds_laws_made) R0.1) 0 0 (va_A (wd_X8_lasts cs a_t a_t_house a_t_draft a_t_reader a_t_laws a_t_standing a_t_imageZero a_t_imageOne a_t_rounds a_t_ways a_t_margins a_t_marks a_t_house_turn a_t_house_bent a_t_standing_rows a_t_rounds_laws a_t_rounds_laws_made r_t_standing_rows v_t_keptZero v_t_keptOne v_t_target v_t_house_opinions v_t_house_lines v_t_house_books v_t_house_told v_t_house_scribes v_t_house_need v_t_standing_known g_t_standing_rows v_t_rounds_book v_t_rounds_copies v_t_rounds_ender v_t_rounds_goesOn v_t_rounds_laws_scribes v_t_rounds_laws_books g_t_rounds_laws_made) sz) := by
  refine Met.ofW (cc := cX8_lasts) (maxL := 3) (ret := (some .int)) (by decide) rfl ?_
  intro p e s m args below meth c s₁ B hml hv
  obtain ⟨rfl, hsz, hP, hD0, hK, hN⟩ := hv
  have hx := B.exec
  have hb := B.bytes
  have hr := B.returns
  have hts := atoms_spec (ws := .code yX8_lasts cX8_lasts 3 (some .int) :: GW) B.pre
  have hg : ∀ w ∈ GW, w.before _ s = true := fun w h => hts w (List.mem_cons_of_mem _ h)
  have hown : s.vm.findClass RX8 = some m.cls := findClass_of_methodNamed B.named
  have hlocks := B.notSynchronized
  subst hsz
  have hD := hD0.self (sz := s.heap.size)
  generalize hAe : va_A (wd_X8_lasts cs a_t a_t_house a_t_draft a_t_reader a_t_laws a_t_standing a_t_imageZero a_t_imageOne a_t_rounds a_t_ways a_t_margins a_t_marks a_t_house_turn a_t_house_bent a_t_standing_rows a_t_rounds_laws a_t_rounds_laws_made r_t_standing_rows v_t_keptZero v_t_keptOne v_t_target v_t_house_opinions v_t_house_lines v_t_house_books v_t_house_told v_t_house_scribes v_t_house_need v_t_standing_known g_t_standing_rows v_t_rounds_book v_t_rounds_copies v_t_rounds_ender v_t_rounds_goesOn v_t_rounds_laws_scribes v_t_rounds_laws_books g_t_rounds_laws_made) s.heap.size = A at hD ⊢
  have hA : ∀ q : Nat, s.heap.size ≤ q → A q := fun q h => by rw [← hAe]; exact Or.inr h
  have hS : va_S A s.heap s.heap [] := va_S.rf
  have hl := lv_entry ([.ref a_t, .int p1]) (n := 3) (Nat.le_of_ble_eq_true rfl)
  rw [lg_entry_eq]
  generalize (lg_sl ([.ref a_t, .int p1]) ++ List.replicate (3 - (lg_sl ([.ref a_t, .int p1])).length) Slot.unset).toArray = ls at hl ⊢
  have hl : lv_has ls 3 [(0, .ref a_t), (1, .int p1)] := hl
  obtain ⟨y, hB, hK0⟩ : ∃ y, f_X8_lasts v_t_house_lines v_t_house_scribes v_t_standing_known g_t_standing_rows v_t_rounds_book v_t_rounds_copies v_t_rounds_ender v_t_rounds_goesOn v_t_rounds_laws_scribes v_t_rounds_laws_books g_t_rounds_laws_made p1 = some y ∧ KEnd R0 y := ⟨R0, hB, rfl⟩
  have hKT := hK
  have hK := hK0
  obtain ⟨H, hHe⟩ : ∃ H, H = s.heap := ⟨_, rfl⟩
  obtain ⟨locs, hLe⟩ : ∃ L : List Loc, L = [] := ⟨_, rfl⟩
  rw [← hHe] at hP
  have hS : va_S A s.heap H locs := by rw [hHe, hLe]; exact hS
  show W p l e rm_X8_lasts s m ([.ref a_t, .int p1] : List Value).toArray below meth c s.heap [] 0 0 _ _
  suffices hgo : W p l e rm_X8_lasts s m ([.ref a_t, .int p1] : List Value).toArray below meth c H locs 0 0 (MQ below (QcI G A (wd_X8_lasts cs a_t a_t_house a_t_draft a_t_reader a_t_laws a_t_standing a_t_imageZero a_t_imageOne a_t_rounds a_t_ways a_t_margins a_t_marks a_t_house_turn a_t_house_bent a_t_standing_rows a_t_rounds_laws a_t_rounds_laws_made r_t_standing_rows v_t_keptZero v_t_keptOne v_t_target v_t_house_opinions v_t_house_lines v_t_house_books v_t_house_told v_t_house_scribes v_t_house_need v_t_standing_known g_t_standing_rows R0.2.1 R0.2.2.1 R0.2.2.2.1 R0.2.2.2.2 v_t_rounds_laws_scribes v_t_rounds_laws_books g_t_rounds_laws_made) R0.1) ([.ref a_t, .int p1] : List Value).toArray s 0 0 A) (F0 m 0 ls []) by rw [hHe, hLe] at hgo; exact hgo
  refine lv_iload_n hx hb dX8_lasts_0 rfl (lv_at hl 1 rfl) ?_
  refine lv_if_lt (tgt := 9) hx hb dX8_lasts_1 (by decide) (fun c_1 => ?_) (fun c_1 => ?_)
  · have hB := ifP c_1 hB
    refine lv_iconst (v := -1) hx hb dX8_lasts_9 (by decide) ?_
    have hK := leafK hB hK
    have hK : ((-1 : Int32), v_t_rounds_book, v_t_rounds_copies, v_t_rounds_ender, v_t_rounds_goesOn) = R0 := hK
    subst hK
    exact W.iret (v := (-1 : Int32)) hx hb hr (fun t ht hW => ⟨⟨_, (), rfl, rfl, by rw [ht]; exact hP, hD⟩, hS.F ht⟩) hS.2.2 dX8_lasts_10
  · have hB := ifN c_1 hB
    refine lv_iload_n hx hb dX8_lasts_4 rfl (lv_at hl 1 rfl) ?_
    refine lv_iconst (v := 1) hx hb dX8_lasts_5 (by decide) ?_
    refine lv_icmp_le (tgt := 11) hx hb dX8_lasts_6 (by decide) (fun c_2 => ?_) (fun c_2 => ?_)
    · have hB := ifP c_2 hB
      refine lv_aload_n hx hb dX8_lasts_11 rfl (lv_at hl 0 rfl) ?_
      refine va_get (D := G) (ci := 8) (v := .ref a_t_house) (C := RX8) (T := TX8) (N := 14) hx hb hg inX8 hown hKT hP 0 rfl rfl 0 (by decide) (hg _ gF_X8_10) (fun _ h9 => h9) rfl dX8_lasts_12 ?_
      refine va_getN (D := G) (ci := 0) (v := .int v_t_house_lines) (C := RX0) (T := TX0) (N := 8) hx hb hg inX0 hown hKT hP 1 rfl rfl 1 (by decide) (va_Nw.use rfl (hN _ nF_X8_234_l rfl)) (fun _ h9 => h9) rfl dX8_lasts_15 ?_
      refine lv_if_eq (tgt := 28) hx hb dX8_lasts_18 (by decide) (fun c_3 => ?_) (fun c_3 => ?_)
      · have hB := ifP c_3 hB
        refine lv_bipush (v := -9) hx hb dX8_lasts_28 (by decide) ?_
        have hK := leafK hB hK
        have hK : ((-9 : Int32), v_t_rounds_book, v_t_rounds_copies, v_t_rounds_ender, v_t_rounds_goesOn) = R0 := hK
        subst hK
        exact W.iret (v := (-9 : Int32)) hx hb hr (fun t ht hW => ⟨⟨_, (), rfl, rfl, by rw [ht]; exact hP, hD⟩, hS.F ht⟩) hS.2.2 dX8_lasts_30
      · have hB := ifN c_3 hB
        refine lv_aload_n hx hb dX8_lasts_21 rfl (lv_at hl 0 rfl) ?_
        obtain ⟨q4, hq4, hB⟩ := bnd hB
        refine kr_V (WC := wd_X8_bought cs a_t a_t_house a_t_draft a_t_reader a_t_laws a_t_standing a_t_imageZero a_t_imageOne a_t_rounds a_t_ways a_t_margins a_t_marks a_t_house_turn a_t_house_bent a_t_standing_rows r_t_standing_rows v_t_keptZero v_t_keptOne v_t_target v_t_house_opinions v_t_house_lines v_t_house_books v_t_house_told v_t_house_scribes v_t_house_need v_t_standing_known g_t_standing_rows) (As := []) (rest := []) (r0 := q4) ⟨hx, hb, hml, hown, hg⟩ (k_X8_bought l G cs a_t a_t_house a_t_draft a_t_reader a_t_laws a_t_standing a_t_imageZero a_t_imageOne a_t_rounds a_t_ways a_t_margins a_t_marks a_t_house_turn a_t_house_bent a_t_standing_rows r_t_standing_rows v_t_keptZero v_t_keptOne v_t_target v_t_house_opinions v_t_house_lines v_t_house_books v_t_house_told v_t_house_scribes v_t_house_need v_t_standing_known g_t_standing_rows q4 hq4) gM_X8_213 mI_X8_bought (rmk rfl) hP hKT hN 0 rfl rfl [0, 1, 2, 3, 4, 5, 6, 7, 8, 9, 10, 11, 12, 13, 14] rfl rfl hl.1 rfl (Nat.le_of_ble_eq_true rfl) dX8_lasts_22 ?_
        refine lv_if_ne (tgt := 31) hx hb dX8_lasts_25 (by decide) (fun c_5 => ?_) (fun c_5 => ?_)
        · have hB := ifN c_5 hB
          refine lv_aload_n hx hb dX8_lasts_31 rfl (lv_at hl 0 rfl) ?_
          refine va_get (D := G) (ci := 8) (v := .ref a_t_rounds) (C := RX8) (T := TX8) (N := 14) hx hb hg inX8 hown hKT hP 0 rfl rfl 10 (by decide) (hg _ gF_X8_51) (fun _ h9 => h9) rfl dX8_lasts_32 ?_
          refine lv_aload_n hx hb dX8_lasts_35 rfl (lv_at hl 0 rfl) ?_
          obtain ⟨q6, hq6, hB⟩ := bnd hB
          refine kr_V (WC := wd_X8_bought cs a_t a_t_house a_t_draft a_t_reader a_t_laws a_t_standing a_t_imageZero a_t_imageOne a_t_rounds a_t_ways a_t_margins a_t_marks a_t_house_turn a_t_house_bent a_t_standing_rows r_t_standing_rows v_t_keptZero v_t_keptOne v_t_target v_t_house_opinions v_t_house_lines v_t_house_books v_t_house_told v_t_house_scribes v_t_house_need v_t_standing_known g_t_standing_rows) (As := []) (rest := [.ref a_t_rounds]) (r0 := q6) ⟨hx, hb, hml, hown, hg⟩ (k_X8_bought l G cs a_t a_t_house a_t_draft a_t_reader a_t_laws a_t_standing a_t_imageZero a_t_imageOne a_t_rounds a_t_ways a_t_margins a_t_marks a_t_house_turn a_t_house_bent a_t_standing_rows r_t_standing_rows v_t_keptZero v_t_keptOne v_t_target v_t_house_opinions v_t_house_lines v_t_house_books v_t_house_told v_t_house_scribes v_t_house_need v_t_standing_known g_t_standing_rows q6 hq6) gM_X8_213 mI_X8_bought (rmk rfl) hP hKT hN 0 rfl rfl [0, 1, 2, 3, 4, 5, 6, 7, 8, 9, 10, 11, 12, 13, 14] rfl rfl hl.1 rfl (Nat.le_of_ble_eq_true rfl) dX8_lasts_36 ?_
          obtain ⟨⟨q7_0, q7_1, q7_2, q7_3, q7_4⟩, hq7, hB⟩ := bnd hB
          refine kw_i (WC := wd_X5_longestBook cs a_t_rounds a_t_rounds_laws a_t_rounds_laws_made v_t_rounds_book v_t_rounds_copies v_t_rounds_ender v_t_rounds_goesOn v_t_rounds_laws_scribes v_t_rounds_laws_books g_t_rounds_laws_made) (W1 := wd_X5_longestBook cs a_t_rounds a_t_rounds_laws a_t_rounds_laws_made q7_1 q7_2 q7_3 q7_4 v_t_rounds_laws_scribes v_t_rounds_laws_books g_t_rounds_laws_made) (W2 := wd_X8_lasts cs a_t a_t_house a_t_draft a_t_reader a_t_laws a_t_standing a_t_imageZero a_t_imageOne a_t_rounds a_t_ways a_t_margins a_t_marks a_t_house_turn a_t_house_bent a_t_standing_rows a_t_rounds_laws a_t_rounds_laws_made r_t_standing_rows v_t_keptZero v_t_keptOne v_t_target v_t_house_opinions v_t_house_lines v_t_house_books v_t_house_told v_t_house_scribes v_t_house_need v_t_standing_known g_t_standing_rows q7_1 q7_2 q7_3 q7_4 v_t_rounds_laws_scribes v_t_rounds_laws_books g_t_rounds_laws_made) (r0 := q7_0) (rw_VN (As := [.int q6]) (rest := []) ⟨hx, hb, hml, hown, hg⟩ (k_X5_longestBook l G cs a_t_rounds a_t_rounds_laws a_t_rounds_laws_made v_t_rounds_book v_t_rounds_copies v_t_rounds_ender v_t_rounds_goesOn v_t_rounds_laws_scribes v_t_rounds_laws_books g_t_rounds_laws_made q6 H.size (q7_0, q7_1, q7_2, q7_3, q7_4) hq7) nM_X8_237_l mI_X5_longestBook (rmk rfl) hP hD hKT hN 15 rfl rfl [15, 16, 17] rfl rfl rfl hl.1 rfl (Nat.le_of_ble_eq_true rfl) dX8_lasts_39) hP hD hS hA [15, 16, 17] [0, 1, 2, 3, 4, 5, 6, 7, 8, 9, 10, 11, 12, 13, 14] [0, 1, 2, 3, 4, 5, 6, 7, 8, 9, 10, 11, 12, 13, 14, 15, 16, 17] ⟨rfl, rfl, rfl, rfl, rfl, rfl, rfl⟩ (fun H locs hP hD hS => ?_)
          refine lv_istore_n (lv' := [(2, .int q7_0), (0, .ref a_t), (1, .int p1)]) hx hb dX8_lasts_42 rfl hl (by decide) rfl (fun ls hl => ?_)
          refine lv_iload_n hx hb dX8_lasts_43 rfl (lv_at hl 0 rfl) ?_
          refine lv_bipush (v := -9) hx hb dX8_lasts_44 (by decide) ?_
          refine lv_icmp_eq (tgt := 53) hx hb dX8_lasts_46 (by decide) (fun c_8 => ?_) (fun c_8 => ?_)
          · have hB := ifP c_8 hB
            refine lv_iload_n hx hb dX8_lasts_53 rfl (lv_at hl 0 rfl) ?_
            have hK := leafK hB hK
            have hK : (q7_0, q7_1, q7_2, q7_3, q7_4) = R0 := hK
            subst hK
            exact W.iret (v := q7_0) hx hb hr (fun t ht hW => ⟨⟨_, (), rfl, rfl, by rw [ht]; exact hP, hD⟩, hS.F ht⟩) hS.2.2 dX8_lasts_54
          · have hB := ifN c_8 hB
            refine lv_iload_n hx hb dX8_lasts_49 rfl (lv_at hl 2 rfl) ?_
            refine lv_if_ne (tgt := 55) hx hb dX8_lasts_50 (by decide) (fun c_9 => ?_) (fun c_9 => ?_)
            · have hB := ifN c_9 hB
              refine lv_aload_n hx hb dX8_lasts_55 rfl (lv_at hl 1 rfl) ?_
              refine va_get (D := G) (ci := 8) (v := .ref a_t_rounds) (C := RX8) (T := TX8) (N := 14) hx hb hg inX8 hown hKT hP 0 rfl rfl 10 (by decide) (hg _ gF_X8_51) (fun _ h9 => h9) rfl dX8_lasts_56 ?_
              refine lv_iload_n hx hb dX8_lasts_59 rfl (lv_at hl 0 rfl) ?_
              refine lv_aload_n hx hb dX8_lasts_60 rfl (lv_at hl 1 rfl) ?_
              obtain ⟨q10, hq10, hB⟩ := bnd hB
              refine kr_V (WC := wd_X8_bought cs a_t a_t_house a_t_draft a_t_reader a_t_laws a_t_standing a_t_imageZero a_t_imageOne a_t_rounds a_t_ways a_t_margins a_t_marks a_t_house_turn a_t_house_bent a_t_standing_rows r_t_standing_rows v_t_keptZero v_t_keptOne v_t_target v_t_house_opinions v_t_house_lines v_t_house_books v_t_house_told v_t_house_scribes v_t_house_need v_t_standing_known g_t_standing_rows) (As := []) (rest := [.int q7_0, .ref a_t_rounds]) (r0 := q10) ⟨hx, hb, hml, hown, hg⟩ (k_X8_bought l G cs a_t a_t_house a_t_draft a_t_reader a_t_laws a_t_standing a_t_imageZero a_t_imageOne a_t_rounds a_t_ways a_t_margins a_t_marks a_t_house_turn a_t_house_bent a_t_standing_rows r_t_standing_rows v_t_keptZero v_t_keptOne v_t_target v_t_house_opinions v_t_house_lines v_t_house_books v_t_house_told v_t_house_scribes v_t_house_need v_t_standing_known g_t_standing_rows q10 hq10) gM_X8_213 mI_X8_bought (rmk rfl) hP hKT hN 0 rfl rfl [0, 1, 2, 3, 4, 5, 6, 7, 8, 9, 10, 11, 12, 13, 14] rfl rfl hl.1 rfl (Nat.le_of_ble_eq_true rfl) dX8_lasts_61 ?_
              obtain ⟨⟨q11_0, q11_1, q11_2, q11_3⟩, hq11, hB⟩ := bnd hB
              refine kw_v (WC := wd_X5_runToEnd cs a_t_rounds a_t_rounds_laws a_t_rounds_laws_made q7_1 q7_2 q7_3 q7_4 v_t_rounds_laws_scribes v_t_rounds_laws_books g_t_rounds_laws_made) (W1 := wd_X5_runToEnd cs a_t_rounds a_t_rounds_laws a_t_rounds_laws_made q11_0 q11_1 q11_2 q11_3 v_t_rounds_laws_scribes v_t_rounds_laws_books g_t_rounds_laws_made) (W2 := wd_X8_lasts cs a_t a_t_house a_t_draft a_t_reader a_t_laws a_t_standing a_t_imageZero a_t_imageOne a_t_rounds a_t_ways a_t_margins a_t_marks a_t_house_turn a_t_house_bent a_t_standing_rows a_t_rounds_laws a_t_rounds_laws_made r_t_standing_rows v_t_keptZero v_t_keptOne v_t_target v_t_house_opinions v_t_house_lines v_t_house_books v_t_house_told v_t_house_scribes v_t_house_need v_t_standing_known g_t_standing_rows q11_0 q11_1 q11_2 q11_3 v_t_rounds_laws_scribes v_t_rounds_laws_books g_t_rounds_laws_made) (rw_VN (As := [.int q7_0, .int q10]) (rest := []) ⟨hx, hb, hml, hown, hg⟩ (k_X5_runToEnd l G cs a_t_rounds a_t_rounds_laws a_t_rounds_laws_made q7_1 q7_2 q7_3 q7_4 v_t_rounds_laws_scribes v_t_rounds_laws_books g_t_rounds_laws_made q7_0 q10 H.size (q11_0, q11_1, q11_2, q11_3) hq11) nM_X8_222_l mI_X5_runToEnd (rmk rfl) hP hD hKT hN 15 rfl rfl [15, 16, 17] rfl rfl rfl hl.1 rfl (Nat.le_of_ble_eq_true rfl) dX8_lasts_64) hP hD hS hA [15, 16, 17] [0, 1, 2, 3, 4, 5, 6, 7, 8, 9, 10, 11, 12, 13, 14] [0, 1, 2, 3, 4, 5, 6, 7, 8, 9, 10, 11, 12, 13, 14, 15, 16, 17] ⟨rfl, rfl, rfl, rfl, rfl, rfl, rfl⟩ (fun H locs hP hD hS => ?_)
              refine lv_aload_n hx hb dX8_lasts_67 rfl (lv_at hl 1 rfl) ?_
              refine va_get (D := G) (ci := 8) (v := .ref a_t_rounds) (C := RX8) (T := TX8) (N := 14) hx hb hg inX8 hown hKT hP 0 rfl rfl 10 (by decide) (hg _ gF_X8_51) (fun _ h9 => h9) rfl dX8_lasts_68 ?_
              refine va_getN (D := G) (ci := 5) (v := .int q11_1) (C := RX5) (T := TX5) (N := 5) hx hb hg inX5 hown hKT hP 15 rfl rfl 2 (by decide) (va_Nw.use rfl (hN _ nF_X8_231_l rfl)) (fun _ h9 => h9) rfl dX8_lasts_71 ?_
              have hK := leafK hB hK
              have hK : (q11_1, q11_0, q11_1, q11_2, q11_3) = R0 := hK
              subst hK
              exact W.iret (v := q11_1) hx hb hr (fun t ht hW => ⟨⟨_, (), rfl, rfl, by rw [ht]; exact hP, hD⟩, hS.F ht⟩) hS.2.2 dX8_lasts_74
            · have hB := ifP c_9 hB
              refine lv_iload_n hx hb dX8_lasts_53 rfl (lv_at hl 0 rfl) ?_
              have hK := leafK hB hK
              have hK : (q7_0, q7_1, q7_2, q7_3, q7_4) = R0 := hK
              subst hK
              exact W.iret (v := q7_0) hx hb hr (fun t ht hW => ⟨⟨_, (), rfl, rfl, by rw [ht]; exact hP, hD⟩, hS.F ht⟩) hS.2.2 dX8_lasts_54
        · have hB := ifP c_5 hB
          refine lv_bipush (v := -9) hx hb dX8_lasts_28 (by decide) ?_
          have hK := leafK hB hK
          have hK : ((-9 : Int32), v_t_rounds_book, v_t_rounds_copies, v_t_rounds_ender, v_t_rounds_goesOn) = R0 := hK
          subst hK
          exact W.iret (v := (-9 : Int32)) hx hb hr (fun t ht hW => ⟨⟨_, (), rfl, rfl, by rw [ht]; exact hP, hD⟩, hS.F ht⟩) hS.2.2 dX8_lasts_30
    · have hB := ifN c_2 hB
      refine lv_iconst (v := -1) hx hb dX8_lasts_9 (by decide) ?_
      have hK := leafK hB hK
      have hK : ((-1 : Int32), v_t_rounds_book, v_t_rounds_copies, v_t_rounds_ender, v_t_rounds_goesOn) = R0 := hK
      subst hK
      exact W.iret (v := (-1 : Int32)) hx hb hr (fun t ht hW => ⟨⟨_, (), rfl, rfl, by rw [ht]; exact hP, hD⟩, hS.F ht⟩) hS.2.2 dX8_lasts_10
def wd_X8_buy (cs : Nat → ClassId) (a_t a_t_house a_t_draft a_t_reader a_t_laws a_t_standing a_t_imageZero a_t_imageOne a_t_rounds a_t_ways a_t_margins a_t_marks a_t_house_turn a_t_house_bent a_t_standing_rows a_t_rounds_laws a_t_rounds_laws_made : Nat) (r_t_standing_rows : Nat → Nat) (v_t_keptZero : Int32) (v_t_keptOne : Int32) (v_t_target : Int32) (v_t_house_opinions : Int32) (v_t_house_lines : Int32) (v_t_house_books : Int32) (v_t_house_told : Int32) (v_t_house_scribes : Int32) (v_t_house_need : Int32) (v_t_standing_known : Int32) (g_t_standing_rows : Nat → Nat → Int32) (v_t_rounds_book : Int32) (v_t_rounds_copies : Int32) (v_t_rounds_ender : Int32) (v_t_rounds_goesOn : Int32) (v_t_rounds_laws_scribes : Int32) (v_t_rounds_laws_books : Int32) (g_t_rounds_laws_made : Nat → Int32) : va_W := [(a_t, .inr (8, [.ref a_t_house, .ref a_t_draft, .ref a_t_reader, .ref a_t_laws, .ref a_t_standing, .ref a_t_imageZero, .ref a_t_imageOne, .int v_t_keptZero, .int v_t_keptOne, .int v_t_target, .ref a_t_rounds, .ref a_t_ways, .ref a_t_margins, .ref a_t_marks])), (a_t_house, .inr (0, [.int v_t_house_opinions, .int v_t_house_lines, .int v_t_house_books, .int v_t_house_told, .int v_t_house_scribes, .int v_t_house_need, .ref a_t_house_turn, .ref a_t_house_bent])), (a_t_standing, .inr (6, [.ref a_t_standing_rows, .int v_t_standing_known])), (a_t_standing_rows, .inl (cs 3, 11, .inr (.inr (.inr (.inr (gO r_t_standing_rows)))))), (r_t_standing_rows 0, .inl (cs 0, 9, .inl (g_t_standing_rows 0))), (r_t_standing_rows 1, .inl (cs 0, 9, .inl (g_t_standing_rows 1))), (r_t_standing_rows 2, .inl (cs 0, 9, .inl (g_t_standing_rows 2))), (r_t_standing_rows 3, .inl (cs 0, 9, .inl (g_t_standing_rows 3))), (r_t_standing_rows 4, .inl (cs 0, 9, .inl (g_t_standing_rows 4))), (r_t_standing_rows 5, .inl (cs 0, 9, .inl (g_t_standing_rows 5))), (r_t_standing_rows 6, .inl (cs 0, 9, .inl (g_t_standing_rows 6))), (r_t_standing_rows 7, .inl (cs 0, 9, .inl (g_t_standing_rows 7))), (r_t_standing_rows 8, .inl (cs 0, 9, .inl (g_t_standing_rows 8))), (r_t_standing_rows 9, .inl (cs 0, 9, .inl (g_t_standing_rows 9))), (r_t_standing_rows 10, .inl (cs 0, 9, .inl (g_t_standing_rows 10))), (a_t_rounds, .inr (5, [.ref a_t_rounds_laws, .int v_t_rounds_book, .int v_t_rounds_copies, .int v_t_rounds_ender, .int v_t_rounds_goesOn])), (a_t_rounds_laws, .inr (1, [.ref a_t_rounds_laws_made, .int v_t_rounds_laws_scribes, .int v_t_rounds_laws_books])), (a_t_rounds_laws_made, .inl (cs 0, 3750, .inl g_t_rounds_laws_made))]
def rm_X8_buy : Room := { frames := 4, cells := 0, slots := 0, locals := 98 }
theorem mI_X8_buy : MI yX8_buy RX8 cX8_buy 2 (some .int) 1 := ⟨gI_X8_buy, gE_X8_buy, gN_X8, gC_X8_buy, by decide +kernel⟩
set_option maxHeartbeats 4000000 in
set_option maxRecDepth 100000 in
theorem k_X8_buy (l : Launch) (G : va_G) (cs : Nat → ClassId) (a_t a_t_house a_t_draft a_t_reader a_t_laws a_t_standing a_t_imageZero a_t_imageOne a_t_rounds a_t_ways a_t_margins a_t_marks a_t_house_turn a_t_house_bent a_t_standing_rows a_t_rounds_laws a_t_rounds_laws_made : Nat) (r_t_standing_rows : Nat → Nat) (v_t_keptZero : Int32) (v_t_keptOne : Int32) (v_t_target : Int32) (v_t_house_opinions : Int32) (v_t_house_lines : Int32) (v_t_house_books : Int32) (v_t_house_told : Int32) (v_t_house_scribes : Int32) (v_t_house_need : Int32) (v_t_standing_known : Int32) (g_t_standing_rows : Nat → Nat → Int32) (v_t_rounds_book : Int32) (v_t_rounds_copies : Int32) (v_t_rounds_ender : Int32) (v_t_rounds_goesOn : Int32) (v_t_rounds_laws_scribes : Int32) (v_t_rounds_laws_books : Int32) (g_t_rounds_laws_made : Nat → Int32) (p1 : Int32) (sz : Nat) (R0 : Int32 × Int32 × Int32 × Int32 × Int32) (hB : f_X8_buy v_t_house_scribes v_t_standing_known g_t_standing_rows v_t_rounds_book v_t_rounds_copies v_t_rounds_ender v_t_rounds_goesOn v_t_rounds_laws_scribes v_t_rounds_laws_books g_t_rounds_laws_made p1 = some R0) : Met l yX8_buy (.code yX8_buy cX8_buy 2 (some .int) :: GW) rm_X8_buy (PcW G cs [.ref a_t, .int p1] (wd_X8_buy cs a_t a_t_house a_t_draft a_t_reader a_t_laws a_t_standing a_t_imageZero a_t_imageOne a_t_rounds a_t_ways a_t_margins a_t_marks a_t_house_turn a_t_house_bent a_t_standing_rows a_t_rounds_laws a_t_rounds_laws_made r_t_standing_rows v_t_keptZero v_t_keptOne v_t_target v_t_house_opinions v_t_house_lines v_t_house_books v_t_house_told v_t_house_scribes v_t_house_need v_t_standing_known g_t_standing_rows v_t_rounds_book v_t_rounds_copies v_t_rounds_ender v_t_rounds_goesOn v_t_rounds_laws_scribes v_t_rounds_laws_books g_t_rounds_laws_made) sz) (QcI G (va_A (wd_X8_buy cs a_t a_t_house a_t_draft a_t_reader a_t_laws a_t_standing a_t_imageZero a_t_imageOne a_t_rounds a_t_ways a_t_margins a_t_marks a_t_house_turn a_t_house_bent a_t_standing_rows a_t_rounds_laws a_t_rounds_laws_made r_t_standing_rows v_t_keptZero v_t_keptOne v_t_target v_t_house_opinions v_t_house_lines v_t_house_books v_t_house_told v_t_house_scribes v_t_house_need v_t_standing_known g_t_standing_rows v_t_rounds_book v_t_rounds_copies v_t_rounds_ender v_t_rounds_goesOn v_t_rounds_laws_scribes v_t_rounds_laws_books g_t_rounds_laws_made) sz) (wd_X8_buy cs a_t a_t_house a_t_draft a_t_reader a_t_laws a_t_standing a_t_imageZero a_t_imageOne a_t_rounds a_t_ways a_t_margins a_t_marks a_t_house_turn a_t_house_bent a_t_standing_rows a_t_rounds_laws a_t_rounds_laws_made r_t_standing_rows v_t_keptZero v_t_keptOne v_t_target v_t_house_opinions v_t_house_lines v_t_house_books v_t_house_told v_t_house_scribes v_t_house_need v_t_standing_known g_t_standing_rows R0.2.1 R0.2.2.1 R0.2.2.2.1 R0.2.2.2.2 v_t_rounds_laws_scribes v_t_rounds_laws_books g_t_rounds_laws_made) R0.1) 0 0 (va_A (wd_X8_buy cs a_t a_t_house a_t_draft a_t_reader a_t_laws a_t_standing a_t_imageZero a_t_imageOne a_t_rounds a_t_ways a_t_margins a_t_marks a_t_house_turn a_t_house_bent a_t_standing_rows a_t_rounds_laws a_t_rounds_laws_made r_t_standing_rows v_t_keptZero v_t_keptOne v_t_target v_t_house_opinions v_t_house_lines v_t_house_books v_t_house_told v_t_house_scribes v_t_house_need v_t_standing_known g_t_standing_rows v_t_rounds_book v_t_rounds_copies v_t_rounds_ender v_t_rounds_goesOn v_t_rounds_laws_scribes v_t_rounds_laws_books g_t_rounds_laws_made) sz) := by
  refine Met.ofW (cc := cX8_buy) (maxL := 2) (ret := (some .int)) (by decide) rfl ?_
  intro p e s m args below meth c s₁ B hml hv
  obtain ⟨rfl, hsz, hP, hD0, hK, hN⟩ := hv
  have hx := B.exec
  have hb := B.bytes
  have hr := B.returns
  have hts := atoms_spec (ws := .code yX8_buy cX8_buy 2 (some .int) :: GW) B.pre
  have hg : ∀ w ∈ GW, w.before _ s = true := fun w h => hts w (List.mem_cons_of_mem _ h)
  have hown : s.vm.findClass RX8 = some m.cls := findClass_of_methodNamed B.named
  have hlocks := B.notSynchronized
  subst hsz
  have hD := hD0.self (sz := s.heap.size)
  generalize hAe : va_A (wd_X8_buy cs a_t a_t_house a_t_draft a_t_reader a_t_laws a_t_standing a_t_imageZero a_t_imageOne a_t_rounds a_t_ways a_t_margins a_t_marks a_t_house_turn a_t_house_bent a_t_standing_rows a_t_rounds_laws a_t_rounds_laws_made r_t_standing_rows v_t_keptZero v_t_keptOne v_t_target v_t_house_opinions v_t_house_lines v_t_house_books v_t_house_told v_t_house_scribes v_t_house_need v_t_standing_known g_t_standing_rows v_t_rounds_book v_t_rounds_copies v_t_rounds_ender v_t_rounds_goesOn v_t_rounds_laws_scribes v_t_rounds_laws_books g_t_rounds_laws_made) s.heap.size = A at hD ⊢
  have hA : ∀ q : Nat, s.heap.size ≤ q → A q := fun q h => by rw [← hAe]; exact Or.inr h
  have hS : va_S A s.heap s.heap [] := va_S.rf
  have hl := lv_entry ([.ref a_t, .int p1]) (n := 2) (Nat.le_of_ble_eq_true rfl)
  rw [lg_entry_eq]
  generalize (lg_sl ([.ref a_t, .int p1]) ++ List.replicate (2 - (lg_sl ([.ref a_t, .int p1])).length) Slot.unset).toArray = ls at hl ⊢
  have hl : lv_has ls 2 [(0, .ref a_t), (1, .int p1)] := hl
  obtain ⟨y, hB, hK0⟩ : ∃ y, f_X8_buy v_t_house_scribes v_t_standing_known g_t_standing_rows v_t_rounds_book v_t_rounds_copies v_t_rounds_ender v_t_rounds_goesOn v_t_rounds_laws_scribes v_t_rounds_laws_books g_t_rounds_laws_made p1 = some y ∧ KEnd R0 y := ⟨R0, hB, rfl⟩
  have hKT := hK
  have hK := hK0
  obtain ⟨H, hHe⟩ : ∃ H, H = s.heap := ⟨_, rfl⟩
  obtain ⟨locs, hLe⟩ : ∃ L : List Loc, L = [] := ⟨_, rfl⟩
  rw [← hHe] at hP
  have hS : va_S A s.heap H locs := by rw [hHe, hLe]; exact hS
  show W p l e rm_X8_buy s m ([.ref a_t, .int p1] : List Value).toArray below meth c s.heap [] 0 0 _ _
  suffices hgo : W p l e rm_X8_buy s m ([.ref a_t, .int p1] : List Value).toArray below meth c H locs 0 0 (MQ below (QcI G A (wd_X8_buy cs a_t a_t_house a_t_draft a_t_reader a_t_laws a_t_standing a_t_imageZero a_t_imageOne a_t_rounds a_t_ways a_t_margins a_t_marks a_t_house_turn a_t_house_bent a_t_standing_rows a_t_rounds_laws a_t_rounds_laws_made r_t_standing_rows v_t_keptZero v_t_keptOne v_t_target v_t_house_opinions v_t_house_lines v_t_house_books v_t_house_told v_t_house_scribes v_t_house_need v_t_standing_known g_t_standing_rows R0.2.1 R0.2.2.1 R0.2.2.2.1 R0.2.2.2.2 v_t_rounds_laws_scribes v_t_rounds_laws_books g_t_rounds_laws_made) R0.1) ([.ref a_t, .int p1] : List Value).toArray s 0 0 A) (F0 m 0 ls []) by rw [hHe, hLe] at hgo; exact hgo
  refine lv_iload_n hx hb dX8_buy_0 rfl (lv_at hl 1 rfl) ?_
  refine lv_iconst (v := 1) hx hb dX8_buy_1 (by decide) ?_
  refine lv_icmp_lt (tgt := 11) hx hb dX8_buy_2 (by decide) (fun c_1 => ?_) (fun c_1 => ?_)
  · have hB := ifP c_1 hB
    refine lv_iconst (v := -1) hx hb dX8_buy_11 (by decide) ?_
    have hK := leafK hB hK
    have hK : ((-1 : Int32), v_t_rounds_book, v_t_rounds_copies, v_t_rounds_ender, v_t_rounds_goesOn) = R0 := hK
    subst hK
    exact W.iret (v := (-1 : Int32)) hx hb hr (fun t ht hW => ⟨⟨_, (), rfl, rfl, by rw [ht]; exact hP, hD⟩, hS.F ht⟩) hS.2.2 dX8_buy_12
  · have hB := ifN c_1 hB
    refine lv_iload_n hx hb dX8_buy_5 rfl (lv_at hl 1 rfl) ?_
    refine lv_bipush (v := 99) hx hb dX8_buy_6 (by decide) ?_
    refine lv_icmp_le (tgt := 13) hx hb dX8_buy_8 (by decide) (fun c_2 => ?_) (fun c_2 => ?_)
    · have hB := ifP c_2 hB
      refine lv_aload_n hx hb dX8_buy_13 rfl (lv_at hl 0 rfl) ?_
      refine va_get (D := G) (ci := 8) (v := .ref a_t_rounds) (C := RX8) (T := TX8) (N := 14) hx hb hg inX8 hown hKT hP 0 rfl rfl 10 (by decide) (hg _ gF_X8_51) (fun _ h9 => h9) rfl dX8_buy_14 ?_
      refine lv_aload_n hx hb dX8_buy_17 rfl (lv_at hl 0 rfl) ?_
      refine va_get (D := G) (ci := 8) (v := .ref a_t_standing) (C := RX8) (T := TX8) (N := 14) hx hb hg inX8 hown hKT hP 0 rfl rfl 4 (by decide) (hg _ gF_X8_36) (fun _ h9 => h9) rfl dX8_buy_18 ?_
      obtain ⟨q3, hq3, hB⟩ := bnd hB
      refine kr_VN (WC := wd_X6_book cs a_t_standing a_t_standing_rows r_t_standing_rows v_t_standing_known g_t_standing_rows) (As := []) (rest := [.ref a_t_rounds]) (r0 := q3) ⟨hx, hb, hml, hown, hg⟩ (k_X6_book l G cs a_t_standing a_t_standing_rows r_t_standing_rows v_t_standing_known g_t_standing_rows q3 hq3) nM_X8_117_l mI_X6_book (rmk rfl) hP hKT hN 2 rfl rfl [2, 3, 4, 5, 6, 7, 8, 9, 10, 11, 12, 13, 14] rfl rfl hl.1 rfl (Nat.le_of_ble_eq_true rfl) dX8_buy_21 ?_
      refine lv_aload_n hx hb dX8_buy_24 rfl (lv_at hl 0 rfl) ?_
      obtain ⟨q4, hq4, hB⟩ := bnd hB
      refine kr_V (WC := wd_X8_bought cs a_t a_t_house a_t_draft a_t_reader a_t_laws a_t_standing a_t_imageZero a_t_imageOne a_t_rounds a_t_ways a_t_margins a_t_marks a_t_house_turn a_t_house_bent a_t_standing_rows r_t_standing_rows v_t_keptZero v_t_keptOne v_t_target v_t_house_opinions v_t_house_lines v_t_house_books v_t_house_told v_t_house_scribes v_t_house_need v_t_standing_known g_t_standing_rows) (As := []) (rest := [.int q3, .ref a_t_rounds]) (r0 := q4) ⟨hx, hb, hml, hown, hg⟩ (k_X8_bought l G cs a_t a_t_house a_t_draft a_t_reader a_t_laws a_t_standing a_t_imageZero a_t_imageOne a_t_rounds a_t_ways a_t_margins a_t_marks a_t_house_turn a_t_house_bent a_t_standing_rows r_t_standing_rows v_t_keptZero v_t_keptOne v_t_target v_t_house_opinions v_t_house_lines v_t_house_books v_t_house_told v_t_house_scribes v_t_house_need v_t_standing_known g_t_standing_rows q4 hq4) gM_X8_213 mI_X8_bought (rmk rfl) hP hKT hN 0 rfl rfl [0, 1, 2, 3, 4, 5, 6, 7, 8, 9, 10, 11, 12, 13, 14] rfl rfl hl.1 rfl (Nat.le_of_ble_eq_true rfl) dX8_buy_25 ?_
      refine lv_aload_n hx hb dX8_buy_28 rfl (lv_at hl 0 rfl) ?_
      refine va_get (D := G) (ci := 8) (v := .ref a_t_standing) (C := RX8) (T := TX8) (N := 14) hx hb hg inX8 hown hKT hP 0 rfl rfl 4 (by decide) (hg _ gF_X8_36) (fun _ h9 => h9) rfl dX8_buy_29 ?_
      obtain ⟨q5, hq5, hB⟩ := bnd hB
      refine kr_VN (WC := wd_X6_released cs a_t_standing a_t_standing_rows r_t_standing_rows v_t_standing_known g_t_standing_rows) (As := []) (rest := [.int q4, .int q3, .ref a_t_rounds]) (r0 := q5) ⟨hx, hb, hml, hown, hg⟩ (k_X6_released l G cs a_t_standing a_t_standing_rows r_t_standing_rows v_t_standing_known g_t_standing_rows q5 hq5) nM_X8_179_l mI_X6_released (rmk rfl) hP hKT hN 2 rfl rfl [2, 3, 4, 5, 6, 7, 8, 9, 10, 11, 12, 13, 14] rfl rfl hl.1 rfl (Nat.le_of_ble_eq_true rfl) dX8_buy_32 ?_
      refine lv_iload_n hx hb dX8_buy_35 rfl (lv_at hl 1 rfl) ?_
      obtain ⟨⟨q6_0, q6_1, q6_2, q6_3, q6_4⟩, hq6, hB⟩ := bnd hB
      refine kw_i (WC := wd_X5_fewestToBuy cs a_t_rounds a_t_rounds_laws a_t_rounds_laws_made v_t_rounds_book v_t_rounds_copies v_t_rounds_ender v_t_rounds_goesOn v_t_rounds_laws_scribes v_t_rounds_laws_books g_t_rounds_laws_made) (W1 := wd_X5_fewestToBuy cs a_t_rounds a_t_rounds_laws a_t_rounds_laws_made q6_1 q6_2 q6_3 q6_4 v_t_rounds_laws_scribes v_t_rounds_laws_books g_t_rounds_laws_made) (W2 := wd_X8_buy cs a_t a_t_house a_t_draft a_t_reader a_t_laws a_t_standing a_t_imageZero a_t_imageOne a_t_rounds a_t_ways a_t_margins a_t_marks a_t_house_turn a_t_house_bent a_t_standing_rows a_t_rounds_laws a_t_rounds_laws_made r_t_standing_rows v_t_keptZero v_t_keptOne v_t_target v_t_house_opinions v_t_house_lines v_t_house_books v_t_house_told v_t_house_scribes v_t_house_need v_t_standing_known g_t_standing_rows q6_1 q6_2 q6_3 q6_4 v_t_rounds_laws_scribes v_t_rounds_laws_books g_t_rounds_laws_made) (r0 := q6_0) (rw_VN (As := [.int q3, .int q4, .int q5, .int p1]) (rest := []) ⟨hx, hb, hml, hown, hg⟩ (k_X5_fewestToBuy l G cs a_t_rounds a_t_rounds_laws a_t_rounds_laws_made v_t_rounds_book v_t_rounds_copies v_t_rounds_ender v_t_rounds_goesOn v_t_rounds_laws_scribes v_t_rounds_laws_books g_t_rounds_laws_made q3 q4 q5 p1 H.size (q6_0, q6_1, q6_2, q6_3, q6_4) hq6) nM_X8_240_l mI_X5_fewestToBuy (rmk rfl) hP hD hKT hN 15 rfl rfl [15, 16, 17] rfl rfl rfl hl.1 rfl (Nat.le_of_ble_eq_true rfl) dX8_buy_36) hP hD hS hA [15, 16, 17] [0, 1, 2, 3, 4, 5, 6, 7, 8, 9, 10, 11, 12, 13, 14] [0, 1, 2, 3, 4, 5, 6, 7, 8, 9, 10, 11, 12, 13, 14, 15, 16, 17] ⟨rfl, rfl, rfl, rfl, rfl, rfl, rfl⟩ (fun H locs hP hD hS => ?_)
      have hK := leafK hB hK
      have hK : (q6_0, q6_1, q6_2, q6_3, q6_4) = R0 := hK
      subst hK
      exact W.iret (v := q6_0) hx hb hr (fun t ht hW => ⟨⟨_, (), rfl, rfl, by rw [ht]; exact hP, hD⟩, hS.F ht⟩) hS.2.2 dX8_buy_39
    · have hB := ifN c_2 hB
      refine lv_iconst (v := -1) hx hb dX8_buy_11 (by decide) ?_
      have hK := leafK hB hK
      have hK : ((-1 : Int32), v_t_rounds_book, v_t_rounds_copies, v_t_rounds_ender, v_t_rounds_goesOn) = R0 := hK
      subst hK
      exact W.iret (v := (-1 : Int32)) hx hb hr (fun t ht hW => ⟨⟨_, (), rfl, rfl, by rw [ht]; exact hP, hD⟩, hS.F ht⟩) hS.2.2 dX8_buy_12
def wd_X8_commonDivisor (cs : Nat → ClassId) : va_W := []
def rm_X8_commonDivisor : Room := { frames := 0, cells := 0, slots := 0, locals := 0 }
theorem mS_X8_commonDivisor : MS yX8_commonDivisor cX8_commonDivisor 6 (some .int) 2 := ⟨gS_X8_commonDivisor, gN_X8, gC_X8_commonDivisor, by decide +kernel⟩
set_option maxHeartbeats 4000000 in
set_option maxRecDepth 100000 in
theorem k_X8_commonDivisor (l : Launch) (G : va_G) (cs : Nat → ClassId) (p0 p1 : Int32) (R0 : Int32) (hB : f_X8_commonDivisor p0 p1 = some R0) : Met l yX8_commonDivisor (.code yX8_commonDivisor cX8_commonDivisor 6 (some .int) :: GW) rm_X8_commonDivisor (PcR G cs [.int p0, .int p1] (wd_X8_commonDivisor cs )) (vp_Si (fun r => r = R0)) 0 0 (fun _ => False) := by
  refine Met.ofW (cc := cX8_commonDivisor) (maxL := 6) (ret := (some .int)) (by decide) rfl ?_
  intro p e s m args below meth c s₁ B hml hv
  obtain ⟨rfl, hP, hK, hN⟩ := hv
  have hx := B.exec
  have hb := B.bytes
  have hr := B.returns
  have hts := atoms_spec (ws := .code yX8_commonDivisor cX8_commonDivisor 6 (some .int) :: GW) B.pre
  have hg : ∀ w ∈ GW, w.before _ s = true := fun w h => hts w (List.mem_cons_of_mem _ h)
  have hown : s.vm.findClass RX8 = some m.cls := findClass_of_methodNamed B.named
  have hlocks := B.notSynchronized
  have hl := lv_entry ([.int p0, .int p1]) (n := 6) (Nat.le_of_ble_eq_true rfl)
  rw [lg_entry_eq]
  generalize (lg_sl ([.int p0, .int p1]) ++ List.replicate (6 - (lg_sl ([.int p0, .int p1])).length) Slot.unset).toArray = ls at hl ⊢
  have hl : lv_has ls 6 [(0, .int p0), (1, .int p1)] := hl
  obtain ⟨y, hB, hK0⟩ : ∃ y, f_X8_commonDivisor p0 p1 = some y ∧ KEnd R0 y := ⟨R0, hB, rfl⟩
  have hKT := hK
  have hK := hK0
  show W p l e rm_X8_commonDivisor s m ([.int p0, .int p1] : List Value).toArray below meth c s.heap [] 0 0 (MQ below (vp_Si (fun r => r = R0)) ([.int p0, .int p1] : List Value).toArray s 0 0 (fun _ => False)) (F0 m 0 ls [])
  refine lv_iload_n hx hb dX8_commonDivisor_0 rfl (lv_at hl 0 rfl) ?_
  refine lv_istore_n (lv' := [(2, .int p0), (0, .int p0), (1, .int p1)]) hx hb dX8_commonDivisor_1 rfl hl (by decide) rfl (fun ls hl => ?_)
  refine lv_iload_n hx hb dX8_commonDivisor_2 rfl (lv_at hl 2 rfl) ?_
  refine lv_istore_n (lv' := [(3, .int p1), (2, .int p0), (0, .int p0), (1, .int p1)]) hx hb dX8_commonDivisor_3 rfl hl (by decide) rfl (fun ls hl => ?_)
  refine lv_iconst (v := 0) hx hb dX8_commonDivisor_4 (by decide) ?_
  refine lv_istore (lv' := [(4, .int (0 : Int32)), (3, .int p1), (2, .int p0), (0, .int p0), (1, .int p1)]) hx hb dX8_commonDivisor_5 hl (by decide) rfl (fun ls hl => ?_)
  refine lp_ind (Wh := fun (z1 : Int32 × Int32 × Int32) => ∀ (ls : Array Slot), lv_has ls 6 [(2, .int z1.1), (3, .int z1.2.1), (4, .int z1.2.2)] → W p l e rm_X8_commonDivisor s m ([.int p0, .int p1] : List Value).toArray below meth c s.heap [] 0 0 (MQ below (vp_Si (fun r => r = R0)) ([.int p0, .int p1] : List Value).toArray s 0 0 (fun _ => False)) (F0 m 7 ls [])) ?_ FU _ _ hB hK ls (lv_sub hl [2, 1, 0] rfl)
  rintro ⟨z1_0, z1_1, z1_2⟩ y hB hK ls hl
  have hl : lv_has ls 6 [(2, .int z1_0), (3, .int z1_1), (4, .int z1_2)] := hl
  refine lv_iload hx hb dX8_commonDivisor_7 (lv_at hl 2 rfl) ?_
  refine lv_bipush (v := 10) hx hb dX8_commonDivisor_9 (by decide) ?_
  refine lv_icmp_gt (tgt := 34) hx hb dX8_commonDivisor_11 (by decide) (fun c_2 => ?_) (fun c_2 => ?_)
  · have hB := ifP c_2 hB
    refine lv_iload_n hx hb dX8_commonDivisor_34 rfl (lv_at hl 0 rfl) ?_
    have hK := leafK hB hK
    have hK := elimR hK
    have hK : z1_0 = R0 := hK
    subst hK
    exact W.iret (v := z1_0) hx hb hr (fun t ht hW => ⟨_, rfl, rfl, ht⟩) (fun _ h => by cases h) dX8_commonDivisor_35
  · have hB := ifN c_2 hB
    refine lv_iload_n hx hb dX8_commonDivisor_14 rfl (lv_at hl 1 rfl) ?_
    refine lv_if_eq (tgt := 34) hx hb dX8_commonDivisor_15 (by decide) (fun c_3 => ?_) (fun c_3 => ?_)
    · have hB := ifP c_3 hB
      refine lv_iload_n hx hb dX8_commonDivisor_34 rfl (lv_at hl 0 rfl) ?_
      have hK := leafK hB hK
      have hK := elimR hK
      have hK : z1_0 = R0 := hK
      subst hK
      exact W.iret (v := z1_0) hx hb hr (fun t ht hW => ⟨_, rfl, rfl, ht⟩) (fun _ h => by cases h) dX8_commonDivisor_35
    · have hB := ifN c_3 hB
      refine lv_iload_n hx hb dX8_commonDivisor_18 rfl (lv_at hl 0 rfl) ?_
      refine lv_iload_n hx hb dX8_commonDivisor_19 rfl (lv_at hl 1 rfl) ?_
      obtain ⟨h_4, hB⟩ := ifS hB
      refine lj_irem hx hb dX8_commonDivisor_20 h_4 ?_
      refine lv_istore (lv' := [(5, .int (jrem z1_0 z1_1)), (2, .int z1_0), (3, .int z1_1), (4, .int z1_2)]) hx hb dX8_commonDivisor_21 hl (by decide) rfl (fun ls hl => ?_)
      refine lv_iload_n hx hb dX8_commonDivisor_23 rfl (lv_at hl 2 rfl) ?_
      refine lv_istore_n (lv' := [(2, .int z1_1), (5, .int (jrem z1_0 z1_1)), (3, .int z1_1), (4, .int z1_2)]) hx hb dX8_commonDivisor_24 rfl hl (by decide) rfl (fun ls hl => ?_)
      refine lv_iload hx hb dX8_commonDivisor_25 (lv_at hl 1 rfl) ?_
      refine lv_istore_n (lv' := [(3, .int (jrem z1_0 z1_1)), (2, .int z1_1), (5, .int (jrem z1_0 z1_1)), (4, .int z1_2)]) hx hb dX8_commonDivisor_27 rfl hl (by decide) rfl (fun ls hl => ?_)
      refine lv_iinc (v := z1_2 + (1 : Int32)) (lv' := [(4, .int (z1_2 + (1 : Int32))), (3, .int (jrem z1_0 z1_1)), (2, .int z1_1), (5, .int (jrem z1_0 z1_1))]) hx hb dX8_commonDivisor_28 hl (k := 3) rfl (inc_ok (by decide)) (by decide) rfl (fun ls hl => ?_)
      refine lv_goto (tgt := 7) hx hb dX8_commonDivisor_31 (by decide) ?_
      have hK := leafK hB hK
      have hK := elimL hK
      exact hK ls (lv_sub hl [2, 1, 0] rfl)
def wd_X8_power (cs : Nat → ClassId) : va_W := []
def rm_X8_power : Room := { frames := 0, cells := 0, slots := 0, locals := 0 }
theorem mS_X8_power : MS yX8_power cX8_power 4 (some .int) 2 := ⟨gS_X8_power, gN_X8, gC_X8_power, by decide +kernel⟩
set_option maxHeartbeats 4000000 in
set_option maxRecDepth 100000 in
theorem k_X8_power (l : Launch) (G : va_G) (cs : Nat → ClassId) (p0 p1 : Int32) (R0 : Int32) (hB : f_X8_power p0 p1 = some R0) : Met l yX8_power (.code yX8_power cX8_power 4 (some .int) :: GW) rm_X8_power (PcR G cs [.int p0, .int p1] (wd_X8_power cs )) (vp_Si (fun r => r = R0)) 0 0 (fun _ => False) := by
  refine Met.ofW (cc := cX8_power) (maxL := 4) (ret := (some .int)) (by decide) rfl ?_
  intro p e s m args below meth c s₁ B hml hv
  obtain ⟨rfl, hP, hK, hN⟩ := hv
  have hx := B.exec
  have hb := B.bytes
  have hr := B.returns
  have hts := atoms_spec (ws := .code yX8_power cX8_power 4 (some .int) :: GW) B.pre
  have hg : ∀ w ∈ GW, w.before _ s = true := fun w h => hts w (List.mem_cons_of_mem _ h)
  have hown : s.vm.findClass RX8 = some m.cls := findClass_of_methodNamed B.named
  have hlocks := B.notSynchronized
  have hl := lv_entry ([.int p0, .int p1]) (n := 4) (Nat.le_of_ble_eq_true rfl)
  rw [lg_entry_eq]
  generalize (lg_sl ([.int p0, .int p1]) ++ List.replicate (4 - (lg_sl ([.int p0, .int p1])).length) Slot.unset).toArray = ls at hl ⊢
  have hl : lv_has ls 4 [(0, .int p0), (1, .int p1)] := hl
  obtain ⟨y, hB, hK0⟩ : ∃ y, f_X8_power p0 p1 = some y ∧ KEnd R0 y := ⟨R0, hB, rfl⟩
  have hKT := hK
  have hK := hK0
  show W p l e rm_X8_power s m ([.int p0, .int p1] : List Value).toArray below meth c s.heap [] 0 0 (MQ below (vp_Si (fun r => r = R0)) ([.int p0, .int p1] : List Value).toArray s 0 0 (fun _ => False)) (F0 m 0 ls [])
  refine lv_iconst (v := 1) hx hb dX8_power_0 (by decide) ?_
  refine lv_istore_n (lv' := [(2, .int (1 : Int32)), (0, .int p0), (1, .int p1)]) hx hb dX8_power_1 rfl hl (by decide) rfl (fun ls hl => ?_)
  refine lv_iconst (v := 0) hx hb dX8_power_2 (by decide) ?_
  refine lv_istore_n (lv' := [(3, .int (0 : Int32)), (2, .int (1 : Int32)), (0, .int p0), (1, .int p1)]) hx hb dX8_power_3 rfl hl (by decide) rfl (fun ls hl => ?_)
  refine lp_ind (Wh := fun (z1 : Int32 × Int32) => ∀ (ls : Array Slot), lv_has ls 4 [(0, .int p0), (1, .int p1), (2, .int z1.1), (3, .int z1.2)] → W p l e rm_X8_power s m ([.int p0, .int p1] : List Value).toArray below meth c s.heap [] 0 0 (MQ below (vp_Si (fun r => r = R0)) ([.int p0, .int p1] : List Value).toArray s 0 0 (fun _ => False)) (F0 m 4 ls [])) ?_ FU _ _ hB hK ls (lv_sub hl [2, 3, 1, 0] rfl)
  rintro ⟨z1_0, z1_1⟩ y hB hK ls hl
  have hl : lv_has ls 4 [(0, .int p0), (1, .int p1), (2, .int z1_0), (3, .int z1_1)] := hl
  refine lv_iload_n hx hb dX8_power_4 rfl (lv_at hl 3 rfl) ?_
  refine lv_iload_n hx hb dX8_power_5 rfl (lv_at hl 1 rfl) ?_
  refine lv_icmp_ge (tgt := 19) hx hb dX8_power_6 (by decide) (fun c_2 => ?_) (fun c_2 => ?_)
  · have hB := ifP c_2 hB
    refine lv_iload_n hx hb dX8_power_19 rfl (lv_at hl 2 rfl) ?_
    have hK := leafK hB hK
    have hK := elimR hK
    have hK : z1_0 = R0 := hK
    subst hK
    exact W.iret (v := z1_0) hx hb hr (fun t ht hW => ⟨_, rfl, rfl, ht⟩) (fun _ h => by cases h) dX8_power_20
  · have hB := ifN c_2 hB
    refine lv_iload_n hx hb dX8_power_9 rfl (lv_at hl 2 rfl) ?_
    refine lv_iload_n hx hb dX8_power_10 rfl (lv_at hl 0 rfl) ?_
    refine lv_imul hx hb dX8_power_11 ?_
    refine lv_istore_n (lv' := [(2, .int (z1_0 * p0)), (0, .int p0), (1, .int p1), (3, .int z1_1)]) hx hb dX8_power_12 rfl hl (by decide) rfl (fun ls hl => ?_)
    refine lv_iinc (v := z1_1 + (1 : Int32)) (lv' := [(3, .int (z1_1 + (1 : Int32))), (2, .int (z1_0 * p0)), (0, .int p0), (1, .int p1)]) hx hb dX8_power_13 hl (k := 3) rfl (inc_ok (by decide)) (by decide) rfl (fun ls hl => ?_)
    refine lv_goto (tgt := 4) hx hb dX8_power_16 (by decide) ?_
    have hK := leafK hB hK
    have hK := elimL hK
    exact hK ls (lv_sub hl [2, 3, 1, 0] rfl)
def wd_X8_odds (cs : Nat → ClassId) (a_t a_t_house a_t_draft a_t_reader a_t_laws a_t_standing a_t_imageZero a_t_imageOne a_t_rounds a_t_ways a_t_margins a_t_marks a_t_house_turn a_t_house_bent a_t_standing_rows a_t_rounds_laws a_t_rounds_laws_made : Nat) (r_t_standing_rows : Nat → Nat) (v_t_keptZero : Int32) (v_t_keptOne : Int32) (v_t_target : Int32) (v_t_house_opinions : Int32) (v_t_house_lines : Int32) (v_t_house_books : Int32) (v_t_house_told : Int32) (v_t_house_scribes : Int32) (v_t_house_need : Int32) (v_t_standing_known : Int32) (g_t_standing_rows : Nat → Nat → Int32) (v_t_rounds_book : Int32) (v_t_rounds_copies : Int32) (v_t_rounds_ender : Int32) (v_t_rounds_goesOn : Int32) (v_t_rounds_laws_scribes : Int32) (v_t_rounds_laws_books : Int32) (g_t_rounds_laws_made : Nat → Int32) : va_W := [(a_t, .inr (8, [.ref a_t_house, .ref a_t_draft, .ref a_t_reader, .ref a_t_laws, .ref a_t_standing, .ref a_t_imageZero, .ref a_t_imageOne, .int v_t_keptZero, .int v_t_keptOne, .int v_t_target, .ref a_t_rounds, .ref a_t_ways, .ref a_t_margins, .ref a_t_marks])), (a_t_house, .inr (0, [.int v_t_house_opinions, .int v_t_house_lines, .int v_t_house_books, .int v_t_house_told, .int v_t_house_scribes, .int v_t_house_need, .ref a_t_house_turn, .ref a_t_house_bent])), (a_t_standing, .inr (6, [.ref a_t_standing_rows, .int v_t_standing_known])), (a_t_standing_rows, .inl (cs 3, 11, .inr (.inr (.inr (.inr (gO r_t_standing_rows)))))), (r_t_standing_rows 0, .inl (cs 0, 9, .inl (g_t_standing_rows 0))), (r_t_standing_rows 1, .inl (cs 0, 9, .inl (g_t_standing_rows 1))), (r_t_standing_rows 2, .inl (cs 0, 9, .inl (g_t_standing_rows 2))), (r_t_standing_rows 3, .inl (cs 0, 9, .inl (g_t_standing_rows 3))), (r_t_standing_rows 4, .inl (cs 0, 9, .inl (g_t_standing_rows 4))), (r_t_standing_rows 5, .inl (cs 0, 9, .inl (g_t_standing_rows 5))), (r_t_standing_rows 6, .inl (cs 0, 9, .inl (g_t_standing_rows 6))), (r_t_standing_rows 7, .inl (cs 0, 9, .inl (g_t_standing_rows 7))), (r_t_standing_rows 8, .inl (cs 0, 9, .inl (g_t_standing_rows 8))), (r_t_standing_rows 9, .inl (cs 0, 9, .inl (g_t_standing_rows 9))), (r_t_standing_rows 10, .inl (cs 0, 9, .inl (g_t_standing_rows 10))), (a_t_rounds, .inr (5, [.ref a_t_rounds_laws, .int v_t_rounds_book, .int v_t_rounds_copies, .int v_t_rounds_ender, .int v_t_rounds_goesOn])), (a_t_rounds_laws, .inr (1, [.ref a_t_rounds_laws_made, .int v_t_rounds_laws_scribes, .int v_t_rounds_laws_books])), (a_t_rounds_laws_made, .inl (cs 0, 3750, .inl g_t_rounds_laws_made))]
def rm_X8_odds : Room := { frames := 3, cells := 0, slots := 0, locals := 72 }
theorem mI_X8_odds : MI yX8_odds RX8 cX8_odds 6 (some .int) 3 := ⟨gI_X8_odds, gE_X8_odds, gN_X8, gC_X8_odds, by decide +kernel⟩
set_option maxHeartbeats 4000000 in
set_option maxRecDepth 100000 in
theorem k_X8_odds (l : Launch) (G : va_G) (cs : Nat → ClassId) (a_t a_t_house a_t_draft a_t_reader a_t_laws a_t_standing a_t_imageZero a_t_imageOne a_t_rounds a_t_ways a_t_margins a_t_marks a_t_house_turn a_t_house_bent a_t_standing_rows a_t_rounds_laws a_t_rounds_laws_made : Nat) (r_t_standing_rows : Nat → Nat) (v_t_keptZero : Int32) (v_t_keptOne : Int32) (v_t_target : Int32) (v_t_house_opinions : Int32) (v_t_house_lines : Int32) (v_t_house_books : Int32) (v_t_house_told : Int32) (v_t_house_scribes : Int32) (v_t_house_need : Int32) (v_t_standing_known : Int32) (g_t_standing_rows : Nat → Nat → Int32) (v_t_rounds_book : Int32) (v_t_rounds_copies : Int32) (v_t_rounds_ender : Int32) (v_t_rounds_goesOn : Int32) (v_t_rounds_laws_scribes : Int32) (v_t_rounds_laws_books : Int32) (g_t_rounds_laws_made : Nat → Int32) (p1 p2 p3 : Int32) (sz : Nat) (R0 : Int32 × Int32 × Int32 × Int32 × Int32) (hB : f_X8_odds v_t_house_scribes v_t_standing_known g_t_standing_rows v_t_rounds_book v_t_rounds_copies v_t_rounds_ender v_t_rounds_goesOn v_t_rounds_laws_scribes v_t_rounds_laws_books g_t_rounds_laws_made p1 p2 p3 = some R0) : Met l yX8_odds (.code yX8_odds cX8_odds 6 (some .int) :: GW) rm_X8_odds (PcW G cs [.ref a_t, .int p1, .int p2, .int p3] (wd_X8_odds cs a_t a_t_house a_t_draft a_t_reader a_t_laws a_t_standing a_t_imageZero a_t_imageOne a_t_rounds a_t_ways a_t_margins a_t_marks a_t_house_turn a_t_house_bent a_t_standing_rows a_t_rounds_laws a_t_rounds_laws_made r_t_standing_rows v_t_keptZero v_t_keptOne v_t_target v_t_house_opinions v_t_house_lines v_t_house_books v_t_house_told v_t_house_scribes v_t_house_need v_t_standing_known g_t_standing_rows v_t_rounds_book v_t_rounds_copies v_t_rounds_ender v_t_rounds_goesOn v_t_rounds_laws_scribes v_t_rounds_laws_books g_t_rounds_laws_made) sz) (QcI G (va_A (wd_X8_odds cs a_t a_t_house a_t_draft a_t_reader a_t_laws a_t_standing a_t_imageZero a_t_imageOne a_t_rounds a_t_ways a_t_margins a_t_marks a_t_house_turn a_t_house_bent a_t_standing_rows a_t_rounds_laws a_t_rounds_laws_made r_t_standing_rows v_t_keptZero v_t_keptOne v_t_target v_t_house_opinions v_t_house_lines v_t_house_books v_t_house_told v_t_house_scribes v_t_house_need v_t_standing_known g_t_standing_rows v_t_rounds_book v_t_rounds_copies v_t_rounds_ender v_t_rounds_goesOn v_t_rounds_laws_scribes v_t_rounds_laws_books g_t_rounds_laws_made) sz) (wd_X8_odds cs a_t a_t_house a_t_draft a_t_reader a_t_laws a_t_standing a_t_imageZero a_t_imageOne a_t_rounds a_t_ways a_t_margins a_t_marks a_t_house_turn a_t_house_bent a_t_standing_rows a_t_rounds_laws a_t_rounds_laws_made r_t_standing_rows v_t_keptZero v_t_keptOne v_t_target v_t_house_opinions v_t_house_lines v_t_house_books v_t_house_told v_t_house_scribes v_t_house_need v_t_standing_known g_t_standing_rows R0.2.1 R0.2.2.1 R0.2.2.2.1 R0.2.2.2.2 v_t_rounds_laws_scribes v_t_rounds_laws_books g_t_rounds_laws_made) R0.1) 0 0 (va_A (wd_X8_odds cs a_t a_t_house a_t_draft a_t_reader a_t_laws a_t_standing a_t_imageZero a_t_imageOne a_t_rounds a_t_ways a_t_margins a_t_marks a_t_house_turn a_t_house_bent a_t_standing_rows a_t_rounds_laws a_t_rounds_laws_made r_t_standing_rows v_t_keptZero v_t_keptOne v_t_target v_t_house_opinions v_t_house_lines v_t_house_books v_t_house_told v_t_house_scribes v_t_house_need v_t_standing_known g_t_standing_rows v_t_rounds_book v_t_rounds_copies v_t_rounds_ender v_t_rounds_goesOn v_t_rounds_laws_scribes v_t_rounds_laws_books g_t_rounds_laws_made) sz) := by
  refine Met.ofW (cc := cX8_odds) (maxL := 6) (ret := (some .int)) (by decide) rfl ?_
  intro p e s m args below meth c s₁ B hml hv
  obtain ⟨rfl, hsz, hP, hD0, hK, hN⟩ := hv
  have hx := B.exec
  have hb := B.bytes
  have hr := B.returns
  have hts := atoms_spec (ws := .code yX8_odds cX8_odds 6 (some .int) :: GW) B.pre
  have hg : ∀ w ∈ GW, w.before _ s = true := fun w h => hts w (List.mem_cons_of_mem _ h)
  have hown : s.vm.findClass RX8 = some m.cls := findClass_of_methodNamed B.named
  have hlocks := B.notSynchronized
  subst hsz
  have hD := hD0.self (sz := s.heap.size)
  generalize hAe : va_A (wd_X8_odds cs a_t a_t_house a_t_draft a_t_reader a_t_laws a_t_standing a_t_imageZero a_t_imageOne a_t_rounds a_t_ways a_t_margins a_t_marks a_t_house_turn a_t_house_bent a_t_standing_rows a_t_rounds_laws a_t_rounds_laws_made r_t_standing_rows v_t_keptZero v_t_keptOne v_t_target v_t_house_opinions v_t_house_lines v_t_house_books v_t_house_told v_t_house_scribes v_t_house_need v_t_standing_known g_t_standing_rows v_t_rounds_book v_t_rounds_copies v_t_rounds_ender v_t_rounds_goesOn v_t_rounds_laws_scribes v_t_rounds_laws_books g_t_rounds_laws_made) s.heap.size = A at hD ⊢
  have hA : ∀ q : Nat, s.heap.size ≤ q → A q := fun q h => by rw [← hAe]; exact Or.inr h
  have hS : va_S A s.heap s.heap [] := va_S.rf
  have hl := lv_entry ([.ref a_t, .int p1, .int p2, .int p3]) (n := 6) (Nat.le_of_ble_eq_true rfl)
  rw [lg_entry_eq]
  generalize (lg_sl ([.ref a_t, .int p1, .int p2, .int p3]) ++ List.replicate (6 - (lg_sl ([.ref a_t, .int p1, .int p2, .int p3])).length) Slot.unset).toArray = ls at hl ⊢
  have hl : lv_has ls 6 [(0, .ref a_t), (1, .int p1), (2, .int p2), (3, .int p3)] := hl
  obtain ⟨y, hB, hK0⟩ : ∃ y, f_X8_odds v_t_house_scribes v_t_standing_known g_t_standing_rows v_t_rounds_book v_t_rounds_copies v_t_rounds_ender v_t_rounds_goesOn v_t_rounds_laws_scribes v_t_rounds_laws_books g_t_rounds_laws_made p1 p2 p3 = some y ∧ KEnd R0 y := ⟨R0, hB, rfl⟩
  have hKT := hK
  have hK := hK0
  obtain ⟨H, hHe⟩ : ∃ H, H = s.heap := ⟨_, rfl⟩
  obtain ⟨locs, hLe⟩ : ∃ L : List Loc, L = [] := ⟨_, rfl⟩
  rw [← hHe] at hP
  have hS : va_S A s.heap H locs := by rw [hHe, hLe]; exact hS
  show W p l e rm_X8_odds s m ([.ref a_t, .int p1, .int p2, .int p3] : List Value).toArray below meth c s.heap [] 0 0 _ _
  suffices hgo : W p l e rm_X8_odds s m ([.ref a_t, .int p1, .int p2, .int p3] : List Value).toArray below meth c H locs 0 0 (MQ below (QcI G A (wd_X8_odds cs a_t a_t_house a_t_draft a_t_reader a_t_laws a_t_standing a_t_imageZero a_t_imageOne a_t_rounds a_t_ways a_t_margins a_t_marks a_t_house_turn a_t_house_bent a_t_standing_rows a_t_rounds_laws a_t_rounds_laws_made r_t_standing_rows v_t_keptZero v_t_keptOne v_t_target v_t_house_opinions v_t_house_lines v_t_house_books v_t_house_told v_t_house_scribes v_t_house_need v_t_standing_known g_t_standing_rows R0.2.1 R0.2.2.1 R0.2.2.2.1 R0.2.2.2.2 v_t_rounds_laws_scribes v_t_rounds_laws_books g_t_rounds_laws_made) R0.1) ([.ref a_t, .int p1, .int p2, .int p3] : List Value).toArray s 0 0 A) (F0 m 0 ls []) by rw [hHe, hLe] at hgo; exact hgo
  refine lv_iload_n hx hb dX8_odds_0 rfl (lv_at hl 1 rfl) ?_
  refine lv_if_lt (tgt := 29) hx hb dX8_odds_1 (by decide) (fun c_1 => ?_) (fun c_1 => ?_)
  · have hB := ifP c_1 hB
    refine lv_iconst (v := -1) hx hb dX8_odds_29 (by decide) ?_
    have hK := leafK hB hK
    have hK : ((-1 : Int32), v_t_rounds_book, v_t_rounds_copies, v_t_rounds_ender, v_t_rounds_goesOn) = R0 := hK
    subst hK
    exact W.iret (v := (-1 : Int32)) hx hb hr (fun t ht hW => ⟨⟨_, (), rfl, rfl, by rw [ht]; exact hP, hD⟩, hS.F ht⟩) hS.2.2 dX8_odds_30
  · have hB := ifN c_1 hB
    refine lv_iload_n hx hb dX8_odds_4 rfl (lv_at hl 1 rfl) ?_
    refine lv_bipush (v := 10) hx hb dX8_odds_5 (by decide) ?_
    refine lv_icmp_gt (tgt := 29) hx hb dX8_odds_7 (by decide) (fun c_2 => ?_) (fun c_2 => ?_)
    · have hB := ifP c_2 hB
      refine lv_iconst (v := -1) hx hb dX8_odds_29 (by decide) ?_
      have hK := leafK hB hK
      have hK : ((-1 : Int32), v_t_rounds_book, v_t_rounds_copies, v_t_rounds_ender, v_t_rounds_goesOn) = R0 := hK
      subst hK
      exact W.iret (v := (-1 : Int32)) hx hb hr (fun t ht hW => ⟨⟨_, (), rfl, rfl, by rw [ht]; exact hP, hD⟩, hS.F ht⟩) hS.2.2 dX8_odds_30
    · have hB := ifN c_2 hB
      refine lv_iload_n hx hb dX8_odds_10 rfl (lv_at hl 2 rfl) ?_
      refine lv_if_lt (tgt := 29) hx hb dX8_odds_11 (by decide) (fun c_3 => ?_) (fun c_3 => ?_)
      · have hB := ifP c_3 hB
        refine lv_iconst (v := -1) hx hb dX8_odds_29 (by decide) ?_
        have hK := leafK hB hK
        have hK : ((-1 : Int32), v_t_rounds_book, v_t_rounds_copies, v_t_rounds_ender, v_t_rounds_goesOn) = R0 := hK
        subst hK
        exact W.iret (v := (-1 : Int32)) hx hb hr (fun t ht hW => ⟨⟨_, (), rfl, rfl, by rw [ht]; exact hP, hD⟩, hS.F ht⟩) hS.2.2 dX8_odds_30
      · have hB := ifN c_3 hB
        refine lv_iload_n hx hb dX8_odds_14 rfl (lv_at hl 2 rfl) ?_
        refine lv_bipush (v := 9) hx hb dX8_odds_15 (by decide) ?_
        refine lv_icmp_gt (tgt := 29) hx hb dX8_odds_17 (by decide) (fun c_4 => ?_) (fun c_4 => ?_)
        · have hB := ifP c_4 hB
          refine lv_iconst (v := -1) hx hb dX8_odds_29 (by decide) ?_
          have hK := leafK hB hK
          have hK : ((-1 : Int32), v_t_rounds_book, v_t_rounds_copies, v_t_rounds_ender, v_t_rounds_goesOn) = R0 := hK
          subst hK
          exact W.iret (v := (-1 : Int32)) hx hb hr (fun t ht hW => ⟨⟨_, (), rfl, rfl, by rw [ht]; exact hP, hD⟩, hS.F ht⟩) hS.2.2 dX8_odds_30
        · have hB := ifN c_4 hB
          refine lv_iload_n hx hb dX8_odds_20 rfl (lv_at hl 3 rfl) ?_
          refine lv_if_lt (tgt := 29) hx hb dX8_odds_21 (by decide) (fun c_5 => ?_) (fun c_5 => ?_)
          · have hB := ifP c_5 hB
            refine lv_iconst (v := -1) hx hb dX8_odds_29 (by decide) ?_
            have hK := leafK hB hK
            have hK : ((-1 : Int32), v_t_rounds_book, v_t_rounds_copies, v_t_rounds_ender, v_t_rounds_goesOn) = R0 := hK
            subst hK
            exact W.iret (v := (-1 : Int32)) hx hb hr (fun t ht hW => ⟨⟨_, (), rfl, rfl, by rw [ht]; exact hP, hD⟩, hS.F ht⟩) hS.2.2 dX8_odds_30
          · have hB := ifN c_5 hB
            refine lv_iload_n hx hb dX8_odds_24 rfl (lv_at hl 3 rfl) ?_
            refine lv_iconst (v := 1) hx hb dX8_odds_25 (by decide) ?_
            refine lv_icmp_le (tgt := 31) hx hb dX8_odds_26 (by decide) (fun c_6 => ?_) (fun c_6 => ?_)
            · have hB := ifP c_6 hB
              refine lv_aload_n hx hb dX8_odds_31 rfl (lv_at hl 0 rfl) ?_
              refine va_get (D := G) (ci := 8) (v := .ref a_t_rounds) (C := RX8) (T := TX8) (N := 14) hx hb hg inX8 hown hKT hP 0 rfl rfl 10 (by decide) (hg _ gF_X8_51) (fun _ h9 => h9) rfl dX8_odds_32 ?_
              refine lv_aload_n hx hb dX8_odds_35 rfl (lv_at hl 0 rfl) ?_
              refine va_get (D := G) (ci := 8) (v := .ref a_t_standing) (C := RX8) (T := TX8) (N := 14) hx hb hg inX8 hown hKT hP 0 rfl rfl 4 (by decide) (hg _ gF_X8_36) (fun _ h9 => h9) rfl dX8_odds_36 ?_
              obtain ⟨q7, hq7, hB⟩ := bnd hB
              refine kr_VN (WC := wd_X6_book cs a_t_standing a_t_standing_rows r_t_standing_rows v_t_standing_known g_t_standing_rows) (As := []) (rest := [.ref a_t_rounds]) (r0 := q7) ⟨hx, hb, hml, hown, hg⟩ (k_X6_book l G cs a_t_standing a_t_standing_rows r_t_standing_rows v_t_standing_known g_t_standing_rows q7 hq7) nM_X8_117_l mI_X6_book (rmk rfl) hP hKT hN 2 rfl rfl [2, 3, 4, 5, 6, 7, 8, 9, 10, 11, 12, 13, 14] rfl rfl hl.1 rfl (Nat.le_of_ble_eq_true rfl) dX8_odds_39 ?_
              refine lv_aload_n hx hb dX8_odds_42 rfl (lv_at hl 0 rfl) ?_
              obtain ⟨q8, hq8, hB⟩ := bnd hB
              refine kr_V (WC := wd_X8_bought cs a_t a_t_house a_t_draft a_t_reader a_t_laws a_t_standing a_t_imageZero a_t_imageOne a_t_rounds a_t_ways a_t_margins a_t_marks a_t_house_turn a_t_house_bent a_t_standing_rows r_t_standing_rows v_t_keptZero v_t_keptOne v_t_target v_t_house_opinions v_t_house_lines v_t_house_books v_t_house_told v_t_house_scribes v_t_house_need v_t_standing_known g_t_standing_rows) (As := []) (rest := [.int q7, .ref a_t_rounds]) (r0 := q8) ⟨hx, hb, hml, hown, hg⟩ (k_X8_bought l G cs a_t a_t_house a_t_draft a_t_reader a_t_laws a_t_standing a_t_imageZero a_t_imageOne a_t_rounds a_t_ways a_t_margins a_t_marks a_t_house_turn a_t_house_bent a_t_standing_rows r_t_standing_rows v_t_keptZero v_t_keptOne v_t_target v_t_house_opinions v_t_house_lines v_t_house_books v_t_house_told v_t_house_scribes v_t_house_need v_t_standing_known g_t_standing_rows q8 hq8) gM_X8_213 mI_X8_bought (rmk rfl) hP hKT hN 0 rfl rfl [0, 1, 2, 3, 4, 5, 6, 7, 8, 9, 10, 11, 12, 13, 14] rfl rfl hl.1 rfl (Nat.le_of_ble_eq_true rfl) dX8_odds_43 ?_
              refine lv_iload_n hx hb dX8_odds_46 rfl (lv_at hl 2 rfl) ?_
              obtain ⟨⟨q9_0, q9_1, q9_2, q9_3, q9_4⟩, hq9, hB⟩ := bnd hB
              refine kw_i (WC := wd_X5_reaches cs a_t_rounds a_t_rounds_laws a_t_rounds_laws_made v_t_rounds_book v_t_rounds_copies v_t_rounds_ender v_t_rounds_goesOn v_t_rounds_laws_scribes v_t_rounds_laws_books g_t_rounds_laws_made) (W1 := wd_X5_reaches cs a_t_rounds a_t_rounds_laws a_t_rounds_laws_made q9_1 q9_2 q9_3 q9_4 v_t_rounds_laws_scribes v_t_rounds_laws_books g_t_rounds_laws_made) (W2 := wd_X8_odds cs a_t a_t_house a_t_draft a_t_reader a_t_laws a_t_standing a_t_imageZero a_t_imageOne a_t_rounds a_t_ways a_t_margins a_t_marks a_t_house_turn a_t_house_bent a_t_standing_rows a_t_rounds_laws a_t_rounds_laws_made r_t_standing_rows v_t_keptZero v_t_keptOne v_t_target v_t_house_opinions v_t_house_lines v_t_house_books v_t_house_told v_t_house_scribes v_t_house_need v_t_standing_known g_t_standing_rows q9_1 q9_2 q9_3 q9_4 v_t_rounds_laws_scribes v_t_rounds_laws_books g_t_rounds_laws_made) (r0 := q9_0) (rw_VN (As := [.int q7, .int q8, .int p2]) (rest := []) ⟨hx, hb, hml, hown, hg⟩ (k_X5_reaches l G cs a_t_rounds a_t_rounds_laws a_t_rounds_laws_made v_t_rounds_book v_t_rounds_copies v_t_rounds_ender v_t_rounds_goesOn v_t_rounds_laws_scribes v_t_rounds_laws_books g_t_rounds_laws_made q7 q8 p2 H.size (q9_0, q9_1, q9_2, q9_3, q9_4) hq9) nM_X8_244_l mI_X5_reaches (rmk rfl) hP hD hKT hN 15 rfl rfl [15, 16, 17] rfl rfl rfl hl.1 rfl (Nat.le_of_ble_eq_true rfl) dX8_odds_47) hP hD hS hA [15, 16, 17] [0, 1, 2, 3, 4, 5, 6, 7, 8, 9, 10, 11, 12, 13, 14] [0, 1, 2, 3, 4, 5, 6, 7, 8, 9, 10, 11, 12, 13, 14, 15, 16, 17] ⟨rfl, rfl, rfl, rfl, rfl, rfl, rfl⟩ (fun H locs hP hD hS => ?_)
              refine lv_if_ne (tgt := 63) hx hb dX8_odds_50 (by decide) (fun c_10 => ?_) (fun c_10 => ?_)
              · have hB := ifN c_10 hB
                refine lv_bipush (v := 10) hx hb dX8_odds_63 (by decide) ?_
                refine lv_iload_n hx hb dX8_odds_65 rfl (lv_at hl 1 rfl) ?_
                refine lv_isub hx hb dX8_odds_66 ?_
                refine lv_istore (lv' := [(4, .int ((10 : Int32) - p1)), (0, .ref a_t), (1, .int p1), (2, .int p2), (3, .int p3)]) hx hb dX8_odds_67 hl (by decide) rfl (fun ls hl => ?_)
                refine lv_bipush (v := 10) hx hb dX8_odds_69 (by decide) ?_
                refine lv_iload hx hb dX8_odds_71 (lv_at hl 0 rfl) ?_
                obtain ⟨q11, hq11, hB⟩ := bnd hB
                refine kr_S (WC := wd_X8_commonDivisor cs ) (As := [.int (10 : Int32), .int ((10 : Int32) - p1)]) (rest := []) (r0 := q11) ⟨hx, hb, hml, hown, hg⟩ (k_X8_commonDivisor l G cs (10 : Int32) ((10 : Int32) - p1) q11 hq11) gM_X8_248 mS_X8_commonDivisor (rmk rfl) hP hKT hN [] rfl rfl hl.1 rfl (Nat.le_of_ble_eq_true rfl) dX8_odds_73 ?_
                refine lv_istore (lv' := [(5, .int q11), (4, .int ((10 : Int32) - p1)), (0, .ref a_t), (1, .int p1), (2, .int p2), (3, .int p3)]) hx hb dX8_odds_76 hl (by decide) rfl (fun ls hl => ?_)
                refine lv_iload hx hb dX8_odds_78 (lv_at hl 0 rfl) ?_
                refine lv_iconst (v := 1) hx hb dX8_odds_80 (by decide) ?_
                refine lv_icmp_ge (tgt := 88) hx hb dX8_odds_81 (by decide) (fun c_12 => ?_) (fun c_12 => ?_)
                · have hB := ifP c_12 hB
                  refine lv_iload_n hx hb dX8_odds_88 rfl (lv_at hl 5 rfl) ?_
                  refine lv_if_ne (tgt := 97) hx hb dX8_odds_89 (by decide) (fun c_13 => ?_) (fun c_13 => ?_)
                  · have hB := ifN c_13 hB
                    refine lv_bipush (v := 10) hx hb dX8_odds_97 (by decide) ?_
                    refine lv_iload hx hb dX8_odds_99 (lv_at hl 0 rfl) ?_
                    obtain ⟨h_14, hB⟩ := ifS hB
                    refine lv_idiv hx hb dX8_odds_101 h_14 ?_
                    refine lv_iload_n hx hb dX8_odds_102 rfl (lv_at hl 4 rfl) ?_
                    obtain ⟨q15, hq15, hB⟩ := bnd hB
                    refine kr_S (WC := wd_X8_power cs ) (As := [.int ((10 : Int32) / q11), .int p2]) (rest := []) (r0 := q15) ⟨hx, hb, hml, hown, hg⟩ (k_X8_power l G cs ((10 : Int32) / q11) p2 q15 hq15) gM_X8_251 mS_X8_power (rmk rfl) hP hKT hN [] rfl rfl hl.1 rfl (Nat.le_of_ble_eq_true rfl) dX8_odds_103 ?_
                    have hK := leafK hB hK
                    have hK : (q15, q9_1, q9_2, q9_3, q9_4) = R0 := hK
                    subst hK
                    exact W.iret (v := q15) hx hb hr (fun t ht hW => ⟨⟨_, (), rfl, rfl, by rw [ht]; exact hP, hD⟩, hS.F ht⟩) hS.2.2 dX8_odds_106
                  · have hB := ifP c_13 hB
                    refine lv_iload hx hb dX8_odds_92 (lv_at hl 1 rfl) ?_
                    refine lv_goto (tgt := 99) hx hb dX8_odds_94 (by decide) ?_
                    refine lv_iload hx hb dX8_odds_99 (lv_at hl 0 rfl) ?_
                    obtain ⟨h_16, hB⟩ := ifS hB
                    refine lv_idiv hx hb dX8_odds_101 h_16 ?_
                    refine lv_iload_n hx hb dX8_odds_102 rfl (lv_at hl 4 rfl) ?_
                    obtain ⟨q17, hq17, hB⟩ := bnd hB
                    refine kr_S (WC := wd_X8_power cs ) (As := [.int (((10 : Int32) - p1) / q11), .int p2]) (rest := []) (r0 := q17) ⟨hx, hb, hml, hown, hg⟩ (k_X8_power l G cs (((10 : Int32) - p1) / q11) p2 q17 hq17) gM_X8_251 mS_X8_power (rmk rfl) hP hKT hN [] rfl rfl hl.1 rfl (Nat.le_of_ble_eq_true rfl) dX8_odds_103 ?_
                    have hK := leafK hB hK
                    have hK : (q17, q9_1, q9_2, q9_3, q9_4) = R0 := hK
                    subst hK
                    exact W.iret (v := q17) hx hb hr (fun t ht hW => ⟨⟨_, (), rfl, rfl, by rw [ht]; exact hP, hD⟩, hS.F ht⟩) hS.2.2 dX8_odds_106
                · have hB := ifN c_12 hB
                  refine lv_iconst (v := -1) hx hb dX8_odds_84 (by decide) ?_
                  refine lv_goto (tgt := 106) hx hb dX8_odds_85 (by decide) ?_
                  have hK := leafK hB hK
                  have hK : ((-1 : Int32), q9_1, q9_2, q9_3, q9_4) = R0 := hK
                  subst hK
                  exact W.iret (v := (-1 : Int32)) hx hb hr (fun t ht hW => ⟨⟨_, (), rfl, rfl, by rw [ht]; exact hP, hD⟩, hS.F ht⟩) hS.2.2 dX8_odds_106
              · have hB := ifP c_10 hB
                refine lv_iload_n hx hb dX8_odds_53 rfl (lv_at hl 3 rfl) ?_
                refine lv_if_ne (tgt := 61) hx hb dX8_odds_54 (by decide) (fun c_18 => ?_) (fun c_18 => ?_)
                · have hB := ifN c_18 hB
                  refine lv_iconst (v := 1) hx hb dX8_odds_61 (by decide) ?_
                  have hK := leafK hB hK
                  have hK : ((1 : Int32), q9_1, q9_2, q9_3, q9_4) = R0 := hK
                  subst hK
                  exact W.iret (v := (1 : Int32)) hx hb hr (fun t ht hW => ⟨⟨_, (), rfl, rfl, by rw [ht]; exact hP, hD⟩, hS.F ht⟩) hS.2.2 dX8_odds_62
                · have hB := ifP c_18 hB
                  refine lv_iconst (v := 0) hx hb dX8_odds_57 (by decide) ?_
                  refine lv_goto (tgt := 62) hx hb dX8_odds_58 (by decide) ?_
                  have hK := leafK hB hK
                  have hK : ((0 : Int32), q9_1, q9_2, q9_3, q9_4) = R0 := hK
                  subst hK
                  exact W.iret (v := (0 : Int32)) hx hb hr (fun t ht hW => ⟨⟨_, (), rfl, rfl, by rw [ht]; exact hP, hD⟩, hS.F ht⟩) hS.2.2 dX8_odds_62
            · have hB := ifN c_6 hB
              refine lv_iconst (v := -1) hx hb dX8_odds_29 (by decide) ?_
              have hK := leafK hB hK
              have hK : ((-1 : Int32), v_t_rounds_book, v_t_rounds_copies, v_t_rounds_ender, v_t_rounds_goesOn) = R0 := hK
              subst hK
              exact W.iret (v := (-1 : Int32)) hx hb hr (fun t ht hW => ⟨⟨_, (), rfl, rfl, by rw [ht]; exact hP, hD⟩, hS.F ht⟩) hS.2.2 dX8_odds_30
def wd_X8_way (cs : Nat → ClassId) (a_t a_t_house a_t_draft a_t_reader a_t_laws a_t_standing a_t_imageZero a_t_imageOne a_t_rounds a_t_ways a_t_margins a_t_marks a_t_house_turn a_t_house_bent a_t_standing_rows a_t_ways_laws a_t_ways_distance a_t_ways_before a_t_ways_lastScribe a_t_ways_queue a_t_ways_laws_made : Nat) (r_t_standing_rows : Nat → Nat) (v_t_keptZero : Int32) (v_t_keptOne : Int32) (v_t_target : Int32) (v_t_house_opinions : Int32) (v_t_house_lines : Int32) (v_t_house_books : Int32) (v_t_house_told : Int32) (v_t_house_scribes : Int32) (v_t_house_need : Int32) (v_t_standing_known : Int32) (g_t_standing_rows : Nat → Nat → Int32) (v_t_ways_queued : Int32) (v_t_ways_laws_scribes : Int32) (v_t_ways_laws_books : Int32) (g_t_ways_laws_made : Nat → Int32) (g_t_ways_distance : Nat → Int32) (g_t_ways_before : Nat → Int32) (g_t_ways_lastScribe : Nat → Int32) (g_t_ways_queue : Nat → Int32) : va_W := [(a_t, .inr (8, [.ref a_t_house, .ref a_t_draft, .ref a_t_reader, .ref a_t_laws, .ref a_t_standing, .ref a_t_imageZero, .ref a_t_imageOne, .int v_t_keptZero, .int v_t_keptOne, .int v_t_target, .ref a_t_rounds, .ref a_t_ways, .ref a_t_margins, .ref a_t_marks])), (a_t_house, .inr (0, [.int v_t_house_opinions, .int v_t_house_lines, .int v_t_house_books, .int v_t_house_told, .int v_t_house_scribes, .int v_t_house_need, .ref a_t_house_turn, .ref a_t_house_bent])), (a_t_standing, .inr (6, [.ref a_t_standing_rows, .int v_t_standing_known])), (a_t_standing_rows, .inl (cs 3, 11, .inr (.inr (.inr (.inr (gO r_t_standing_rows)))))), (r_t_standing_rows 0, .inl (cs 0, 9, .inl (g_t_standing_rows 0))), (r_t_standing_rows 1, .inl (cs 0, 9, .inl (g_t_standing_rows 1))), (r_t_standing_rows 2, .inl (cs 0, 9, .inl (g_t_standing_rows 2))), (r_t_standing_rows 3, .inl (cs 0, 9, .inl (g_t_standing_rows 3))), (r_t_standing_rows 4, .inl (cs 0, 9, .inl (g_t_standing_rows 4))), (r_t_standing_rows 5, .inl (cs 0, 9, .inl (g_t_standing_rows 5))), (r_t_standing_rows 6, .inl (cs 0, 9, .inl (g_t_standing_rows 6))), (r_t_standing_rows 7, .inl (cs 0, 9, .inl (g_t_standing_rows 7))), (r_t_standing_rows 8, .inl (cs 0, 9, .inl (g_t_standing_rows 8))), (r_t_standing_rows 9, .inl (cs 0, 9, .inl (g_t_standing_rows 9))), (r_t_standing_rows 10, .inl (cs 0, 9, .inl (g_t_standing_rows 10))), (a_t_ways, .inr (7, [.ref a_t_ways_laws, .ref a_t_ways_distance, .ref a_t_ways_before, .ref a_t_ways_lastScribe, .ref a_t_ways_queue, .int v_t_ways_queued])), (a_t_ways_laws, .inr (1, [.ref a_t_ways_laws_made, .int v_t_ways_laws_scribes, .int v_t_ways_laws_books])), (a_t_ways_laws_made, .inl (cs 0, 3750, .inl g_t_ways_laws_made)), (a_t_ways_distance, .inl (cs 0, 625, .inl g_t_ways_distance)), (a_t_ways_before, .inl (cs 0, 625, .inl g_t_ways_before)), (a_t_ways_lastScribe, .inl (cs 0, 625, .inl g_t_ways_lastScribe)), (a_t_ways_queue, .inl (cs 0, 625, .inl g_t_ways_queue))]
def rm_X8_way : Room := { frames := 5, cells := 0, slots := 0, locals := 112 }
theorem mI_X8_way : MI yX8_way RX8 cX8_way 2 (some .int) 1 := ⟨gI_X8_way, gE_X8_way, gN_X8, gC_X8_way, by decide +kernel⟩
set_option maxHeartbeats 4000000 in
set_option maxRecDepth 100000 in
theorem k_X8_way (l : Launch) (G : va_G) (cs : Nat → ClassId) (a_t a_t_house a_t_draft a_t_reader a_t_laws a_t_standing a_t_imageZero a_t_imageOne a_t_rounds a_t_ways a_t_margins a_t_marks a_t_house_turn a_t_house_bent a_t_standing_rows a_t_ways_laws a_t_ways_distance a_t_ways_before a_t_ways_lastScribe a_t_ways_queue a_t_ways_laws_made : Nat) (r_t_standing_rows : Nat → Nat) (v_t_keptZero : Int32) (v_t_keptOne : Int32) (v_t_target : Int32) (v_t_house_opinions : Int32) (v_t_house_lines : Int32) (v_t_house_books : Int32) (v_t_house_told : Int32) (v_t_house_scribes : Int32) (v_t_house_need : Int32) (v_t_standing_known : Int32) (g_t_standing_rows : Nat → Nat → Int32) (v_t_ways_queued : Int32) (v_t_ways_laws_scribes : Int32) (v_t_ways_laws_books : Int32) (g_t_ways_laws_made : Nat → Int32) (g_t_ways_distance : Nat → Int32) (g_t_ways_before : Nat → Int32) (g_t_ways_lastScribe : Nat → Int32) (g_t_ways_queue : Nat → Int32) (p1 : Int32) (sz : Nat) (R0 : Int32 × Int32 × (Nat → Int32) × (Nat → Int32) × (Nat → Int32) × (Nat → Int32)) (hB : f_X8_way v_t_target v_t_house_scribes v_t_standing_known g_t_standing_rows v_t_ways_queued v_t_ways_laws_scribes v_t_ways_laws_books g_t_ways_laws_made g_t_ways_distance g_t_ways_before g_t_ways_lastScribe g_t_ways_queue p1 = some R0) : Met l yX8_way (.code yX8_way cX8_way 2 (some .int) :: GW) rm_X8_way (PcW G cs [.ref a_t, .int p1] (wd_X8_way cs a_t a_t_house a_t_draft a_t_reader a_t_laws a_t_standing a_t_imageZero a_t_imageOne a_t_rounds a_t_ways a_t_margins a_t_marks a_t_house_turn a_t_house_bent a_t_standing_rows a_t_ways_laws a_t_ways_distance a_t_ways_before a_t_ways_lastScribe a_t_ways_queue a_t_ways_laws_made r_t_standing_rows v_t_keptZero v_t_keptOne v_t_target v_t_house_opinions v_t_house_lines v_t_house_books v_t_house_told v_t_house_scribes v_t_house_need v_t_standing_known g_t_standing_rows v_t_ways_queued v_t_ways_laws_scribes v_t_ways_laws_books g_t_ways_laws_made g_t_ways_distance g_t_ways_before g_t_ways_lastScribe g_t_ways_queue) sz) (QcI G (va_A (wd_X8_way cs a_t a_t_house a_t_draft a_t_reader a_t_laws a_t_standing a_t_imageZero a_t_imageOne a_t_rounds a_t_ways a_t_margins a_t_marks a_t_house_turn a_t_house_bent a_t_standing_rows a_t_ways_laws a_t_ways_distance a_t_ways_before a_t_ways_lastScribe a_t_ways_queue a_t_ways_laws_made r_t_standing_rows v_t_keptZero v_t_keptOne v_t_target v_t_house_opinions v_t_house_lines v_t_house_books v_t_house_told v_t_house_scribes v_t_house_need v_t_standing_known g_t_standing_rows v_t_ways_queued v_t_ways_laws_scribes v_t_ways_laws_books g_t_ways_laws_made g_t_ways_distance g_t_ways_before g_t_ways_lastScribe g_t_ways_queue) sz) (wd_X8_way cs a_t a_t_house a_t_draft a_t_reader a_t_laws a_t_standing a_t_imageZero a_t_imageOne a_t_rounds a_t_ways a_t_margins a_t_marks a_t_house_turn a_t_house_bent a_t_standing_rows a_t_ways_laws a_t_ways_distance a_t_ways_before a_t_ways_lastScribe a_t_ways_queue a_t_ways_laws_made r_t_standing_rows v_t_keptZero v_t_keptOne v_t_target v_t_house_opinions v_t_house_lines v_t_house_books v_t_house_told v_t_house_scribes v_t_house_need v_t_standing_known g_t_standing_rows R0.2.1 v_t_ways_laws_scribes v_t_ways_laws_books g_t_ways_laws_made R0.2.2.1 R0.2.2.2.1 R0.2.2.2.2.1 R0.2.2.2.2.2) R0.1) 0 0 (va_A (wd_X8_way cs a_t a_t_house a_t_draft a_t_reader a_t_laws a_t_standing a_t_imageZero a_t_imageOne a_t_rounds a_t_ways a_t_margins a_t_marks a_t_house_turn a_t_house_bent a_t_standing_rows a_t_ways_laws a_t_ways_distance a_t_ways_before a_t_ways_lastScribe a_t_ways_queue a_t_ways_laws_made r_t_standing_rows v_t_keptZero v_t_keptOne v_t_target v_t_house_opinions v_t_house_lines v_t_house_books v_t_house_told v_t_house_scribes v_t_house_need v_t_standing_known g_t_standing_rows v_t_ways_queued v_t_ways_laws_scribes v_t_ways_laws_books g_t_ways_laws_made g_t_ways_distance g_t_ways_before g_t_ways_lastScribe g_t_ways_queue) sz) := by
  refine Met.ofW (cc := cX8_way) (maxL := 2) (ret := (some .int)) (by decide) rfl ?_
  intro p e s m args below meth c s₁ B hml hv
  obtain ⟨rfl, hsz, hP, hD0, hK, hN⟩ := hv
  have hx := B.exec
  have hb := B.bytes
  have hr := B.returns
  have hts := atoms_spec (ws := .code yX8_way cX8_way 2 (some .int) :: GW) B.pre
  have hg : ∀ w ∈ GW, w.before _ s = true := fun w h => hts w (List.mem_cons_of_mem _ h)
  have hown : s.vm.findClass RX8 = some m.cls := findClass_of_methodNamed B.named
  have hlocks := B.notSynchronized
  subst hsz
  have hD := hD0.self (sz := s.heap.size)
  generalize hAe : va_A (wd_X8_way cs a_t a_t_house a_t_draft a_t_reader a_t_laws a_t_standing a_t_imageZero a_t_imageOne a_t_rounds a_t_ways a_t_margins a_t_marks a_t_house_turn a_t_house_bent a_t_standing_rows a_t_ways_laws a_t_ways_distance a_t_ways_before a_t_ways_lastScribe a_t_ways_queue a_t_ways_laws_made r_t_standing_rows v_t_keptZero v_t_keptOne v_t_target v_t_house_opinions v_t_house_lines v_t_house_books v_t_house_told v_t_house_scribes v_t_house_need v_t_standing_known g_t_standing_rows v_t_ways_queued v_t_ways_laws_scribes v_t_ways_laws_books g_t_ways_laws_made g_t_ways_distance g_t_ways_before g_t_ways_lastScribe g_t_ways_queue) s.heap.size = A at hD ⊢
  have hA : ∀ q : Nat, s.heap.size ≤ q → A q := fun q h => by rw [← hAe]; exact Or.inr h
  have hS : va_S A s.heap s.heap [] := va_S.rf
  have hl := lv_entry ([.ref a_t, .int p1]) (n := 2) (Nat.le_of_ble_eq_true rfl)
  rw [lg_entry_eq]
  generalize (lg_sl ([.ref a_t, .int p1]) ++ List.replicate (2 - (lg_sl ([.ref a_t, .int p1])).length) Slot.unset).toArray = ls at hl ⊢
  have hl : lv_has ls 2 [(0, .ref a_t), (1, .int p1)] := hl
  obtain ⟨y, hB, hK0⟩ : ∃ y, f_X8_way v_t_target v_t_house_scribes v_t_standing_known g_t_standing_rows v_t_ways_queued v_t_ways_laws_scribes v_t_ways_laws_books g_t_ways_laws_made g_t_ways_distance g_t_ways_before g_t_ways_lastScribe g_t_ways_queue p1 = some y ∧ KEnd R0 y := ⟨R0, hB, rfl⟩
  have hKT := hK
  have hK := hK0
  obtain ⟨H, hHe⟩ : ∃ H, H = s.heap := ⟨_, rfl⟩
  obtain ⟨locs, hLe⟩ : ∃ L : List Loc, L = [] := ⟨_, rfl⟩
  rw [← hHe] at hP
  have hS : va_S A s.heap H locs := by rw [hHe, hLe]; exact hS
  show W p l e rm_X8_way s m ([.ref a_t, .int p1] : List Value).toArray below meth c s.heap [] 0 0 _ _
  suffices hgo : W p l e rm_X8_way s m ([.ref a_t, .int p1] : List Value).toArray below meth c H locs 0 0 (MQ below (QcI G A (wd_X8_way cs a_t a_t_house a_t_draft a_t_reader a_t_laws a_t_standing a_t_imageZero a_t_imageOne a_t_rounds a_t_ways a_t_margins a_t_marks a_t_house_turn a_t_house_bent a_t_standing_rows a_t_ways_laws a_t_ways_distance a_t_ways_before a_t_ways_lastScribe a_t_ways_queue a_t_ways_laws_made r_t_standing_rows v_t_keptZero v_t_keptOne v_t_target v_t_house_opinions v_t_house_lines v_t_house_books v_t_house_told v_t_house_scribes v_t_house_need v_t_standing_known g_t_standing_rows R0.2.1 v_t_ways_laws_scribes v_t_ways_laws_books g_t_ways_laws_made R0.2.2.1 R0.2.2.2.1 R0.2.2.2.2.1 R0.2.2.2.2.2) R0.1) ([.ref a_t, .int p1] : List Value).toArray s 0 0 A) (F0 m 0 ls []) by rw [hHe, hLe] at hgo; exact hgo
  refine lv_iload_n hx hb dX8_way_0 rfl (lv_at hl 1 rfl) ?_
  refine lv_iconst (v := -1) hx hb dX8_way_1 (by decide) ?_
  refine lv_icmp_ge (tgt := 7) hx hb dX8_way_2 (by decide) (fun c_1 => ?_) (fun c_1 => ?_)
  · have hB := ifP c_1 hB
    refine lv_aload_n hx hb dX8_way_7 rfl (lv_at hl 0 rfl) ?_
    refine va_get (D := G) (ci := 8) (v := .ref a_t_ways) (C := RX8) (T := TX8) (N := 14) hx hb hg inX8 hown hKT hP 0 rfl rfl 11 (by decide) (hg _ gF_X8_58) (fun _ h9 => h9) rfl dX8_way_8 ?_
    refine lv_aload_n hx hb dX8_way_11 rfl (lv_at hl 0 rfl) ?_
    refine va_get (D := G) (ci := 8) (v := .ref a_t_standing) (C := RX8) (T := TX8) (N := 14) hx hb hg inX8 hown hKT hP 0 rfl rfl 4 (by decide) (hg _ gF_X8_36) (fun _ h9 => h9) rfl dX8_way_12 ?_
    obtain ⟨q2, hq2, hB⟩ := bnd hB
    refine kr_VN (WC := wd_X6_book cs a_t_standing a_t_standing_rows r_t_standing_rows v_t_standing_known g_t_standing_rows) (As := []) (rest := [.ref a_t_ways]) (r0 := q2) ⟨hx, hb, hml, hown, hg⟩ (k_X6_book l G cs a_t_standing a_t_standing_rows r_t_standing_rows v_t_standing_known g_t_standing_rows q2 hq2) nM_X8_117_l mI_X6_book (rmk rfl) hP hKT hN 2 rfl rfl [2, 3, 4, 5, 6, 7, 8, 9, 10, 11, 12, 13, 14] rfl rfl hl.1 rfl (Nat.le_of_ble_eq_true rfl) dX8_way_15 ?_
    refine lv_aload_n hx hb dX8_way_18 rfl (lv_at hl 0 rfl) ?_
    obtain ⟨q3, hq3, hB⟩ := bnd hB
    refine kr_V (WC := wd_X8_bought cs a_t a_t_house a_t_draft a_t_reader a_t_laws a_t_standing a_t_imageZero a_t_imageOne a_t_rounds a_t_ways a_t_margins a_t_marks a_t_house_turn a_t_house_bent a_t_standing_rows r_t_standing_rows v_t_keptZero v_t_keptOne v_t_target v_t_house_opinions v_t_house_lines v_t_house_books v_t_house_told v_t_house_scribes v_t_house_need v_t_standing_known g_t_standing_rows) (As := []) (rest := [.int q2, .ref a_t_ways]) (r0 := q3) ⟨hx, hb, hml, hown, hg⟩ (k_X8_bought l G cs a_t a_t_house a_t_draft a_t_reader a_t_laws a_t_standing a_t_imageZero a_t_imageOne a_t_rounds a_t_ways a_t_margins a_t_marks a_t_house_turn a_t_house_bent a_t_standing_rows r_t_standing_rows v_t_keptZero v_t_keptOne v_t_target v_t_house_opinions v_t_house_lines v_t_house_books v_t_house_told v_t_house_scribes v_t_house_need v_t_standing_known g_t_standing_rows q3 hq3) gM_X8_213 mI_X8_bought (rmk rfl) hP hKT hN 0 rfl rfl [0, 1, 2, 3, 4, 5, 6, 7, 8, 9, 10, 11, 12, 13, 14] rfl rfl hl.1 rfl (Nat.le_of_ble_eq_true rfl) dX8_way_19 ?_
    refine lv_aload_n hx hb dX8_way_22 rfl (lv_at hl 0 rfl) ?_
    refine va_get (D := G) (ci := 8) (v := .int v_t_target) (C := RX8) (T := TX8) (N := 14) hx hb hg inX8 hown hKT hP 0 rfl rfl 9 (by decide) (hg _ gF_X8_103) (fun _ h9 => h9) rfl dX8_way_23 ?_
    obtain ⟨⟨q4_0, q4_1, q4_2, q4_3, q4_4⟩, hq4, hB⟩ := bnd hB
    refine kw_v (WC := wd_X7_search cs a_t_ways a_t_ways_laws a_t_ways_distance a_t_ways_before a_t_ways_lastScribe a_t_ways_queue a_t_ways_laws_made v_t_ways_queued v_t_ways_laws_scribes v_t_ways_laws_books g_t_ways_laws_made g_t_ways_distance g_t_ways_before g_t_ways_lastScribe g_t_ways_queue) (W1 := wd_X7_search cs a_t_ways a_t_ways_laws a_t_ways_distance a_t_ways_before a_t_ways_lastScribe a_t_ways_queue a_t_ways_laws_made q4_0 v_t_ways_laws_scribes v_t_ways_laws_books g_t_ways_laws_made q4_1 q4_2 q4_3 q4_4) (W2 := wd_X8_way cs a_t a_t_house a_t_draft a_t_reader a_t_laws a_t_standing a_t_imageZero a_t_imageOne a_t_rounds a_t_ways a_t_margins a_t_marks a_t_house_turn a_t_house_bent a_t_standing_rows a_t_ways_laws a_t_ways_distance a_t_ways_before a_t_ways_lastScribe a_t_ways_queue a_t_ways_laws_made r_t_standing_rows v_t_keptZero v_t_keptOne v_t_target v_t_house_opinions v_t_house_lines v_t_house_books v_t_house_told v_t_house_scribes v_t_house_need v_t_standing_known g_t_standing_rows q4_0 v_t_ways_laws_scribes v_t_ways_laws_books g_t_ways_laws_made q4_1 q4_2 q4_3 q4_4) (rw_VN (As := [.int q2, .int q3, .int v_t_target]) (rest := []) ⟨hx, hb, hml, hown, hg⟩ (k_X7_search l G cs a_t_ways a_t_ways_laws a_t_ways_distance a_t_ways_before a_t_ways_lastScribe a_t_ways_queue a_t_ways_laws_made v_t_ways_queued v_t_ways_laws_scribes v_t_ways_laws_books g_t_ways_laws_made g_t_ways_distance g_t_ways_before g_t_ways_lastScribe g_t_ways_queue q2 q3 v_t_target H.size (q4_0, q4_1, q4_2, q4_3, q4_4) hq4) nM_X8_254_l mI_X7_search (rmk rfl) hP hD hKT hN 15 rfl rfl [15, 16, 17, 18, 19, 20, 21] rfl rfl rfl hl.1 rfl (Nat.le_of_ble_eq_true rfl) dX8_way_26) hP hD hS hA [15, 16, 17, 18, 19, 20, 21] [0, 1, 2, 3, 4, 5, 6, 7, 8, 9, 10, 11, 12, 13, 14] [0, 1, 2, 3, 4, 5, 6, 7, 8, 9, 10, 11, 12, 13, 14, 15, 16, 17, 18, 19, 20, 21] ⟨rfl, rfl, rfl, rfl, rfl, rfl, rfl⟩ (fun H locs hP hD hS => ?_)
    refine lv_iload_n hx hb dX8_way_29 rfl (lv_at hl 1 rfl) ?_
    refine lv_iconst (v := -1) hx hb dX8_way_30 (by decide) ?_
    refine lv_icmp_ne (tgt := 48) hx hb dX8_way_31 (by decide) (fun c_5 => ?_) (fun c_5 => ?_)
    · have hB := ifN c_5 hB
      refine lv_aload_n hx hb dX8_way_48 rfl (lv_at hl 0 rfl) ?_
      refine va_get (D := G) (ci := 8) (v := .ref a_t_ways) (C := RX8) (T := TX8) (N := 14) hx hb hg inX8 hown hKT hP 0 rfl rfl 11 (by decide) (hg _ gF_X8_58) (fun _ h9 => h9) rfl dX8_way_49 ?_
      refine lv_aload_n hx hb dX8_way_52 rfl (lv_at hl 0 rfl) ?_
      refine va_get (D := G) (ci := 8) (v := .int v_t_target) (C := RX8) (T := TX8) (N := 14) hx hb hg inX8 hown hKT hP 0 rfl rfl 9 (by decide) (hg _ gF_X8_103) (fun _ h9 => h9) rfl dX8_way_53 ?_
      refine lv_iload_n hx hb dX8_way_56 rfl (lv_at hl 1 rfl) ?_
      obtain ⟨q6, hq6, hB⟩ := bnd hB
      refine kr_VN (WC := wd_X7_scribeOfCopy cs a_t_ways a_t_ways_laws a_t_ways_distance a_t_ways_before a_t_ways_lastScribe a_t_ways_queue q4_0 q4_1 q4_2 q4_3) (As := [.int v_t_target, .int p1]) (rest := []) (r0 := q6) ⟨hx, hb, hml, hown, hg⟩ (k_X7_scribeOfCopy l G cs a_t_ways a_t_ways_laws a_t_ways_distance a_t_ways_before a_t_ways_lastScribe a_t_ways_queue q4_0 q4_1 q4_2 q4_3 v_t_target p1 q6 hq6) nM_X8_260_l mI_X7_scribeOfCopy (rmk rfl) hP hKT hN 15 rfl rfl [15, 18, 19, 20] rfl rfl hl.1 rfl (Nat.le_of_ble_eq_true rfl) dX8_way_57 ?_
      have hK := leafK hB hK
      have hK : (q6, q4_0, q4_1, q4_2, q4_3, q4_4) = R0 := hK
      subst hK
      exact W.iret (v := q6) hx hb hr (fun t ht hW => ⟨⟨_, (), rfl, rfl, by rw [ht]; exact hP, hD⟩, hS.F ht⟩) hS.2.2 dX8_way_60
    · have hB := ifP c_5 hB
      refine lv_aload_n hx hb dX8_way_34 rfl (lv_at hl 0 rfl) ?_
      refine va_get (D := G) (ci := 8) (v := .ref a_t_ways) (C := RX8) (T := TX8) (N := 14) hx hb hg inX8 hown hKT hP 0 rfl rfl 11 (by decide) (hg _ gF_X8_58) (fun _ h9 => h9) rfl dX8_way_35 ?_
      refine lv_aload_n hx hb dX8_way_38 rfl (lv_at hl 0 rfl) ?_
      refine va_get (D := G) (ci := 8) (v := .int v_t_target) (C := RX8) (T := TX8) (N := 14) hx hb hg inX8 hown hKT hP 0 rfl rfl 9 (by decide) (hg _ gF_X8_103) (fun _ h9 => h9) rfl dX8_way_39 ?_
      obtain ⟨q7, hq7, hB⟩ := bnd hB
      refine kr_VN (WC := wd_X7_fewestCopies cs a_t_ways a_t_ways_laws a_t_ways_distance a_t_ways_before a_t_ways_lastScribe a_t_ways_queue q4_0 q4_1) (As := [.int v_t_target]) (rest := []) (r0 := q7) ⟨hx, hb, hml, hown, hg⟩ (k_X7_fewestCopies l G cs a_t_ways a_t_ways_laws a_t_ways_distance a_t_ways_before a_t_ways_lastScribe a_t_ways_queue q4_0 q4_1 v_t_target q7 hq7) nM_X8_257_l mI_X7_fewestCopies (rmk rfl) hP hKT hN 15 rfl rfl [15, 18] rfl rfl hl.1 rfl (Nat.le_of_ble_eq_true rfl) dX8_way_42 ?_
      refine lv_goto (tgt := 60) hx hb dX8_way_45 (by decide) ?_
      have hK := leafK hB hK
      have hK : (q7, q4_0, q4_1, q4_2, q4_3, q4_4) = R0 := hK
      subst hK
      exact W.iret (v := q7) hx hb hr (fun t ht hW => ⟨⟨_, (), rfl, rfl, by rw [ht]; exact hP, hD⟩, hS.F ht⟩) hS.2.2 dX8_way_60
  · have hB := ifN c_1 hB
    refine lv_iconst (v := -1) hx hb dX8_way_5 (by decide) ?_
    have hK := leafK hB hK
    have hK : ((-1 : Int32), v_t_ways_queued, g_t_ways_distance, g_t_ways_before, g_t_ways_lastScribe, g_t_ways_queue) = R0 := hK
    subst hK
    exact W.iret (v := (-1 : Int32)) hx hb hr (fun t ht hW => ⟨⟨_, (), rfl, rfl, by rw [ht]; exact hP, hD⟩, hS.F ht⟩) hS.2.2 dX8_way_6
def wd_X8_from (cs : Nat → ClassId) (a_t a_t_house a_t_draft a_t_reader a_t_laws a_t_standing a_t_imageZero a_t_imageOne a_t_rounds a_t_ways a_t_margins a_t_marks a_t_house_turn a_t_house_bent a_t_standing_rows a_t_ways_laws a_t_ways_distance a_t_ways_before a_t_ways_lastScribe a_t_ways_queue a_t_ways_laws_made : Nat) (r_t_standing_rows : Nat → Nat) (v_t_keptZero : Int32) (v_t_keptOne : Int32) (v_t_target : Int32) (v_t_house_opinions : Int32) (v_t_house_lines : Int32) (v_t_house_books : Int32) (v_t_house_told : Int32) (v_t_house_scribes : Int32) (v_t_house_need : Int32) (v_t_standing_known : Int32) (g_t_standing_rows : Nat → Nat → Int32) (v_t_ways_queued : Int32) (v_t_ways_laws_scribes : Int32) (v_t_ways_laws_books : Int32) (g_t_ways_laws_made : Nat → Int32) : va_W := [(a_t, .inr (8, [.ref a_t_house, .ref a_t_draft, .ref a_t_reader, .ref a_t_laws, .ref a_t_standing, .ref a_t_imageZero, .ref a_t_imageOne, .int v_t_keptZero, .int v_t_keptOne, .int v_t_target, .ref a_t_rounds, .ref a_t_ways, .ref a_t_margins, .ref a_t_marks])), (a_t_house, .inr (0, [.int v_t_house_opinions, .int v_t_house_lines, .int v_t_house_books, .int v_t_house_told, .int v_t_house_scribes, .int v_t_house_need, .ref a_t_house_turn, .ref a_t_house_bent])), (a_t_standing, .inr (6, [.ref a_t_standing_rows, .int v_t_standing_known])), (a_t_standing_rows, .inl (cs 3, 11, .inr (.inr (.inr (.inr (gO r_t_standing_rows)))))), (r_t_standing_rows 0, .inl (cs 0, 9, .inl (g_t_standing_rows 0))), (r_t_standing_rows 1, .inl (cs 0, 9, .inl (g_t_standing_rows 1))), (r_t_standing_rows 2, .inl (cs 0, 9, .inl (g_t_standing_rows 2))), (r_t_standing_rows 3, .inl (cs 0, 9, .inl (g_t_standing_rows 3))), (r_t_standing_rows 4, .inl (cs 0, 9, .inl (g_t_standing_rows 4))), (r_t_standing_rows 5, .inl (cs 0, 9, .inl (g_t_standing_rows 5))), (r_t_standing_rows 6, .inl (cs 0, 9, .inl (g_t_standing_rows 6))), (r_t_standing_rows 7, .inl (cs 0, 9, .inl (g_t_standing_rows 7))), (r_t_standing_rows 8, .inl (cs 0, 9, .inl (g_t_standing_rows 8))), (r_t_standing_rows 9, .inl (cs 0, 9, .inl (g_t_standing_rows 9))), (r_t_standing_rows 10, .inl (cs 0, 9, .inl (g_t_standing_rows 10))), (a_t_ways, .inr (7, [.ref a_t_ways_laws, .ref a_t_ways_distance, .ref a_t_ways_before, .ref a_t_ways_lastScribe, .ref a_t_ways_queue, .int v_t_ways_queued])), (a_t_ways_laws, .inr (1, [.ref a_t_ways_laws_made, .int v_t_ways_laws_scribes, .int v_t_ways_laws_books])), (a_t_ways_laws_made, .inl (cs 0, 3750, .inl g_t_ways_laws_made))]
def rm_X8_from : Room := { frames := 2, cells := 0, slots := 0, locals := 46 }
theorem mI_X8_from : MI yX8_from RX8 cX8_from 2 (some .int) 1 := ⟨gI_X8_from, gE_X8_from, gN_X8, gC_X8_from, by decide +kernel⟩
set_option maxHeartbeats 4000000 in
set_option maxRecDepth 100000 in
theorem k_X8_from (l : Launch) (G : va_G) (cs : Nat → ClassId) (a_t a_t_house a_t_draft a_t_reader a_t_laws a_t_standing a_t_imageZero a_t_imageOne a_t_rounds a_t_ways a_t_margins a_t_marks a_t_house_turn a_t_house_bent a_t_standing_rows a_t_ways_laws a_t_ways_distance a_t_ways_before a_t_ways_lastScribe a_t_ways_queue a_t_ways_laws_made : Nat) (r_t_standing_rows : Nat → Nat) (v_t_keptZero : Int32) (v_t_keptOne : Int32) (v_t_target : Int32) (v_t_house_opinions : Int32) (v_t_house_lines : Int32) (v_t_house_books : Int32) (v_t_house_told : Int32) (v_t_house_scribes : Int32) (v_t_house_need : Int32) (v_t_standing_known : Int32) (g_t_standing_rows : Nat → Nat → Int32) (v_t_ways_queued : Int32) (v_t_ways_laws_scribes : Int32) (v_t_ways_laws_books : Int32) (g_t_ways_laws_made : Nat → Int32) (p1 : Int32) (R0 : Int32) (hB : f_X8_from v_t_house_scribes v_t_standing_known g_t_standing_rows v_t_ways_laws_scribes v_t_ways_laws_books g_t_ways_laws_made p1 = some R0) : Met l yX8_from (.code yX8_from cX8_from 2 (some .int) :: GW) rm_X8_from (PcR G cs [.ref a_t, .int p1] (wd_X8_from cs a_t a_t_house a_t_draft a_t_reader a_t_laws a_t_standing a_t_imageZero a_t_imageOne a_t_rounds a_t_ways a_t_margins a_t_marks a_t_house_turn a_t_house_bent a_t_standing_rows a_t_ways_laws a_t_ways_distance a_t_ways_before a_t_ways_lastScribe a_t_ways_queue a_t_ways_laws_made r_t_standing_rows v_t_keptZero v_t_keptOne v_t_target v_t_house_opinions v_t_house_lines v_t_house_books v_t_house_told v_t_house_scribes v_t_house_need v_t_standing_known g_t_standing_rows v_t_ways_queued v_t_ways_laws_scribes v_t_ways_laws_books g_t_ways_laws_made)) (vp_Si (fun r => r = R0)) 0 0 (fun _ => False) := by
  refine Met.ofW (cc := cX8_from) (maxL := 2) (ret := (some .int)) (by decide) rfl ?_
  intro p e s m args below meth c s₁ B hml hv
  obtain ⟨rfl, hP, hK, hN⟩ := hv
  have hx := B.exec
  have hb := B.bytes
  have hr := B.returns
  have hts := atoms_spec (ws := .code yX8_from cX8_from 2 (some .int) :: GW) B.pre
  have hg : ∀ w ∈ GW, w.before _ s = true := fun w h => hts w (List.mem_cons_of_mem _ h)
  have hown : s.vm.findClass RX8 = some m.cls := findClass_of_methodNamed B.named
  have hlocks := B.notSynchronized
  have hl := lv_entry ([.ref a_t, .int p1]) (n := 2) (Nat.le_of_ble_eq_true rfl)
  rw [lg_entry_eq]
  generalize (lg_sl ([.ref a_t, .int p1]) ++ List.replicate (2 - (lg_sl ([.ref a_t, .int p1])).length) Slot.unset).toArray = ls at hl ⊢
  have hl : lv_has ls 2 [(0, .ref a_t), (1, .int p1)] := hl
  obtain ⟨y, hB, hK0⟩ : ∃ y, f_X8_from v_t_house_scribes v_t_standing_known g_t_standing_rows v_t_ways_laws_scribes v_t_ways_laws_books g_t_ways_laws_made p1 = some y ∧ KEnd R0 y := ⟨R0, hB, rfl⟩
  have hKT := hK
  have hK := hK0
  show W p l e rm_X8_from s m ([.ref a_t, .int p1] : List Value).toArray below meth c s.heap [] 0 0 (MQ below (vp_Si (fun r => r = R0)) ([.ref a_t, .int p1] : List Value).toArray s 0 0 (fun _ => False)) (F0 m 0 ls [])
  refine lv_aload_n hx hb dX8_from_0 rfl (lv_at hl 0 rfl) ?_
  refine va_get (D := G) (ci := 8) (v := .ref a_t_house) (C := RX8) (T := TX8) (N := 14) hx hb hg inX8 hown hKT hP 0 rfl rfl 0 (by decide) (hg _ gF_X8_10) (fun _ h9 => h9) rfl dX8_from_1 ?_
  refine lv_iload_n hx hb dX8_from_4 rfl (lv_at hl 1 rfl) ?_
  obtain ⟨q1, hq1, hB⟩ := bnd hB
  refine kr_VN (WC := wd_X0_hasScribe cs a_t_house a_t_house_turn a_t_house_bent v_t_house_opinions v_t_house_lines v_t_house_books v_t_house_told v_t_house_scribes v_t_house_need) (As := [.int p1]) (rest := []) (r0 := q1) ⟨hx, hb, hml, hown, hg⟩ (k_X0_hasScribe l G cs a_t_house a_t_house_turn a_t_house_bent v_t_house_opinions v_t_house_lines v_t_house_books v_t_house_told v_t_house_scribes v_t_house_need p1 q1 hq1) nM_X8_124_l mI_X0_hasScribe (rmk rfl) hP hKT hN 1 rfl rfl [1] rfl rfl hl.1 rfl (Nat.le_of_ble_eq_true rfl) dX8_from_5 ?_
  refine lv_if_eq (tgt := 29) hx hb dX8_from_8 (by decide) (fun c_2 => ?_) (fun c_2 => ?_)
  · have hB := ifP c_2 hB
    refine lv_iconst (v := -1) hx hb dX8_from_29 (by decide) ?_
    have hK := leafK hB hK
    have hK : (-1 : Int32) = R0 := hK
    subst hK
    exact W.iret (v := (-1 : Int32)) hx hb hr (fun t ht hW => ⟨_, rfl, rfl, ht⟩) (fun _ h => by cases h) dX8_from_30
  · have hB := ifN c_2 hB
    refine lv_aload_n hx hb dX8_from_11 rfl (lv_at hl 0 rfl) ?_
    refine va_get (D := G) (ci := 8) (v := .ref a_t_ways) (C := RX8) (T := TX8) (N := 14) hx hb hg inX8 hown hKT hP 0 rfl rfl 11 (by decide) (hg _ gF_X8_58) (fun _ h9 => h9) rfl dX8_from_12 ?_
    refine lv_iload_n hx hb dX8_from_15 rfl (lv_at hl 1 rfl) ?_
    refine lv_aload_n hx hb dX8_from_16 rfl (lv_at hl 0 rfl) ?_
    refine va_get (D := G) (ci := 8) (v := .ref a_t_standing) (C := RX8) (T := TX8) (N := 14) hx hb hg inX8 hown hKT hP 0 rfl rfl 4 (by decide) (hg _ gF_X8_36) (fun _ h9 => h9) rfl dX8_from_17 ?_
    obtain ⟨q3, hq3, hB⟩ := bnd hB
    refine kr_VN (WC := wd_X6_book cs a_t_standing a_t_standing_rows r_t_standing_rows v_t_standing_known g_t_standing_rows) (As := []) (rest := [.int p1, .ref a_t_ways]) (r0 := q3) ⟨hx, hb, hml, hown, hg⟩ (k_X6_book l G cs a_t_standing a_t_standing_rows r_t_standing_rows v_t_standing_known g_t_standing_rows q3 hq3) nM_X8_117_l mI_X6_book (rmk rfl) hP hKT hN 2 rfl rfl [2, 3, 4, 5, 6, 7, 8, 9, 10, 11, 12, 13, 14] rfl rfl hl.1 rfl (Nat.le_of_ble_eq_true rfl) dX8_from_20 ?_
    obtain ⟨q4, hq4, hB⟩ := bnd hB
    refine kr_VN (WC := wd_X7_countBefore cs a_t_ways a_t_ways_laws a_t_ways_distance a_t_ways_before a_t_ways_lastScribe a_t_ways_queue a_t_ways_laws_made v_t_ways_queued v_t_ways_laws_scribes v_t_ways_laws_books g_t_ways_laws_made) (As := [.int p1, .int q3]) (rest := []) (r0 := q4) ⟨hx, hb, hml, hown, hg⟩ (k_X7_countBefore l G cs a_t_ways a_t_ways_laws a_t_ways_distance a_t_ways_before a_t_ways_lastScribe a_t_ways_queue a_t_ways_laws_made v_t_ways_queued v_t_ways_laws_scribes v_t_ways_laws_books g_t_ways_laws_made p1 q3 q4 hq4) nM_X8_263_l mI_X7_countBefore (rmk rfl) hP hKT hN 15 rfl rfl [15, 16, 17] rfl rfl hl.1 rfl (Nat.le_of_ble_eq_true rfl) dX8_from_23 ?_
    refine lv_goto (tgt := 30) hx hb dX8_from_26 (by decide) ?_
    have hK := leafK hB hK
    have hK : q4 = R0 := hK
    subst hK
    exact W.iret (v := q4) hx hb hr (fun t ht hW => ⟨_, rfl, rfl, ht⟩) (fun _ h => by cases h) dX8_from_30
def wd_X8_saw (cs : Nat → ClassId) (a_t a_t_house a_t_draft a_t_reader a_t_laws a_t_standing a_t_imageZero a_t_imageOne a_t_rounds a_t_ways a_t_margins a_t_marks a_t_house_turn a_t_house_bent a_t_margins_of a_t_margins_said : Nat) (v_t_keptZero : Int32) (v_t_keptOne : Int32) (v_t_target : Int32) (v_t_house_opinions : Int32) (v_t_house_lines : Int32) (v_t_house_books : Int32) (v_t_house_told : Int32) (v_t_house_scribes : Int32) (v_t_house_need : Int32) (v_t_margins_size : Int32) (g_t_margins_of : Nat → Int32) (g_t_margins_said : Nat → Int32) : va_W := [(a_t, .inr (8, [.ref a_t_house, .ref a_t_draft, .ref a_t_reader, .ref a_t_laws, .ref a_t_standing, .ref a_t_imageZero, .ref a_t_imageOne, .int v_t_keptZero, .int v_t_keptOne, .int v_t_target, .ref a_t_rounds, .ref a_t_ways, .ref a_t_margins, .ref a_t_marks])), (a_t_house, .inr (0, [.int v_t_house_opinions, .int v_t_house_lines, .int v_t_house_books, .int v_t_house_told, .int v_t_house_scribes, .int v_t_house_need, .ref a_t_house_turn, .ref a_t_house_bent])), (a_t_margins, .inr (2, [.ref a_t_margins_of, .ref a_t_margins_said, .int v_t_margins_size])), (a_t_margins_of, .inl (cs 0, 6, .inl g_t_margins_of)), (a_t_margins_said, .inl (cs 0, 6, .inl g_t_margins_said))]
def rm_X8_saw : Room := { frames := 1, cells := 0, slots := 0, locals := 22 }
theorem mI_X8_saw : MI yX8_saw RX8 cX8_saw 3 (some .int) 2 := ⟨gI_X8_saw, gE_X8_saw, gN_X8, gC_X8_saw, by decide +kernel⟩
set_option maxHeartbeats 4000000 in
set_option maxRecDepth 100000 in
theorem k_X8_saw (l : Launch) (G : va_G) (cs : Nat → ClassId) (a_t a_t_house a_t_draft a_t_reader a_t_laws a_t_standing a_t_imageZero a_t_imageOne a_t_rounds a_t_ways a_t_margins a_t_marks a_t_house_turn a_t_house_bent a_t_margins_of a_t_margins_said : Nat) (v_t_keptZero : Int32) (v_t_keptOne : Int32) (v_t_target : Int32) (v_t_house_opinions : Int32) (v_t_house_lines : Int32) (v_t_house_books : Int32) (v_t_house_told : Int32) (v_t_house_scribes : Int32) (v_t_house_need : Int32) (v_t_margins_size : Int32) (g_t_margins_of : Nat → Int32) (g_t_margins_said : Nat → Int32) (p1 p2 : Int32) (sz : Nat) (R0 : Int32 × Int32 × (Nat → Int32) × (Nat → Int32)) (hB : f_X8_saw v_t_house_opinions v_t_margins_size g_t_margins_of g_t_margins_said p1 p2 = some R0) : Met l yX8_saw (.code yX8_saw cX8_saw 3 (some .int) :: GW) rm_X8_saw (PcW G cs [.ref a_t, .int p1, .int p2] (wd_X8_saw cs a_t a_t_house a_t_draft a_t_reader a_t_laws a_t_standing a_t_imageZero a_t_imageOne a_t_rounds a_t_ways a_t_margins a_t_marks a_t_house_turn a_t_house_bent a_t_margins_of a_t_margins_said v_t_keptZero v_t_keptOne v_t_target v_t_house_opinions v_t_house_lines v_t_house_books v_t_house_told v_t_house_scribes v_t_house_need v_t_margins_size g_t_margins_of g_t_margins_said) sz) (QcI G (va_A (wd_X8_saw cs a_t a_t_house a_t_draft a_t_reader a_t_laws a_t_standing a_t_imageZero a_t_imageOne a_t_rounds a_t_ways a_t_margins a_t_marks a_t_house_turn a_t_house_bent a_t_margins_of a_t_margins_said v_t_keptZero v_t_keptOne v_t_target v_t_house_opinions v_t_house_lines v_t_house_books v_t_house_told v_t_house_scribes v_t_house_need v_t_margins_size g_t_margins_of g_t_margins_said) sz) (wd_X8_saw cs a_t a_t_house a_t_draft a_t_reader a_t_laws a_t_standing a_t_imageZero a_t_imageOne a_t_rounds a_t_ways a_t_margins a_t_marks a_t_house_turn a_t_house_bent a_t_margins_of a_t_margins_said v_t_keptZero v_t_keptOne v_t_target v_t_house_opinions v_t_house_lines v_t_house_books v_t_house_told v_t_house_scribes v_t_house_need R0.2.1 R0.2.2.1 R0.2.2.2) R0.1) 0 0 (va_A (wd_X8_saw cs a_t a_t_house a_t_draft a_t_reader a_t_laws a_t_standing a_t_imageZero a_t_imageOne a_t_rounds a_t_ways a_t_margins a_t_marks a_t_house_turn a_t_house_bent a_t_margins_of a_t_margins_said v_t_keptZero v_t_keptOne v_t_target v_t_house_opinions v_t_house_lines v_t_house_books v_t_house_told v_t_house_scribes v_t_house_need v_t_margins_size g_t_margins_of g_t_margins_said) sz) := by
  refine Met.ofW (cc := cX8_saw) (maxL := 3) (ret := (some .int)) (by decide) rfl ?_
  intro p e s m args below meth c s₁ B hml hv
  obtain ⟨rfl, hsz, hP, hD0, hK, hN⟩ := hv
  have hx := B.exec
  have hb := B.bytes
  have hr := B.returns
  have hts := atoms_spec (ws := .code yX8_saw cX8_saw 3 (some .int) :: GW) B.pre
  have hg : ∀ w ∈ GW, w.before _ s = true := fun w h => hts w (List.mem_cons_of_mem _ h)
  have hown : s.vm.findClass RX8 = some m.cls := findClass_of_methodNamed B.named
  have hlocks := B.notSynchronized
  subst hsz
  have hD := hD0.self (sz := s.heap.size)
  generalize hAe : va_A (wd_X8_saw cs a_t a_t_house a_t_draft a_t_reader a_t_laws a_t_standing a_t_imageZero a_t_imageOne a_t_rounds a_t_ways a_t_margins a_t_marks a_t_house_turn a_t_house_bent a_t_margins_of a_t_margins_said v_t_keptZero v_t_keptOne v_t_target v_t_house_opinions v_t_house_lines v_t_house_books v_t_house_told v_t_house_scribes v_t_house_need v_t_margins_size g_t_margins_of g_t_margins_said) s.heap.size = A at hD ⊢
  have hA : ∀ q : Nat, s.heap.size ≤ q → A q := fun q h => by rw [← hAe]; exact Or.inr h
  have hS : va_S A s.heap s.heap [] := va_S.rf
  have hl := lv_entry ([.ref a_t, .int p1, .int p2]) (n := 3) (Nat.le_of_ble_eq_true rfl)
  rw [lg_entry_eq]
  generalize (lg_sl ([.ref a_t, .int p1, .int p2]) ++ List.replicate (3 - (lg_sl ([.ref a_t, .int p1, .int p2])).length) Slot.unset).toArray = ls at hl ⊢
  have hl : lv_has ls 3 [(0, .ref a_t), (1, .int p1), (2, .int p2)] := hl
  obtain ⟨y, hB, hK0⟩ : ∃ y, f_X8_saw v_t_house_opinions v_t_margins_size g_t_margins_of g_t_margins_said p1 p2 = some y ∧ KEnd R0 y := ⟨R0, hB, rfl⟩
  have hKT := hK
  have hK := hK0
  obtain ⟨H, hHe⟩ : ∃ H, H = s.heap := ⟨_, rfl⟩
  obtain ⟨locs, hLe⟩ : ∃ L : List Loc, L = [] := ⟨_, rfl⟩
  rw [← hHe] at hP
  have hS : va_S A s.heap H locs := by rw [hHe, hLe]; exact hS
  show W p l e rm_X8_saw s m ([.ref a_t, .int p1, .int p2] : List Value).toArray below meth c s.heap [] 0 0 _ _
  suffices hgo : W p l e rm_X8_saw s m ([.ref a_t, .int p1, .int p2] : List Value).toArray below meth c H locs 0 0 (MQ below (QcI G A (wd_X8_saw cs a_t a_t_house a_t_draft a_t_reader a_t_laws a_t_standing a_t_imageZero a_t_imageOne a_t_rounds a_t_ways a_t_margins a_t_marks a_t_house_turn a_t_house_bent a_t_margins_of a_t_margins_said v_t_keptZero v_t_keptOne v_t_target v_t_house_opinions v_t_house_lines v_t_house_books v_t_house_told v_t_house_scribes v_t_house_need R0.2.1 R0.2.2.1 R0.2.2.2) R0.1) ([.ref a_t, .int p1, .int p2] : List Value).toArray s 0 0 A) (F0 m 0 ls []) by rw [hHe, hLe] at hgo; exact hgo
  refine lv_aload_n hx hb dX8_saw_0 rfl (lv_at hl 0 rfl) ?_
  refine va_get (D := G) (ci := 8) (v := .ref a_t_house) (C := RX8) (T := TX8) (N := 14) hx hb hg inX8 hown hKT hP 0 rfl rfl 0 (by decide) (hg _ gF_X8_10) (fun _ h9 => h9) rfl dX8_saw_1 ?_
  refine lv_iload_n hx hb dX8_saw_4 rfl (lv_at hl 1 rfl) ?_
  obtain ⟨q1, hq1, hB⟩ := bnd hB
  refine kr_VN (WC := wd_X0_hasOpinion cs a_t_house a_t_house_turn a_t_house_bent v_t_house_opinions v_t_house_lines v_t_house_books v_t_house_told v_t_house_scribes v_t_house_need) (As := [.int p1]) (rest := []) (r0 := q1) ⟨hx, hb, hml, hown, hg⟩ (k_X0_hasOpinion l G cs a_t_house a_t_house_turn a_t_house_bent v_t_house_opinions v_t_house_lines v_t_house_books v_t_house_told v_t_house_scribes v_t_house_need p1 q1 hq1) nM_X8_150_l mI_X0_hasOpinion (rmk rfl) hP hKT hN 1 rfl rfl [1] rfl rfl hl.1 rfl (Nat.le_of_ble_eq_true rfl) dX8_saw_5 ?_
  refine lv_if_eq (tgt := 22) hx hb dX8_saw_8 (by decide) (fun c_2 => ?_) (fun c_2 => ?_)
  · have hB := ifP c_2 hB
    refine lv_iconst (v := -1) hx hb dX8_saw_22 (by decide) ?_
    have hK := leafK hB hK
    have hK : ((-1 : Int32), v_t_margins_size, g_t_margins_of, g_t_margins_said) = R0 := hK
    subst hK
    exact W.iret (v := (-1 : Int32)) hx hb hr (fun t ht hW => ⟨⟨_, (), rfl, rfl, by rw [ht]; exact hP, hD⟩, hS.F ht⟩) hS.2.2 dX8_saw_23
  · have hB := ifN c_2 hB
    refine lv_aload_n hx hb dX8_saw_11 rfl (lv_at hl 0 rfl) ?_
    refine va_get (D := G) (ci := 8) (v := .ref a_t_house) (C := RX8) (T := TX8) (N := 14) hx hb hg inX8 hown hKT hP 0 rfl rfl 0 (by decide) (hg _ gF_X8_10) (fun _ h9 => h9) rfl dX8_saw_12 ?_
    refine lv_iload_n hx hb dX8_saw_15 rfl (lv_at hl 2 rfl) ?_
    obtain ⟨q3, hq3, hB⟩ := bnd hB
    refine kr_VN (WC := wd_X0_hasOpinion cs a_t_house a_t_house_turn a_t_house_bent v_t_house_opinions v_t_house_lines v_t_house_books v_t_house_told v_t_house_scribes v_t_house_need) (As := [.int p2]) (rest := []) (r0 := q3) ⟨hx, hb, hml, hown, hg⟩ (k_X0_hasOpinion l G cs a_t_house a_t_house_turn a_t_house_bent v_t_house_opinions v_t_house_lines v_t_house_books v_t_house_told v_t_house_scribes v_t_house_need p2 q3 hq3) nM_X8_150_l mI_X0_hasOpinion (rmk rfl) hP hKT hN 1 rfl rfl [1] rfl rfl hl.1 rfl (Nat.le_of_ble_eq_true rfl) dX8_saw_16 ?_
    refine lv_if_ne (tgt := 24) hx hb dX8_saw_19 (by decide) (fun c_4 => ?_) (fun c_4 => ?_)
    · have hB := ifN c_4 hB
      refine lv_aload_n hx hb dX8_saw_24 rfl (lv_at hl 0 rfl) ?_
      refine va_get (D := G) (ci := 8) (v := .ref a_t_margins) (C := RX8) (T := TX8) (N := 14) hx hb hg inX8 hown hKT hP 0 rfl rfl 12 (by decide) (hg _ gF_X8_65) (fun _ h9 => h9) rfl dX8_saw_25 ?_
      refine lv_iload_n hx hb dX8_saw_28 rfl (lv_at hl 1 rfl) ?_
      refine lv_iload_n hx hb dX8_saw_29 rfl (lv_at hl 2 rfl) ?_
      obtain ⟨⟨q5_0, q5_1, q5_2, q5_3⟩, hq5, hB⟩ := bnd hB
      refine kw_i (WC := wd_X2_add cs a_t_margins a_t_margins_of a_t_margins_said v_t_margins_size g_t_margins_of g_t_margins_said) (W1 := wd_X2_add cs a_t_margins a_t_margins_of a_t_margins_said q5_1 q5_2 q5_3) (W2 := wd_X8_saw cs a_t a_t_house a_t_draft a_t_reader a_t_laws a_t_standing a_t_imageZero a_t_imageOne a_t_rounds a_t_ways a_t_margins a_t_marks a_t_house_turn a_t_house_bent a_t_margins_of a_t_margins_said v_t_keptZero v_t_keptOne v_t_target v_t_house_opinions v_t_house_lines v_t_house_books v_t_house_told v_t_house_scribes v_t_house_need q5_1 q5_2 q5_3) (r0 := q5_0) (rw_VN (As := [.int p1, .int p2]) (rest := []) ⟨hx, hb, hml, hown, hg⟩ (k_X2_add l G cs a_t_margins a_t_margins_of a_t_margins_said v_t_margins_size g_t_margins_of g_t_margins_said p1 p2 H.size (q5_0, q5_1, q5_2, q5_3) hq5) nM_X8_266_l mI_X2_add (rmk rfl) hP hD hKT hN 2 rfl rfl [2, 3, 4] rfl rfl rfl hl.1 rfl (Nat.le_of_ble_eq_true rfl) dX8_saw_30) hP hD hS hA [2, 3, 4] [0, 1] [0, 1, 2, 3, 4] ⟨rfl, rfl, rfl, rfl, rfl, rfl, rfl⟩ (fun H locs hP hD hS => ?_)
      refine lv_if_eq (tgt := 46) hx hb dX8_saw_33 (by decide) (fun c_6 => ?_) (fun c_6 => ?_)
      · have hB := ifP c_6 hB
        refine lv_bipush (v := -3) hx hb dX8_saw_46 (by decide) ?_
        have hK := leafK hB hK
        have hK : ((-3 : Int32), q5_1, q5_2, q5_3) = R0 := hK
        subst hK
        exact W.iret (v := (-3 : Int32)) hx hb hr (fun t ht hW => ⟨⟨_, (), rfl, rfl, by rw [ht]; exact hP, hD⟩, hS.F ht⟩) hS.2.2 dX8_saw_48
      · have hB := ifN c_6 hB
        refine lv_aload_n hx hb dX8_saw_36 rfl (lv_at hl 0 rfl) ?_
        refine va_get (D := G) (ci := 8) (v := .ref a_t_margins) (C := RX8) (T := TX8) (N := 14) hx hb hg inX8 hown hKT hP 0 rfl rfl 12 (by decide) (hg _ gF_X8_65) (fun _ h9 => h9) rfl dX8_saw_37 ?_
        refine va_getN (D := G) (ci := 2) (v := .int q5_1) (C := RX2) (T := TX2) (N := 3) hx hb hg inX2 hown hKT hP 2 rfl rfl 2 (by decide) (va_Nw.use rfl (hN _ nF_X8_268_l rfl)) (fun _ h9 => h9) rfl dX8_saw_40 ?_
        refine lv_goto (tgt := 48) hx hb dX8_saw_43 (by decide) ?_
        have hK := leafK hB hK
        have hK : (q5_1, q5_1, q5_2, q5_3) = R0 := hK
        subst hK
        exact W.iret (v := q5_1) hx hb hr (fun t ht hW => ⟨⟨_, (), rfl, rfl, by rw [ht]; exact hP, hD⟩, hS.F ht⟩) hS.2.2 dX8_saw_48
    · have hB := ifP c_4 hB
      refine lv_iconst (v := -1) hx hb dX8_saw_22 (by decide) ?_
      have hK := leafK hB hK
      have hK : ((-1 : Int32), v_t_margins_size, g_t_margins_of, g_t_margins_said) = R0 := hK
      subst hK
      exact W.iret (v := (-1 : Int32)) hx hb hr (fun t ht hW => ⟨⟨_, (), rfl, rfl, by rw [ht]; exact hP, hD⟩, hS.F ht⟩) hS.2.2 dX8_saw_23
def wd_X8_forget (cs : Nat → ClassId) (a_t a_t_house a_t_draft a_t_reader a_t_laws a_t_standing a_t_imageZero a_t_imageOne a_t_rounds a_t_ways a_t_margins a_t_marks a_t_margins_of a_t_margins_said : Nat) (v_t_keptZero : Int32) (v_t_keptOne : Int32) (v_t_target : Int32) (v_t_margins_size : Int32) : va_W := [(a_t, .inr (8, [.ref a_t_house, .ref a_t_draft, .ref a_t_reader, .ref a_t_laws, .ref a_t_standing, .ref a_t_imageZero, .ref a_t_imageOne, .int v_t_keptZero, .int v_t_keptOne, .int v_t_target, .ref a_t_rounds, .ref a_t_ways, .ref a_t_margins, .ref a_t_marks])), (a_t_margins, .inr (2, [.ref a_t_margins_of, .ref a_t_margins_said, .int v_t_margins_size]))]
def rm_X8_forget : Room := { frames := 1, cells := 0, slots := 0, locals := 21 }
theorem mI_X8_forget : MI yX8_forget RX8 cX8_forget 1 (some .int) 0 := ⟨gI_X8_forget, gE_X8_forget, gN_X8, gC_X8_forget, by decide +kernel⟩
set_option maxHeartbeats 4000000 in
set_option maxRecDepth 100000 in
theorem k_X8_forget (l : Launch) (G : va_G) (cs : Nat → ClassId) (a_t a_t_house a_t_draft a_t_reader a_t_laws a_t_standing a_t_imageZero a_t_imageOne a_t_rounds a_t_ways a_t_margins a_t_marks a_t_margins_of a_t_margins_said : Nat) (v_t_keptZero : Int32) (v_t_keptOne : Int32) (v_t_target : Int32) (v_t_margins_size : Int32) (sz : Nat) (R0 : Int32 × Int32) (hB : f_X8_forget v_t_margins_size = some R0) : Met l yX8_forget (.code yX8_forget cX8_forget 1 (some .int) :: GW) rm_X8_forget (PcW G cs [.ref a_t] (wd_X8_forget cs a_t a_t_house a_t_draft a_t_reader a_t_laws a_t_standing a_t_imageZero a_t_imageOne a_t_rounds a_t_ways a_t_margins a_t_marks a_t_margins_of a_t_margins_said v_t_keptZero v_t_keptOne v_t_target v_t_margins_size) sz) (QcI G (va_A (wd_X8_forget cs a_t a_t_house a_t_draft a_t_reader a_t_laws a_t_standing a_t_imageZero a_t_imageOne a_t_rounds a_t_ways a_t_margins a_t_marks a_t_margins_of a_t_margins_said v_t_keptZero v_t_keptOne v_t_target v_t_margins_size) sz) (wd_X8_forget cs a_t a_t_house a_t_draft a_t_reader a_t_laws a_t_standing a_t_imageZero a_t_imageOne a_t_rounds a_t_ways a_t_margins a_t_marks a_t_margins_of a_t_margins_said v_t_keptZero v_t_keptOne v_t_target R0.2) R0.1) 0 0 (va_A (wd_X8_forget cs a_t a_t_house a_t_draft a_t_reader a_t_laws a_t_standing a_t_imageZero a_t_imageOne a_t_rounds a_t_ways a_t_margins a_t_marks a_t_margins_of a_t_margins_said v_t_keptZero v_t_keptOne v_t_target v_t_margins_size) sz) := by
  refine Met.ofW (cc := cX8_forget) (maxL := 1) (ret := (some .int)) (by decide) rfl ?_
  intro p e s m args below meth c s₁ B hml hv
  obtain ⟨rfl, hsz, hP, hD0, hK, hN⟩ := hv
  have hx := B.exec
  have hb := B.bytes
  have hr := B.returns
  have hts := atoms_spec (ws := .code yX8_forget cX8_forget 1 (some .int) :: GW) B.pre
  have hg : ∀ w ∈ GW, w.before _ s = true := fun w h => hts w (List.mem_cons_of_mem _ h)
  have hown : s.vm.findClass RX8 = some m.cls := findClass_of_methodNamed B.named
  have hlocks := B.notSynchronized
  subst hsz
  have hD := hD0.self (sz := s.heap.size)
  generalize hAe : va_A (wd_X8_forget cs a_t a_t_house a_t_draft a_t_reader a_t_laws a_t_standing a_t_imageZero a_t_imageOne a_t_rounds a_t_ways a_t_margins a_t_marks a_t_margins_of a_t_margins_said v_t_keptZero v_t_keptOne v_t_target v_t_margins_size) s.heap.size = A at hD ⊢
  have hA : ∀ q : Nat, s.heap.size ≤ q → A q := fun q h => by rw [← hAe]; exact Or.inr h
  have hS : va_S A s.heap s.heap [] := va_S.rf
  have hl := lv_entry ([.ref a_t]) (n := 1) (Nat.le_of_ble_eq_true rfl)
  rw [lg_entry_eq]
  generalize (lg_sl ([.ref a_t]) ++ List.replicate (1 - (lg_sl ([.ref a_t])).length) Slot.unset).toArray = ls at hl ⊢
  have hl : lv_has ls 1 [(0, .ref a_t)] := hl
  obtain ⟨y, hB, hK0⟩ : ∃ y, f_X8_forget v_t_margins_size = some y ∧ KEnd R0 y := ⟨R0, hB, rfl⟩
  have hKT := hK
  have hK := hK0
  obtain ⟨H, hHe⟩ : ∃ H, H = s.heap := ⟨_, rfl⟩
  obtain ⟨locs, hLe⟩ : ∃ L : List Loc, L = [] := ⟨_, rfl⟩
  rw [← hHe] at hP
  have hS : va_S A s.heap H locs := by rw [hHe, hLe]; exact hS
  show W p l e rm_X8_forget s m ([.ref a_t] : List Value).toArray below meth c s.heap [] 0 0 _ _
  suffices hgo : W p l e rm_X8_forget s m ([.ref a_t] : List Value).toArray below meth c H locs 0 0 (MQ below (QcI G A (wd_X8_forget cs a_t a_t_house a_t_draft a_t_reader a_t_laws a_t_standing a_t_imageZero a_t_imageOne a_t_rounds a_t_ways a_t_margins a_t_marks a_t_margins_of a_t_margins_said v_t_keptZero v_t_keptOne v_t_target R0.2) R0.1) ([.ref a_t] : List Value).toArray s 0 0 A) (F0 m 0 ls []) by rw [hHe, hLe] at hgo; exact hgo
  refine lv_aload_n hx hb dX8_forget_0 rfl (lv_at hl 0 rfl) ?_
  refine va_get (D := G) (ci := 8) (v := .ref a_t_margins) (C := RX8) (T := TX8) (N := 14) hx hb hg inX8 hown hKT hP 0 rfl rfl 12 (by decide) (hg _ gF_X8_65) (fun _ h9 => h9) rfl dX8_forget_1 ?_
  obtain ⟨⟨q1_0, q1_1⟩, hq1, hB⟩ := bnd hB
  refine kw_i (WC := wd_X2_empty cs a_t_margins a_t_margins_of a_t_margins_said v_t_margins_size) (W1 := wd_X2_empty cs a_t_margins a_t_margins_of a_t_margins_said q1_1) (W2 := wd_X8_forget cs a_t a_t_house a_t_draft a_t_reader a_t_laws a_t_standing a_t_imageZero a_t_imageOne a_t_rounds a_t_ways a_t_margins a_t_marks a_t_margins_of a_t_margins_said v_t_keptZero v_t_keptOne v_t_target q1_1) (r0 := q1_0) (rw_VN (As := []) (rest := []) ⟨hx, hb, hml, hown, hg⟩ (k_X2_empty l G cs a_t_margins a_t_margins_of a_t_margins_said v_t_margins_size H.size (q1_0, q1_1) hq1) nM_X8_106_l mI_X2_empty (rmk rfl) hP hD hKT hN 1 rfl rfl [1] rfl rfl rfl hl.1 rfl (Nat.le_of_ble_eq_true rfl) dX8_forget_4) hP hD hS hA [1] [0] [0, 1] ⟨rfl, rfl, rfl, rfl, rfl, rfl, rfl⟩ (fun H locs hP hD hS => ?_)
  have hK := leafK hB hK
  have hK : (q1_0, q1_1) = R0 := hK
  subst hK
  exact W.iret (v := q1_0) hx hb hr (fun t ht hW => ⟨⟨_, (), rfl, rfl, by rw [ht]; exact hP, hD⟩, hS.F ht⟩) hS.2.2 dX8_forget_7
def wd_X8_fit (cs : Nat → ClassId) (a_t a_t_house a_t_draft a_t_reader a_t_laws a_t_standing a_t_imageZero a_t_imageOne a_t_rounds a_t_ways a_t_margins a_t_marks a_t_house_turn a_t_house_bent a_t_margins_of a_t_margins_said : Nat) (v_t_keptZero : Int32) (v_t_keptOne : Int32) (v_t_target : Int32) (v_t_house_opinions : Int32) (v_t_house_lines : Int32) (v_t_house_books : Int32) (v_t_house_told : Int32) (v_t_house_scribes : Int32) (v_t_house_need : Int32) (v_t_margins_size : Int32) (g_t_margins_of : Nat → Int32) (g_t_margins_said : Nat → Int32) : va_W := [(a_t, .inr (8, [.ref a_t_house, .ref a_t_draft, .ref a_t_reader, .ref a_t_laws, .ref a_t_standing, .ref a_t_imageZero, .ref a_t_imageOne, .int v_t_keptZero, .int v_t_keptOne, .int v_t_target, .ref a_t_rounds, .ref a_t_ways, .ref a_t_margins, .ref a_t_marks])), (a_t_house, .inr (0, [.int v_t_house_opinions, .int v_t_house_lines, .int v_t_house_books, .int v_t_house_told, .int v_t_house_scribes, .int v_t_house_need, .ref a_t_house_turn, .ref a_t_house_bent])), (a_t_margins, .inr (2, [.ref a_t_margins_of, .ref a_t_margins_said, .int v_t_margins_size])), (a_t_margins_of, .inl (cs 0, 6, .inl g_t_margins_of)), (a_t_margins_said, .inl (cs 0, 6, .inl g_t_margins_said))]
def rm_X8_fit : Room := { frames := 4, cells := 0, slots := 0, locals := 97 }
theorem mI_X8_fit : MI yX8_fit RX8 cX8_fit 2 (some .int) 1 := ⟨gI_X8_fit, gE_X8_fit, gN_X8, gC_X8_fit, by decide +kernel⟩
set_option maxHeartbeats 4000000 in
set_option maxRecDepth 100000 in
theorem k_X8_fit (l : Launch) (G : va_G) (cs : Nat → ClassId) (a_t a_t_house a_t_draft a_t_reader a_t_laws a_t_standing a_t_imageZero a_t_imageOne a_t_rounds a_t_ways a_t_margins a_t_marks a_t_house_turn a_t_house_bent a_t_margins_of a_t_margins_said : Nat) (v_t_keptZero : Int32) (v_t_keptOne : Int32) (v_t_target : Int32) (v_t_house_opinions : Int32) (v_t_house_lines : Int32) (v_t_house_books : Int32) (v_t_house_told : Int32) (v_t_house_scribes : Int32) (v_t_house_need : Int32) (v_t_margins_size : Int32) (g_t_margins_of : Nat → Int32) (g_t_margins_said : Nat → Int32) (p1 : Int32) (R0 : Int32) (hB : f_X8_fit v_t_house_opinions v_t_margins_size g_t_margins_of g_t_margins_said p1 = some R0) : Met l yX8_fit (.code yX8_fit cX8_fit 2 (some .int) :: GW) rm_X8_fit (PcR G cs [.ref a_t, .int p1] (wd_X8_fit cs a_t a_t_house a_t_draft a_t_reader a_t_laws a_t_standing a_t_imageZero a_t_imageOne a_t_rounds a_t_ways a_t_margins a_t_marks a_t_house_turn a_t_house_bent a_t_margins_of a_t_margins_said v_t_keptZero v_t_keptOne v_t_target v_t_house_opinions v_t_house_lines v_t_house_books v_t_house_told v_t_house_scribes v_t_house_need v_t_margins_size g_t_margins_of g_t_margins_said)) (vp_Si (fun r => r = R0)) 0 0 (fun _ => False) := by
  refine Met.ofW (cc := cX8_fit) (maxL := 2) (ret := (some .int)) (by decide) rfl ?_
  intro p e s m args below meth c s₁ B hml hv
  obtain ⟨rfl, hP, hK, hN⟩ := hv
  have hx := B.exec
  have hb := B.bytes
  have hr := B.returns
  have hts := atoms_spec (ws := .code yX8_fit cX8_fit 2 (some .int) :: GW) B.pre
  have hg : ∀ w ∈ GW, w.before _ s = true := fun w h => hts w (List.mem_cons_of_mem _ h)
  have hown : s.vm.findClass RX8 = some m.cls := findClass_of_methodNamed B.named
  have hlocks := B.notSynchronized
  have hl := lv_entry ([.ref a_t, .int p1]) (n := 2) (Nat.le_of_ble_eq_true rfl)
  rw [lg_entry_eq]
  generalize (lg_sl ([.ref a_t, .int p1]) ++ List.replicate (2 - (lg_sl ([.ref a_t, .int p1])).length) Slot.unset).toArray = ls at hl ⊢
  have hl : lv_has ls 2 [(0, .ref a_t), (1, .int p1)] := hl
  obtain ⟨y, hB, hK0⟩ : ∃ y, f_X8_fit v_t_house_opinions v_t_margins_size g_t_margins_of g_t_margins_said p1 = some y ∧ KEnd R0 y := ⟨R0, hB, rfl⟩
  have hKT := hK
  have hK := hK0
  show W p l e rm_X8_fit s m ([.ref a_t, .int p1] : List Value).toArray below meth c s.heap [] 0 0 (MQ below (vp_Si (fun r => r = R0)) ([.ref a_t, .int p1] : List Value).toArray s 0 0 (fun _ => False)) (F0 m 0 ls [])
  refine lv_iload_n hx hb dX8_fit_0 rfl (lv_at hl 1 rfl) ?_
  by_cases c_4_0 : p1 = 0
  · have hB := ifP c_4_0 hB
    refine lv_tableIn (off := 27) (tgt := 28) hx hb dX8_fit_1 (by rw [c_4_0]; decide) (by rw [c_4_0]; decide) (by rw [c_4_0]; decide) (by decide) ?_
    refine lv_aload_n hx hb dX8_fit_28 rfl (lv_at hl 0 rfl) ?_
    refine va_get (D := G) (ci := 8) (v := .ref a_t_margins) (C := RX8) (T := TX8) (N := 14) hx hb hg inX8 hown hKT hP 0 rfl rfl 12 (by decide) (hg _ gF_X8_65) (fun _ h9 => h9) rfl dX8_fit_29 ?_
    refine lv_aload_n hx hb dX8_fit_32 rfl (lv_at hl 0 rfl) ?_
    refine va_get (D := G) (ci := 8) (v := .ref a_t_house) (C := RX8) (T := TX8) (N := 14) hx hb hg inX8 hown hKT hP 0 rfl rfl 0 (by decide) (hg _ gF_X8_10) (fun _ h9 => h9) rfl dX8_fit_33 ?_
    refine va_getN (D := G) (ci := 0) (v := .int v_t_house_opinions) (C := RX0) (T := TX0) (N := 8) hx hb hg inX0 hown hKT hP 1 rfl rfl 0 (by decide) (va_Nw.use rfl (hN _ nF_X8_271_l rfl)) (fun _ h9 => h9) rfl dX8_fit_36 ?_
    obtain ⟨q1, hq1, hB⟩ := bnd hB
    refine kr_VN (WC := wd_X2_countFits cs a_t_margins a_t_margins_of a_t_margins_said v_t_margins_size g_t_margins_of g_t_margins_said) (As := [.int v_t_house_opinions]) (rest := []) (r0 := q1) ⟨hx, hb, hml, hown, hg⟩ (k_X2_countFits l G cs a_t_margins a_t_margins_of a_t_margins_said v_t_margins_size g_t_margins_of g_t_margins_said v_t_house_opinions q1 hq1) nM_X8_274_l mI_X2_countFits (rmk rfl) hP hKT hN 2 rfl rfl [2, 3, 4] rfl rfl hl.1 rfl (Nat.le_of_ble_eq_true rfl) dX8_fit_39 ?_
    have hK := leafK hB hK
    have hK : q1 = R0 := hK
    subst hK
    exact W.iret (v := q1) hx hb hr (fun t ht hW => ⟨_, rfl, rfl, ht⟩) (fun _ h => by cases h) dX8_fit_42
  have hB := ifN c_4_0 hB
  by_cases c_4_1 : p1 = 1
  · have hB := ifP c_4_1 hB
    refine lv_tableIn (off := 42) (tgt := 43) hx hb dX8_fit_1 (by rw [c_4_1]; decide) (by rw [c_4_1]; decide) (by rw [c_4_1]; decide) (by decide) ?_
    refine lv_aload_n hx hb dX8_fit_43 rfl (lv_at hl 0 rfl) ?_
    refine va_get (D := G) (ci := 8) (v := .ref a_t_margins) (C := RX8) (T := TX8) (N := 14) hx hb hg inX8 hown hKT hP 0 rfl rfl 12 (by decide) (hg _ gF_X8_65) (fun _ h9 => h9) rfl dX8_fit_44 ?_
    refine lv_aload_n hx hb dX8_fit_47 rfl (lv_at hl 0 rfl) ?_
    refine va_get (D := G) (ci := 8) (v := .ref a_t_house) (C := RX8) (T := TX8) (N := 14) hx hb hg inX8 hown hKT hP 0 rfl rfl 0 (by decide) (hg _ gF_X8_10) (fun _ h9 => h9) rfl dX8_fit_48 ?_
    refine va_getN (D := G) (ci := 0) (v := .int v_t_house_opinions) (C := RX0) (T := TX0) (N := 8) hx hb hg inX0 hown hKT hP 1 rfl rfl 0 (by decide) (va_Nw.use rfl (hN _ nF_X8_271_l rfl)) (fun _ h9 => h9) rfl dX8_fit_51 ?_
    obtain ⟨q2, hq2, hB⟩ := bnd hB
    refine kr_VN (WC := wd_X2_firstFit cs a_t_margins a_t_margins_of a_t_margins_said v_t_margins_size g_t_margins_of g_t_margins_said) (As := [.int v_t_house_opinions]) (rest := []) (r0 := q2) ⟨hx, hb, hml, hown, hg⟩ (k_X2_firstFit l G cs a_t_margins a_t_margins_of a_t_margins_said v_t_margins_size g_t_margins_of g_t_margins_said v_t_house_opinions q2 hq2) nM_X8_277_l mI_X2_firstFit (rmk rfl) hP hKT hN 2 rfl rfl [2, 3, 4] rfl rfl hl.1 rfl (Nat.le_of_ble_eq_true rfl) dX8_fit_54 ?_
    have hK := leafK hB hK
    have hK : q2 = R0 := hK
    subst hK
    exact W.iret (v := q2) hx hb hr (fun t ht hW => ⟨_, rfl, rfl, ht⟩) (fun _ h => by cases h) dX8_fit_57
  have hB := ifN c_4_1 hB
  by_cases c_4_2 : p1 = 2
  · have hB := ifP c_4_2 hB
    refine lv_tableIn (off := 57) (tgt := 58) hx hb dX8_fit_1 (by rw [c_4_2]; decide) (by rw [c_4_2]; decide) (by rw [c_4_2]; decide) (by decide) ?_
    refine lv_aload_n hx hb dX8_fit_58 rfl (lv_at hl 0 rfl) ?_
    refine va_get (D := G) (ci := 8) (v := .ref a_t_margins) (C := RX8) (T := TX8) (N := 14) hx hb hg inX8 hown hKT hP 0 rfl rfl 12 (by decide) (hg _ gF_X8_65) (fun _ h9 => h9) rfl dX8_fit_59 ?_
    refine lv_aload_n hx hb dX8_fit_62 rfl (lv_at hl 0 rfl) ?_
    refine va_get (D := G) (ci := 8) (v := .ref a_t_house) (C := RX8) (T := TX8) (N := 14) hx hb hg inX8 hown hKT hP 0 rfl rfl 0 (by decide) (hg _ gF_X8_10) (fun _ h9 => h9) rfl dX8_fit_63 ?_
    refine va_getN (D := G) (ci := 0) (v := .int v_t_house_opinions) (C := RX0) (T := TX0) (N := 8) hx hb hg inX0 hown hKT hP 1 rfl rfl 0 (by decide) (va_Nw.use rfl (hN _ nF_X8_271_l rfl)) (fun _ h9 => h9) rfl dX8_fit_66 ?_
    obtain ⟨q3, hq3, hB⟩ := bnd hB
    refine kr_VN (WC := wd_X2_mostTelling cs a_t_margins a_t_margins_of a_t_margins_said v_t_margins_size g_t_margins_of g_t_margins_said) (As := [.int v_t_house_opinions]) (rest := []) (r0 := q3) ⟨hx, hb, hml, hown, hg⟩ (k_X2_mostTelling l G cs a_t_margins a_t_margins_of a_t_margins_said v_t_margins_size g_t_margins_of g_t_margins_said v_t_house_opinions q3 hq3) nM_X8_280_l mI_X2_mostTelling (rmk rfl) hP hKT hN 2 rfl rfl [2, 3, 4] rfl rfl hl.1 rfl (Nat.le_of_ble_eq_true rfl) dX8_fit_69 ?_
    have hK := leafK hB hK
    have hK : q3 = R0 := hK
    subst hK
    exact W.iret (v := q3) hx hb hr (fun t ht hW => ⟨_, rfl, rfl, ht⟩) (fun _ h => by cases h) dX8_fit_72
  have hB := ifN c_4_2 hB
  have c_4_0t := lv_neT (a := 0) c_4_0 rfl
  have c_4_1t := lv_neT (a := 1) c_4_1 rfl
  have c_4_2t := lv_neT (a := 2) c_4_2 rfl
  refine lv_tableOut (tgt := 73) hx hb dX8_fit_1 (by omega) (by decide) ?_
  refine lv_iconst (v := -1) hx hb dX8_fit_73 (by decide) ?_
  have hK := leafK hB hK
  have hK : (-1 : Int32) = R0 := hK
  subst hK
  exact W.iret (v := (-1 : Int32)) hx hb hr (fun t ht hW => ⟨_, rfl, rfl, ht⟩) (fun _ h => by cases h) dX8_fit_74
def wd_X8_mark (cs : Nat → ClassId) (a_t a_t_house a_t_draft a_t_reader a_t_laws a_t_standing a_t_imageZero a_t_imageOne a_t_rounds a_t_ways a_t_margins a_t_marks a_t_house_turn a_t_house_bent a_t_standing_rows : Nat) (r_t_standing_rows : Nat → Nat) (v_t_keptZero : Int32) (v_t_keptOne : Int32) (v_t_target : Int32) (v_t_house_opinions : Int32) (v_t_house_lines : Int32) (v_t_house_books : Int32) (v_t_house_told : Int32) (v_t_house_scribes : Int32) (v_t_house_need : Int32) (g_t_house_turn : Nat → Int32) (g_t_house_bent : Nat → Int32) (v_t_standing_known : Int32) (g_t_standing_rows : Nat → Nat → Int32) (v_t_marks_unlike : Int32) (v_t_marks_turn : Int32) (v_t_marks_bent : Int32) (v_t_marks_times : Int32) (v_t_marks_copies : Int32) (v_t_marks_traced : Int64) : va_W := [(a_t, .inr (8, [.ref a_t_house, .ref a_t_draft, .ref a_t_reader, .ref a_t_laws, .ref a_t_standing, .ref a_t_imageZero, .ref a_t_imageOne, .int v_t_keptZero, .int v_t_keptOne, .int v_t_target, .ref a_t_rounds, .ref a_t_ways, .ref a_t_margins, .ref a_t_marks])), (a_t_house, .inr (0, [.int v_t_house_opinions, .int v_t_house_lines, .int v_t_house_books, .int v_t_house_told, .int v_t_house_scribes, .int v_t_house_need, .ref a_t_house_turn, .ref a_t_house_bent])), (a_t_house_turn, .inl (cs 0, 6, .inl g_t_house_turn)), (a_t_house_bent, .inl (cs 0, 6, .inl g_t_house_bent)), (a_t_standing, .inr (6, [.ref a_t_standing_rows, .int v_t_standing_known])), (a_t_standing_rows, .inl (cs 3, 11, .inr (.inr (.inr (.inr (gO r_t_standing_rows)))))), (r_t_standing_rows 0, .inl (cs 0, 9, .inl (g_t_standing_rows 0))), (r_t_standing_rows 1, .inl (cs 0, 9, .inl (g_t_standing_rows 1))), (r_t_standing_rows 2, .inl (cs 0, 9, .inl (g_t_standing_rows 2))), (r_t_standing_rows 3, .inl (cs 0, 9, .inl (g_t_standing_rows 3))), (r_t_standing_rows 4, .inl (cs 0, 9, .inl (g_t_standing_rows 4))), (r_t_standing_rows 5, .inl (cs 0, 9, .inl (g_t_standing_rows 5))), (r_t_standing_rows 6, .inl (cs 0, 9, .inl (g_t_standing_rows 6))), (r_t_standing_rows 7, .inl (cs 0, 9, .inl (g_t_standing_rows 7))), (r_t_standing_rows 8, .inl (cs 0, 9, .inl (g_t_standing_rows 8))), (r_t_standing_rows 9, .inl (cs 0, 9, .inl (g_t_standing_rows 9))), (r_t_standing_rows 10, .inl (cs 0, 9, .inl (g_t_standing_rows 10))), (a_t_marks, .inr (3, [.int v_t_marks_unlike, .int v_t_marks_turn, .int v_t_marks_bent, .int v_t_marks_times, .int v_t_marks_copies, .long v_t_marks_traced]))]
def rm_X8_mark : Room := { frames := 10, cells := 0, slots := 0, locals := 230 }
theorem mI_X8_mark : MI yX8_mark RX8 cX8_mark 3 (some .int) 2 := ⟨gI_X8_mark, gE_X8_mark, gN_X8, gC_X8_mark, by decide +kernel⟩
set_option maxHeartbeats 4000000 in
set_option maxRecDepth 100000 in
theorem k_X8_mark (l : Launch) (G : va_G) (cs : Nat → ClassId) (a_t a_t_house a_t_draft a_t_reader a_t_laws a_t_standing a_t_imageZero a_t_imageOne a_t_rounds a_t_ways a_t_margins a_t_marks a_t_house_turn a_t_house_bent a_t_standing_rows : Nat) (r_t_standing_rows : Nat → Nat) (v_t_keptZero : Int32) (v_t_keptOne : Int32) (v_t_target : Int32) (v_t_house_opinions : Int32) (v_t_house_lines : Int32) (v_t_house_books : Int32) (v_t_house_told : Int32) (v_t_house_scribes : Int32) (v_t_house_need : Int32) (g_t_house_turn : Nat → Int32) (g_t_house_bent : Nat → Int32) (v_t_standing_known : Int32) (g_t_standing_rows : Nat → Nat → Int32) (v_t_marks_unlike : Int32) (v_t_marks_turn : Int32) (v_t_marks_bent : Int32) (v_t_marks_times : Int32) (v_t_marks_copies : Int32) (v_t_marks_traced : Int64) (p1 p2 : Int32) (sz : Nat) (R0 : Int32 × Int32 × Int32 × Int32 × Int32 × Int32 × Int64) (hB : f_X8_mark v_t_house_opinions v_t_house_lines v_t_house_scribes g_t_house_turn g_t_house_bent v_t_standing_known g_t_standing_rows v_t_marks_unlike v_t_marks_turn v_t_marks_bent v_t_marks_times v_t_marks_copies v_t_marks_traced p1 p2 = some R0) : Met l yX8_mark (.code yX8_mark cX8_mark 3 (some .int) :: GW) rm_X8_mark (PcS G cs [.ref a_t, .int p1, .int p2] (wd_X8_mark cs a_t a_t_house a_t_draft a_t_reader a_t_laws a_t_standing a_t_imageZero a_t_imageOne a_t_rounds a_t_ways a_t_margins a_t_marks a_t_house_turn a_t_house_bent a_t_standing_rows r_t_standing_rows v_t_keptZero v_t_keptOne v_t_target v_t_house_opinions v_t_house_lines v_t_house_books v_t_house_told v_t_house_scribes v_t_house_need g_t_house_turn g_t_house_bent v_t_standing_known g_t_standing_rows v_t_marks_unlike v_t_marks_turn v_t_marks_bent v_t_marks_times v_t_marks_copies v_t_marks_traced) sz) (QcI G (va_A (wd_X8_mark cs a_t a_t_house a_t_draft a_t_reader a_t_laws a_t_standing a_t_imageZero a_t_imageOne a_t_rounds a_t_ways a_t_margins a_t_marks a_t_house_turn a_t_house_bent a_t_standing_rows r_t_standing_rows v_t_keptZero v_t_keptOne v_t_target v_t_house_opinions v_t_house_lines v_t_house_books v_t_house_told v_t_house_scribes v_t_house_need g_t_house_turn g_t_house_bent v_t_standing_known g_t_standing_rows v_t_marks_unlike v_t_marks_turn v_t_marks_bent v_t_marks_times v_t_marks_copies v_t_marks_traced) sz) (wd_X8_mark cs a_t a_t_house a_t_draft a_t_reader a_t_laws a_t_standing a_t_imageZero a_t_imageOne a_t_rounds a_t_ways a_t_margins a_t_marks a_t_house_turn a_t_house_bent a_t_standing_rows r_t_standing_rows v_t_keptZero v_t_keptOne v_t_target v_t_house_opinions v_t_house_lines v_t_house_books v_t_house_told v_t_house_scribes v_t_house_need g_t_house_turn g_t_house_bent v_t_standing_known g_t_standing_rows R0.2.1 R0.2.2.1 R0.2.2.2.1 R0.2.2.2.2.1 R0.2.2.2.2.2.1 R0.2.2.2.2.2.2) R0.1) 0 0 (va_A (wd_X8_mark cs a_t a_t_house a_t_draft a_t_reader a_t_laws a_t_standing a_t_imageZero a_t_imageOne a_t_rounds a_t_ways a_t_margins a_t_marks a_t_house_turn a_t_house_bent a_t_standing_rows r_t_standing_rows v_t_keptZero v_t_keptOne v_t_target v_t_house_opinions v_t_house_lines v_t_house_books v_t_house_told v_t_house_scribes v_t_house_need g_t_house_turn g_t_house_bent v_t_standing_known g_t_standing_rows v_t_marks_unlike v_t_marks_turn v_t_marks_bent v_t_marks_times v_t_marks_copies v_t_marks_traced) sz) := by
  refine Met.ofW (cc := cX8_mark) (maxL := 3) (ret := (some .int)) (by decide) rfl ?_
  intro p e s m args below meth c s₁ B hml hv
  obtain ⟨rfl, hsz, hP, hD0, hK, hN, hST⟩ := hv
  have hx := B.exec
  have hb := B.bytes
  have hr := B.returns
  have hts := atoms_spec (ws := .code yX8_mark cX8_mark 3 (some .int) :: GW) B.pre
  have hg : ∀ w ∈ GW, w.before _ s = true := fun w h => hts w (List.mem_cons_of_mem _ h)
  have hown : s.vm.findClass RX8 = some m.cls := findClass_of_methodNamed B.named
  have hlocks := B.notSynchronized
  subst hsz
  have hD := hD0.self (sz := s.heap.size)
  generalize hAe : va_A (wd_X8_mark cs a_t a_t_house a_t_draft a_t_reader a_t_laws a_t_standing a_t_imageZero a_t_imageOne a_t_rounds a_t_ways a_t_margins a_t_marks a_t_house_turn a_t_house_bent a_t_standing_rows r_t_standing_rows v_t_keptZero v_t_keptOne v_t_target v_t_house_opinions v_t_house_lines v_t_house_books v_t_house_told v_t_house_scribes v_t_house_need g_t_house_turn g_t_house_bent v_t_standing_known g_t_standing_rows v_t_marks_unlike v_t_marks_turn v_t_marks_bent v_t_marks_times v_t_marks_copies v_t_marks_traced) s.heap.size = A at hD hST ⊢
  have hA : ∀ q : Nat, s.heap.size ≤ q → A q := fun q h => by rw [← hAe]; exact Or.inr h
  have hS : va_S A s.heap s.heap [] := va_S.rf
  have hl := lv_entry ([.ref a_t, .int p1, .int p2]) (n := 3) (Nat.le_of_ble_eq_true rfl)
  rw [lg_entry_eq]
  generalize (lg_sl ([.ref a_t, .int p1, .int p2]) ++ List.replicate (3 - (lg_sl ([.ref a_t, .int p1, .int p2])).length) Slot.unset).toArray = ls at hl ⊢
  have hl : lv_has ls 3 [(0, .ref a_t), (1, .int p1), (2, .int p2)] := hl
  obtain ⟨y, hB, hK0⟩ : ∃ y, f_X8_mark v_t_house_opinions v_t_house_lines v_t_house_scribes g_t_house_turn g_t_house_bent v_t_standing_known g_t_standing_rows v_t_marks_unlike v_t_marks_turn v_t_marks_bent v_t_marks_times v_t_marks_copies v_t_marks_traced p1 p2 = some y ∧ KEnd R0 y := ⟨R0, hB, rfl⟩
  have hKT := hK
  obtain ⟨tA, tT, hZ_ABOVE, hT_ABOVE, hZ_TRACED, hT_TRACED⟩ := id hST
  have hK := hK0
  obtain ⟨H, hHe⟩ : ∃ H, H = s.heap := ⟨_, rfl⟩
  obtain ⟨locs, hLe⟩ : ∃ L : List Loc, L = [] := ⟨_, rfl⟩
  rw [← hHe] at hP
  have hS : va_S A s.heap H locs := by rw [hHe, hLe]; exact hS
  show W p l e rm_X8_mark s m ([.ref a_t, .int p1, .int p2] : List Value).toArray below meth c s.heap [] 0 0 _ _
  suffices hgo : W p l e rm_X8_mark s m ([.ref a_t, .int p1, .int p2] : List Value).toArray below meth c H locs 0 0 (MQ below (QcI G A (wd_X8_mark cs a_t a_t_house a_t_draft a_t_reader a_t_laws a_t_standing a_t_imageZero a_t_imageOne a_t_rounds a_t_ways a_t_margins a_t_marks a_t_house_turn a_t_house_bent a_t_standing_rows r_t_standing_rows v_t_keptZero v_t_keptOne v_t_target v_t_house_opinions v_t_house_lines v_t_house_books v_t_house_told v_t_house_scribes v_t_house_need g_t_house_turn g_t_house_bent v_t_standing_known g_t_standing_rows R0.2.1 R0.2.2.1 R0.2.2.2.1 R0.2.2.2.2.1 R0.2.2.2.2.2.1 R0.2.2.2.2.2.2) R0.1) ([.ref a_t, .int p1, .int p2] : List Value).toArray s 0 0 A) (F0 m 0 ls []) by rw [hHe, hLe] at hgo; exact hgo
  refine lv_iload_n hx hb dX8_mark_0 rfl (lv_at hl 1 rfl) ?_
  obtain ⟨q1, hq1, hB⟩ := bnd hB
  refine kr_SN (WC := wd_X3_isKind cs ) (As := [.int p1]) (rest := []) (r0 := q1) ⟨hx, hb, hml, hown, hg⟩ (k_X3_isKind l G cs p1 q1 hq1) nM_X8_283_l mS_X3_isKind (rmk rfl) hP hKT hN [] rfl rfl hl.1 rfl (Nat.le_of_ble_eq_true rfl) dX8_mark_1 ?_
  refine lv_if_eq (tgt := 18) hx hb dX8_mark_4 (by decide) (fun c_2 => ?_) (fun c_2 => ?_)
  · have hB := ifP c_2 hB
    refine lv_ldcw (v := -1000000) hx hb hown (hg _ gK_X8_286) dX8_mark_18 ?_
    have hK := leafK hB hK
    have hK : ((-1000000 : Int32), v_t_marks_unlike, v_t_marks_turn, v_t_marks_bent, v_t_marks_times, v_t_marks_copies, v_t_marks_traced) = R0 := hK
    subst hK
    exact W.iret (v := (-1000000 : Int32)) hx hb hr (fun t ht hW => ⟨⟨_, (), rfl, rfl, by rw [ht]; exact hP, hD⟩, hS.F ht⟩) hS.2.2 dX8_mark_21
  · have hB := ifN c_2 hB
    refine lv_aload_n hx hb dX8_mark_7 rfl (lv_at hl 0 rfl) ?_
    refine va_get (D := G) (ci := 8) (v := .ref a_t_house) (C := RX8) (T := TX8) (N := 14) hx hb hg inX8 hown hKT hP 0 rfl rfl 0 (by decide) (hg _ gF_X8_10) (fun _ h9 => h9) rfl dX8_mark_8 ?_
    refine lv_iload_n hx hb dX8_mark_11 rfl (lv_at hl 2 rfl) ?_
    obtain ⟨q3, hq3, hB⟩ := bnd hB
    refine kr_VN (WC := wd_X0_hasScribe cs a_t_house a_t_house_turn a_t_house_bent v_t_house_opinions v_t_house_lines v_t_house_books v_t_house_told v_t_house_scribes v_t_house_need) (As := [.int p2]) (rest := []) (r0 := q3) ⟨hx, hb, hml, hown, hg⟩ (k_X0_hasScribe l G cs a_t_house a_t_house_turn a_t_house_bent v_t_house_opinions v_t_house_lines v_t_house_books v_t_house_told v_t_house_scribes v_t_house_need p2 q3 hq3) nM_X8_124_l mI_X0_hasScribe (rmk rfl) hP hKT hN 1 rfl rfl [1] rfl rfl hl.1 rfl (Nat.le_of_ble_eq_true rfl) dX8_mark_12 ?_
    refine lv_if_ne (tgt := 22) hx hb dX8_mark_15 (by decide) (fun c_4 => ?_) (fun c_4 => ?_)
    · have hB := ifN c_4 hB
      refine lv_aload_n hx hb dX8_mark_22 rfl (lv_at hl 0 rfl) ?_
      refine va_get (D := G) (ci := 8) (v := .ref a_t_marks) (C := RX8) (T := TX8) (N := 14) hx hb hg inX8 hown hKT hP 0 rfl rfl 13 (by decide) (hg _ gF_X8_72) (fun _ h9 => h9) rfl dX8_mark_23 ?_
      refine lv_aload_n hx hb dX8_mark_26 rfl (lv_at hl 0 rfl) ?_
      refine va_get (D := G) (ci := 8) (v := .ref a_t_house) (C := RX8) (T := TX8) (N := 14) hx hb hg inX8 hown hKT hP 0 rfl rfl 0 (by decide) (hg _ gF_X8_10) (fun _ h9 => h9) rfl dX8_mark_27 ?_
      refine lv_iload_n hx hb dX8_mark_30 rfl (lv_at hl 2 rfl) ?_
      refine lv_aload_n hx hb dX8_mark_31 rfl (lv_at hl 0 rfl) ?_
      refine va_get (D := G) (ci := 8) (v := .ref a_t_standing) (C := RX8) (T := TX8) (N := 14) hx hb hg inX8 hown hKT hP 0 rfl rfl 4 (by decide) (hg _ gF_X8_36) (fun _ h9 => h9) rfl dX8_mark_32 ?_
      obtain ⟨q5, hq5, hB⟩ := bnd hB
      refine kr_VN (WC := wd_X6_book cs a_t_standing a_t_standing_rows r_t_standing_rows v_t_standing_known g_t_standing_rows) (As := []) (rest := [.int p2, .ref a_t_house, .ref a_t_marks]) (r0 := q5) ⟨hx, hb, hml, hown, hg⟩ (k_X6_book l G cs a_t_standing a_t_standing_rows r_t_standing_rows v_t_standing_known g_t_standing_rows q5 hq5) nM_X8_117_l mI_X6_book (rmk rfl) hP hKT hN 4 rfl rfl [4, 5, 6, 7, 8, 9, 10, 11, 12, 13, 14, 15, 16] rfl rfl hl.1 rfl (Nat.le_of_ble_eq_true rfl) dX8_mark_35 ?_
      obtain ⟨q6, hq6, hB⟩ := bnd hB
      refine kr_VN (WC := wd_X0_unlikeLines cs a_t_house a_t_house_turn a_t_house_bent v_t_house_opinions v_t_house_lines v_t_house_books v_t_house_told v_t_house_scribes v_t_house_need g_t_house_turn g_t_house_bent) (As := [.int p2, .int q5]) (rest := [.ref a_t_marks]) (r0 := q6) ⟨hx, hb, hml, hown, hg⟩ (k_X0_unlikeLines l G cs a_t_house a_t_house_turn a_t_house_bent v_t_house_opinions v_t_house_lines v_t_house_books v_t_house_told v_t_house_scribes v_t_house_need g_t_house_turn g_t_house_bent p2 q5 q6 hq6) nM_X8_140_l mI_X0_unlikeLines (rmk rfl) hP hKT hN 1 rfl rfl [1, 2, 3] rfl rfl hl.1 rfl (Nat.le_of_ble_eq_true rfl) dX8_mark_38 ?_
      obtain ⟨q7, hq7, hB⟩ := bnd hB
      refine kr_S (WC := wd_J6_bitCount_0f7a4 cs ) (As := [.int q6]) (rest := [.ref a_t_marks]) (r0 := q7) ⟨hx, hb, hml, hown, hg⟩ (k_J6_bitCount_0f7a4 l G cs q6 q7 hq7) gM_X8_182 mS_J6_bitCount_0f7a4 (rmk rfl) hP hKT hN [] rfl rfl hl.1 rfl (Nat.le_of_ble_eq_true rfl) dX8_mark_41 ?_
      refine va_putN (D := G) (ci := 3) (v := .int q7) (ty := .int) (C := RX3) (T := TX3) (N := 6) hx hb hg inX3 tyX3 tyX3_ok nmX3 hown hKT hP hD hS 17 rfl rfl 0 (by decide) (va_Nw.use rfl (hN _ nF_X8_287_l rfl)) (fun _ h9 => h9) rfl (by decide +kernel) rfl rfl (Nat.le_of_ble_eq_true rfl) dX8_mark_44 (fun H locs hP hD hS => ?_)
      have hP : va_P G vwCl (wd_X8_mark cs a_t a_t_house a_t_draft a_t_reader a_t_laws a_t_standing a_t_imageZero a_t_imageOne a_t_rounds a_t_ways a_t_margins a_t_marks a_t_house_turn a_t_house_bent a_t_standing_rows r_t_standing_rows v_t_keptZero v_t_keptOne v_t_target v_t_house_opinions v_t_house_lines v_t_house_books v_t_house_told v_t_house_scribes v_t_house_need g_t_house_turn g_t_house_bent v_t_standing_known g_t_standing_rows q7 v_t_marks_turn v_t_marks_bent v_t_marks_times v_t_marks_copies v_t_marks_traced) H := hP
      have hD : va_D A (wd_X8_mark cs a_t a_t_house a_t_draft a_t_reader a_t_laws a_t_standing a_t_imageZero a_t_imageOne a_t_rounds a_t_ways a_t_margins a_t_marks a_t_house_turn a_t_house_bent a_t_standing_rows r_t_standing_rows v_t_keptZero v_t_keptOne v_t_target v_t_house_opinions v_t_house_lines v_t_house_books v_t_house_told v_t_house_scribes v_t_house_need g_t_house_turn g_t_house_bent v_t_standing_known g_t_standing_rows q7 v_t_marks_turn v_t_marks_bent v_t_marks_times v_t_marks_copies v_t_marks_traced) := hD
      refine lv_aload_n hx hb dX8_mark_47 rfl (lv_at hl 0 rfl) ?_
      refine va_get (D := G) (ci := 8) (v := .ref a_t_marks) (C := RX8) (T := TX8) (N := 14) hx hb hg inX8 hown hKT hP 0 rfl rfl 13 (by decide) (hg _ gF_X8_72) (fun _ h9 => h9) rfl dX8_mark_48 ?_
      refine lv_aload_n hx hb dX8_mark_51 rfl (lv_at hl 0 rfl) ?_
      refine va_get (D := G) (ci := 8) (v := .ref a_t_house) (C := RX8) (T := TX8) (N := 14) hx hb hg inX8 hown hKT hP 0 rfl rfl 0 (by decide) (hg _ gF_X8_10) (fun _ h9 => h9) rfl dX8_mark_52 ?_
      refine lv_iload_n hx hb dX8_mark_55 rfl (lv_at hl 2 rfl) ?_
      obtain ⟨q8, hq8, hB⟩ := bnd hB
      refine kr_VN (WC := wd_X0_turnOf cs a_t_house a_t_house_turn a_t_house_bent v_t_house_opinions v_t_house_lines v_t_house_books v_t_house_told v_t_house_scribes v_t_house_need g_t_house_turn) (As := [.int p2]) (rest := [.ref a_t_marks]) (r0 := q8) ⟨hx, hb, hml, hown, hg⟩ (k_X0_turnOf l G cs a_t_house a_t_house_turn a_t_house_bent v_t_house_opinions v_t_house_lines v_t_house_books v_t_house_told v_t_house_scribes v_t_house_need g_t_house_turn p2 q8 hq8) nM_X8_127_l mI_X0_turnOf (rmk rfl) hP hKT hN 1 rfl rfl [1, 2] rfl rfl hl.1 rfl (Nat.le_of_ble_eq_true rfl) dX8_mark_56 ?_
      refine va_putN (D := G) (ci := 3) (v := .int q8) (ty := .int) (C := RX3) (T := TX3) (N := 6) hx hb hg inX3 tyX3 tyX3_ok nmX3 hown hKT hP hD hS 17 rfl rfl 1 (by decide) (va_Nw.use rfl (hN _ nF_X8_290_l rfl)) (fun _ h9 => h9) rfl (by decide +kernel) rfl rfl (Nat.le_of_ble_eq_true rfl) dX8_mark_59 (fun H locs hP hD hS => ?_)
      have hP : va_P G vwCl (wd_X8_mark cs a_t a_t_house a_t_draft a_t_reader a_t_laws a_t_standing a_t_imageZero a_t_imageOne a_t_rounds a_t_ways a_t_margins a_t_marks a_t_house_turn a_t_house_bent a_t_standing_rows r_t_standing_rows v_t_keptZero v_t_keptOne v_t_target v_t_house_opinions v_t_house_lines v_t_house_books v_t_house_told v_t_house_scribes v_t_house_need g_t_house_turn g_t_house_bent v_t_standing_known g_t_standing_rows q7 q8 v_t_marks_bent v_t_marks_times v_t_marks_copies v_t_marks_traced) H := hP
      have hD : va_D A (wd_X8_mark cs a_t a_t_house a_t_draft a_t_reader a_t_laws a_t_standing a_t_imageZero a_t_imageOne a_t_rounds a_t_ways a_t_margins a_t_marks a_t_house_turn a_t_house_bent a_t_standing_rows r_t_standing_rows v_t_keptZero v_t_keptOne v_t_target v_t_house_opinions v_t_house_lines v_t_house_books v_t_house_told v_t_house_scribes v_t_house_need g_t_house_turn g_t_house_bent v_t_standing_known g_t_standing_rows q7 q8 v_t_marks_bent v_t_marks_times v_t_marks_copies v_t_marks_traced) := hD
      refine lv_aload_n hx hb dX8_mark_62 rfl (lv_at hl 0 rfl) ?_
      refine va_get (D := G) (ci := 8) (v := .ref a_t_marks) (C := RX8) (T := TX8) (N := 14) hx hb hg inX8 hown hKT hP 0 rfl rfl 13 (by decide) (hg _ gF_X8_72) (fun _ h9 => h9) rfl dX8_mark_63 ?_
      refine lv_aload_n hx hb dX8_mark_66 rfl (lv_at hl 0 rfl) ?_
      refine va_get (D := G) (ci := 8) (v := .ref a_t_house) (C := RX8) (T := TX8) (N := 14) hx hb hg inX8 hown hKT hP 0 rfl rfl 0 (by decide) (hg _ gF_X8_10) (fun _ h9 => h9) rfl dX8_mark_67 ?_
      refine lv_iload_n hx hb dX8_mark_70 rfl (lv_at hl 2 rfl) ?_
      obtain ⟨q9, hq9, hB⟩ := bnd hB
      refine kr_VN (WC := wd_X0_bentOf cs a_t_house a_t_house_turn a_t_house_bent v_t_house_opinions v_t_house_lines v_t_house_books v_t_house_told v_t_house_scribes v_t_house_need g_t_house_bent) (As := [.int p2]) (rest := [.ref a_t_marks]) (r0 := q9) ⟨hx, hb, hml, hown, hg⟩ (k_X0_bentOf l G cs a_t_house a_t_house_turn a_t_house_bent v_t_house_opinions v_t_house_lines v_t_house_books v_t_house_told v_t_house_scribes v_t_house_need g_t_house_bent p2 q9 hq9) nM_X8_131_l mI_X0_bentOf (rmk rfl) hP hKT hN 1 rfl rfl [1, 3] rfl rfl hl.1 rfl (Nat.le_of_ble_eq_true rfl) dX8_mark_71 ?_
      refine va_putN (D := G) (ci := 3) (v := .int q9) (ty := .int) (C := RX3) (T := TX3) (N := 6) hx hb hg inX3 tyX3 tyX3_ok nmX3 hown hKT hP hD hS 17 rfl rfl 2 (by decide) (va_Nw.use rfl (hN _ nF_X8_293_l rfl)) (fun _ h9 => h9) rfl (by decide +kernel) rfl rfl (Nat.le_of_ble_eq_true rfl) dX8_mark_74 (fun H locs hP hD hS => ?_)
      have hP : va_P G vwCl (wd_X8_mark cs a_t a_t_house a_t_draft a_t_reader a_t_laws a_t_standing a_t_imageZero a_t_imageOne a_t_rounds a_t_ways a_t_margins a_t_marks a_t_house_turn a_t_house_bent a_t_standing_rows r_t_standing_rows v_t_keptZero v_t_keptOne v_t_target v_t_house_opinions v_t_house_lines v_t_house_books v_t_house_told v_t_house_scribes v_t_house_need g_t_house_turn g_t_house_bent v_t_standing_known g_t_standing_rows q7 q8 q9 v_t_marks_times v_t_marks_copies v_t_marks_traced) H := hP
      have hD : va_D A (wd_X8_mark cs a_t a_t_house a_t_draft a_t_reader a_t_laws a_t_standing a_t_imageZero a_t_imageOne a_t_rounds a_t_ways a_t_margins a_t_marks a_t_house_turn a_t_house_bent a_t_standing_rows r_t_standing_rows v_t_keptZero v_t_keptOne v_t_target v_t_house_opinions v_t_house_lines v_t_house_books v_t_house_told v_t_house_scribes v_t_house_need g_t_house_turn g_t_house_bent v_t_standing_known g_t_standing_rows q7 q8 q9 v_t_marks_times v_t_marks_copies v_t_marks_traced) := hD
      refine lv_aload_n hx hb dX8_mark_77 rfl (lv_at hl 0 rfl) ?_
      refine va_get (D := G) (ci := 8) (v := .ref a_t_marks) (C := RX8) (T := TX8) (N := 14) hx hb hg inX8 hown hKT hP 0 rfl rfl 13 (by decide) (hg _ gF_X8_72) (fun _ h9 => h9) rfl dX8_mark_78 ?_
      refine lv_aload_n hx hb dX8_mark_81 rfl (lv_at hl 0 rfl) ?_
      refine va_get (D := G) (ci := 8) (v := .ref a_t_standing) (C := RX8) (T := TX8) (N := 14) hx hb hg inX8 hown hKT hP 0 rfl rfl 4 (by decide) (hg _ gF_X8_36) (fun _ h9 => h9) rfl dX8_mark_82 ?_
      refine lv_iload_n hx hb dX8_mark_85 rfl (lv_at hl 2 rfl) ?_
      obtain ⟨q10, hq10, hB⟩ := bnd hB
      refine kr_VN (WC := wd_X6_timesOf cs a_t_standing a_t_standing_rows r_t_standing_rows v_t_standing_known g_t_standing_rows) (As := [.int p2]) (rest := [.ref a_t_marks]) (r0 := q10) ⟨hx, hb, hml, hown, hg⟩ (k_X6_timesOf l G cs a_t_standing a_t_standing_rows r_t_standing_rows v_t_standing_known g_t_standing_rows p2 q10 hq10) nM_X8_137_l mI_X6_timesOf (rmk rfl) hP hKT hN 4 rfl rfl [4, 5, 6, 7, 8, 9, 10, 11, 12, 13, 14, 15, 16] rfl rfl hl.1 rfl (Nat.le_of_ble_eq_true rfl) dX8_mark_86 ?_
      refine va_putN (D := G) (ci := 3) (v := .int q10) (ty := .int) (C := RX3) (T := TX3) (N := 6) hx hb hg inX3 tyX3 tyX3_ok nmX3 hown hKT hP hD hS 17 rfl rfl 3 (by decide) (va_Nw.use rfl (hN _ nF_X8_296_l rfl)) (fun _ h9 => h9) rfl (by decide +kernel) rfl rfl (Nat.le_of_ble_eq_true rfl) dX8_mark_89 (fun H locs hP hD hS => ?_)
      have hP : va_P G vwCl (wd_X8_mark cs a_t a_t_house a_t_draft a_t_reader a_t_laws a_t_standing a_t_imageZero a_t_imageOne a_t_rounds a_t_ways a_t_margins a_t_marks a_t_house_turn a_t_house_bent a_t_standing_rows r_t_standing_rows v_t_keptZero v_t_keptOne v_t_target v_t_house_opinions v_t_house_lines v_t_house_books v_t_house_told v_t_house_scribes v_t_house_need g_t_house_turn g_t_house_bent v_t_standing_known g_t_standing_rows q7 q8 q9 q10 v_t_marks_copies v_t_marks_traced) H := hP
      have hD : va_D A (wd_X8_mark cs a_t a_t_house a_t_draft a_t_reader a_t_laws a_t_standing a_t_imageZero a_t_imageOne a_t_rounds a_t_ways a_t_margins a_t_marks a_t_house_turn a_t_house_bent a_t_standing_rows r_t_standing_rows v_t_keptZero v_t_keptOne v_t_target v_t_house_opinions v_t_house_lines v_t_house_books v_t_house_told v_t_house_scribes v_t_house_need g_t_house_turn g_t_house_bent v_t_standing_known g_t_standing_rows q7 q8 q9 q10 v_t_marks_copies v_t_marks_traced) := hD
      refine lv_aload_n hx hb dX8_mark_92 rfl (lv_at hl 0 rfl) ?_
      refine va_get (D := G) (ci := 8) (v := .ref a_t_marks) (C := RX8) (T := TX8) (N := 14) hx hb hg inX8 hown hKT hP 0 rfl rfl 13 (by decide) (hg _ gF_X8_72) (fun _ h9 => h9) rfl dX8_mark_93 ?_
      refine lv_aload_n hx hb dX8_mark_96 rfl (lv_at hl 0 rfl) ?_
      refine va_get (D := G) (ci := 8) (v := .ref a_t_standing) (C := RX8) (T := TX8) (N := 14) hx hb hg inX8 hown hKT hP 0 rfl rfl 4 (by decide) (hg _ gF_X8_36) (fun _ h9 => h9) rfl dX8_mark_97 ?_
      obtain ⟨q11, hq11, hB⟩ := bnd hB
      refine kr_VN (WC := wd_X6_copiesNow cs a_t_standing a_t_standing_rows r_t_standing_rows v_t_standing_known g_t_standing_rows) (As := []) (rest := [.ref a_t_marks]) (r0 := q11) ⟨hx, hb, hml, hown, hg⟩ (k_X6_copiesNow l G cs a_t_standing a_t_standing_rows r_t_standing_rows v_t_standing_known g_t_standing_rows q11 hq11) nM_X8_156_l mI_X6_copiesNow (rmk rfl) hP hKT hN 4 rfl rfl [4, 5, 6, 7, 8, 9, 10, 11, 12, 13, 14, 15, 16] rfl rfl hl.1 rfl (Nat.le_of_ble_eq_true rfl) dX8_mark_100 ?_
      refine va_putN (D := G) (ci := 3) (v := .int q11) (ty := .int) (C := RX3) (T := TX3) (N := 6) hx hb hg inX3 tyX3 tyX3_ok nmX3 hown hKT hP hD hS 17 rfl rfl 4 (by decide) (va_Nw.use rfl (hN _ nF_X8_299_l rfl)) (fun _ h9 => h9) rfl (by decide +kernel) rfl rfl (Nat.le_of_ble_eq_true rfl) dX8_mark_103 (fun H locs hP hD hS => ?_)
      have hP : va_P G vwCl (wd_X8_mark cs a_t a_t_house a_t_draft a_t_reader a_t_laws a_t_standing a_t_imageZero a_t_imageOne a_t_rounds a_t_ways a_t_margins a_t_marks a_t_house_turn a_t_house_bent a_t_standing_rows r_t_standing_rows v_t_keptZero v_t_keptOne v_t_target v_t_house_opinions v_t_house_lines v_t_house_books v_t_house_told v_t_house_scribes v_t_house_need g_t_house_turn g_t_house_bent v_t_standing_known g_t_standing_rows q7 q8 q9 q10 q11 v_t_marks_traced) H := hP
      have hD : va_D A (wd_X8_mark cs a_t a_t_house a_t_draft a_t_reader a_t_laws a_t_standing a_t_imageZero a_t_imageOne a_t_rounds a_t_ways a_t_margins a_t_marks a_t_house_turn a_t_house_bent a_t_standing_rows r_t_standing_rows v_t_keptZero v_t_keptOne v_t_target v_t_house_opinions v_t_house_lines v_t_house_books v_t_house_told v_t_house_scribes v_t_house_need g_t_house_turn g_t_house_bent v_t_standing_known g_t_standing_rows q7 q8 q9 q10 q11 v_t_marks_traced) := hD
      refine lv_aload_n hx hb dX8_mark_106 rfl (lv_at hl 0 rfl) ?_
      refine va_get (D := G) (ci := 8) (v := .ref a_t_marks) (C := RX8) (T := TX8) (N := 14) hx hb hg inX8 hown hKT hP 0 rfl rfl 13 (by decide) (hg _ gF_X8_72) (fun _ h9 => h9) rfl dX8_mark_107 ?_
      refine lv_iload_n hx hb dX8_mark_110 rfl (lv_at hl 1 rfl) ?_
      refine lv_iconst (v := 0) hx hb dX8_mark_111 (by decide) ?_
      obtain ⟨⟨q12_0, q12_1⟩, hq12, hB⟩ := bnd hB
      refine kw_i (WC := wd_X3_ask cs a_t_marks q7 q8 q9 q10 q11 v_t_marks_traced) (W1 := wd_X3_ask cs a_t_marks q7 q8 q9 q10 q11 q12_1) (W2 := wd_X8_mark cs a_t a_t_house a_t_draft a_t_reader a_t_laws a_t_standing a_t_imageZero a_t_imageOne a_t_rounds a_t_ways a_t_margins a_t_marks a_t_house_turn a_t_house_bent a_t_standing_rows r_t_standing_rows v_t_keptZero v_t_keptOne v_t_target v_t_house_opinions v_t_house_lines v_t_house_books v_t_house_told v_t_house_scribes v_t_house_need g_t_house_turn g_t_house_bent v_t_standing_known g_t_standing_rows q7 q8 q9 q10 q11 q12_1) (r0 := q12_0) (rs_VN (As := [.int p1, .int (0 : Int32)]) (rest := []) ⟨hx, hb, hml, hown, hg⟩ (k_X3_ask l G cs 8 a_t_marks q7 q8 q9 q10 q11 v_t_marks_traced p1 (0 : Int32) H.size (q12_0, q12_1) hq12) nM_X8_300_l mI_X3_ask (rmk rfl) hP hD hS hA hST hKT hN 17 rfl rfl [17] rfl rfl rfl hl.1 rfl (Nat.le_of_ble_eq_true rfl) dX8_mark_112) hP hD hS hA [17] [0, 1, 2, 3, 4, 5, 6, 7, 8, 9, 10, 11, 12, 13, 14, 15, 16] [0, 1, 2, 3, 4, 5, 6, 7, 8, 9, 10, 11, 12, 13, 14, 15, 16, 17] ⟨rfl, rfl, rfl, rfl, rfl, rfl, rfl⟩ (fun H locs hP hD hS => ?_)
      have hK := leafK hB hK
      have hK : (q12_0, q7, q8, q9, q10, q11, q12_1) = R0 := hK
      subst hK
      exact W.iret (v := q12_0) hx hb hr (fun t ht hW => ⟨⟨_, (), rfl, rfl, by rw [ht]; exact hP, hD⟩, hS.F ht⟩) hS.2.2 dX8_mark_115
    · have hB := ifP c_4 hB
      refine lv_ldcw (v := -1000000) hx hb hown (hg _ gK_X8_286) dX8_mark_18 ?_
      have hK := leafK hB hK
      have hK : ((-1000000 : Int32), v_t_marks_unlike, v_t_marks_turn, v_t_marks_bent, v_t_marks_times, v_t_marks_copies, v_t_marks_traced) = R0 := hK
      subst hK
      exact W.iret (v := (-1000000 : Int32)) hx hb hr (fun t ht hW => ⟨⟨_, (), rfl, rfl, by rw [ht]; exact hP, hD⟩, hS.F ht⟩) hS.2.2 dX8_mark_21
def wd_X8_keep (cs : Nat → ClassId) (a_t a_t_house a_t_draft a_t_reader a_t_laws a_t_standing a_t_imageZero a_t_imageOne a_t_rounds a_t_ways a_t_margins a_t_marks a_t_standing_rows a_t_imageZero_rows a_t_imageOne_rows : Nat) (r_t_standing_rows : Nat → Nat) (r_t_imageZero_rows : Nat → Nat) (r_t_imageOne_rows : Nat → Nat) (v_t_keptZero : Int32) (v_t_keptOne : Int32) (v_t_target : Int32) (v_t_standing_known : Int32) (g_t_standing_rows : Nat → Nat → Int32) (v_t_imageZero_known : Int32) (g_t_imageZero_rows : Nat → Nat → Int32) (v_t_imageOne_known : Int32) (g_t_imageOne_rows : Nat → Nat → Int32) : va_W := [(a_t, .inr (8, [.ref a_t_house, .ref a_t_draft, .ref a_t_reader, .ref a_t_laws, .ref a_t_standing, .ref a_t_imageZero, .ref a_t_imageOne, .int v_t_keptZero, .int v_t_keptOne, .int v_t_target, .ref a_t_rounds, .ref a_t_ways, .ref a_t_margins, .ref a_t_marks])), (a_t_standing, .inr (6, [.ref a_t_standing_rows, .int v_t_standing_known])), (a_t_standing_rows, .inl (cs 3, 11, .inr (.inr (.inr (.inr (gO r_t_standing_rows)))))), (r_t_standing_rows 0, .inl (cs 0, 9, .inl (g_t_standing_rows 0))), (r_t_standing_rows 1, .inl (cs 0, 9, .inl (g_t_standing_rows 1))), (r_t_standing_rows 2, .inl (cs 0, 9, .inl (g_t_standing_rows 2))), (r_t_standing_rows 3, .inl (cs 0, 9, .inl (g_t_standing_rows 3))), (r_t_standing_rows 4, .inl (cs 0, 9, .inl (g_t_standing_rows 4))), (r_t_standing_rows 5, .inl (cs 0, 9, .inl (g_t_standing_rows 5))), (r_t_standing_rows 6, .inl (cs 0, 9, .inl (g_t_standing_rows 6))), (r_t_standing_rows 7, .inl (cs 0, 9, .inl (g_t_standing_rows 7))), (r_t_standing_rows 8, .inl (cs 0, 9, .inl (g_t_standing_rows 8))), (r_t_standing_rows 9, .inl (cs 0, 9, .inl (g_t_standing_rows 9))), (r_t_standing_rows 10, .inl (cs 0, 9, .inl (g_t_standing_rows 10))), (a_t_imageZero, .inr (6, [.ref a_t_imageZero_rows, .int v_t_imageZero_known])), (a_t_imageZero_rows, .inl (cs 3, 11, .inr (.inr (.inr (.inr (gO r_t_imageZero_rows)))))), (r_t_imageZero_rows 0, .inl (cs 0, 9, .inl (g_t_imageZero_rows 0))), (r_t_imageZero_rows 1, .inl (cs 0, 9, .inl (g_t_imageZero_rows 1))), (r_t_imageZero_rows 2, .inl (cs 0, 9, .inl (g_t_imageZero_rows 2))), (r_t_imageZero_rows 3, .inl (cs 0, 9, .inl (g_t_imageZero_rows 3))), (r_t_imageZero_rows 4, .inl (cs 0, 9, .inl (g_t_imageZero_rows 4))), (r_t_imageZero_rows 5, .inl (cs 0, 9, .inl (g_t_imageZero_rows 5))), (r_t_imageZero_rows 6, .inl (cs 0, 9, .inl (g_t_imageZero_rows 6))), (r_t_imageZero_rows 7, .inl (cs 0, 9, .inl (g_t_imageZero_rows 7))), (r_t_imageZero_rows 8, .inl (cs 0, 9, .inl (g_t_imageZero_rows 8))), (r_t_imageZero_rows 9, .inl (cs 0, 9, .inl (g_t_imageZero_rows 9))), (r_t_imageZero_rows 10, .inl (cs 0, 9, .inl (g_t_imageZero_rows 10))), (a_t_imageOne, .inr (6, [.ref a_t_imageOne_rows, .int v_t_imageOne_known])), (a_t_imageOne_rows, .inl (cs 3, 11, .inr (.inr (.inr (.inr (gO r_t_imageOne_rows)))))), (r_t_imageOne_rows 0, .inl (cs 0, 9, .inl (g_t_imageOne_rows 0))), (r_t_imageOne_rows 1, .inl (cs 0, 9, .inl (g_t_imageOne_rows 1))), (r_t_imageOne_rows 2, .inl (cs 0, 9, .inl (g_t_imageOne_rows 2))), (r_t_imageOne_rows 3, .inl (cs 0, 9, .inl (g_t_imageOne_rows 3))), (r_t_imageOne_rows 4, .inl (cs 0, 9, .inl (g_t_imageOne_rows 4))), (r_t_imageOne_rows 5, .inl (cs 0, 9, .inl (g_t_imageOne_rows 5))), (r_t_imageOne_rows 6, .inl (cs 0, 9, .inl (g_t_imageOne_rows 6))), (r_t_imageOne_rows 7, .inl (cs 0, 9, .inl (g_t_imageOne_rows 7))), (r_t_imageOne_rows 8, .inl (cs 0, 9, .inl (g_t_imageOne_rows 8))), (r_t_imageOne_rows 9, .inl (cs 0, 9, .inl (g_t_imageOne_rows 9))), (r_t_imageOne_rows 10, .inl (cs 0, 9, .inl (g_t_imageOne_rows 10)))]
def rm_X8_keep : Room := { frames := 3, cells := 0, slots := 0, locals := 105 }
theorem mI_X8_keep : MI yX8_keep RX8 cX8_keep 2 (some .int) 1 := ⟨gI_X8_keep, gE_X8_keep, gN_X8, gC_X8_keep, by decide +kernel⟩
set_option maxHeartbeats 4000000 in
set_option maxRecDepth 100000 in
theorem k_X8_keep (l : Launch) (G : va_G) (cs : Nat → ClassId) (a_t a_t_house a_t_draft a_t_reader a_t_laws a_t_standing a_t_imageZero a_t_imageOne a_t_rounds a_t_ways a_t_margins a_t_marks a_t_standing_rows a_t_imageZero_rows a_t_imageOne_rows : Nat) (r_t_standing_rows : Nat → Nat) (r_t_imageZero_rows : Nat → Nat) (r_t_imageOne_rows : Nat → Nat) (v_t_keptZero : Int32) (v_t_keptOne : Int32) (v_t_target : Int32) (v_t_standing_known : Int32) (g_t_standing_rows : Nat → Nat → Int32) (v_t_imageZero_known : Int32) (g_t_imageZero_rows : Nat → Nat → Int32) (v_t_imageOne_known : Int32) (g_t_imageOne_rows : Nat → Nat → Int32) (p1 : Int32) (sz : Nat) (R0 : Int32 × Int32 × Int32 × Int32 × (Nat → Nat → Int32) × Int32 × (Nat → Nat → Int32)) (hB : f_X8_keep v_t_keptZero v_t_keptOne v_t_standing_known g_t_standing_rows v_t_imageZero_known g_t_imageZero_rows v_t_imageOne_known g_t_imageOne_rows p1 = some R0) : Met l yX8_keep (.code yX8_keep cX8_keep 2 (some .int) :: GW) rm_X8_keep (PcW G cs [.ref a_t, .int p1] (wd_X8_keep cs a_t a_t_house a_t_draft a_t_reader a_t_laws a_t_standing a_t_imageZero a_t_imageOne a_t_rounds a_t_ways a_t_margins a_t_marks a_t_standing_rows a_t_imageZero_rows a_t_imageOne_rows r_t_standing_rows r_t_imageZero_rows r_t_imageOne_rows v_t_keptZero v_t_keptOne v_t_target v_t_standing_known g_t_standing_rows v_t_imageZero_known g_t_imageZero_rows v_t_imageOne_known g_t_imageOne_rows) sz) (QcI G (va_A (wd_X8_keep cs a_t a_t_house a_t_draft a_t_reader a_t_laws a_t_standing a_t_imageZero a_t_imageOne a_t_rounds a_t_ways a_t_margins a_t_marks a_t_standing_rows a_t_imageZero_rows a_t_imageOne_rows r_t_standing_rows r_t_imageZero_rows r_t_imageOne_rows v_t_keptZero v_t_keptOne v_t_target v_t_standing_known g_t_standing_rows v_t_imageZero_known g_t_imageZero_rows v_t_imageOne_known g_t_imageOne_rows) sz) (wd_X8_keep cs a_t a_t_house a_t_draft a_t_reader a_t_laws a_t_standing a_t_imageZero a_t_imageOne a_t_rounds a_t_ways a_t_margins a_t_marks a_t_standing_rows a_t_imageZero_rows a_t_imageOne_rows r_t_standing_rows r_t_imageZero_rows r_t_imageOne_rows R0.2.1 R0.2.2.1 v_t_target v_t_standing_known g_t_standing_rows R0.2.2.2.1 R0.2.2.2.2.1 R0.2.2.2.2.2.1 R0.2.2.2.2.2.2) R0.1) 0 0 (va_A (wd_X8_keep cs a_t a_t_house a_t_draft a_t_reader a_t_laws a_t_standing a_t_imageZero a_t_imageOne a_t_rounds a_t_ways a_t_margins a_t_marks a_t_standing_rows a_t_imageZero_rows a_t_imageOne_rows r_t_standing_rows r_t_imageZero_rows r_t_imageOne_rows v_t_keptZero v_t_keptOne v_t_target v_t_standing_known g_t_standing_rows v_t_imageZero_known g_t_imageZero_rows v_t_imageOne_known g_t_imageOne_rows) sz) := by
  refine Met.ofW (cc := cX8_keep) (maxL := 2) (ret := (some .int)) (by decide) rfl ?_
  intro p e s m args below meth c s₁ B hml hv
  obtain ⟨rfl, hsz, hP, hD0, hK, hN⟩ := hv
  have hx := B.exec
  have hb := B.bytes
  have hr := B.returns
  have hts := atoms_spec (ws := .code yX8_keep cX8_keep 2 (some .int) :: GW) B.pre
  have hg : ∀ w ∈ GW, w.before _ s = true := fun w h => hts w (List.mem_cons_of_mem _ h)
  have hown : s.vm.findClass RX8 = some m.cls := findClass_of_methodNamed B.named
  have hlocks := B.notSynchronized
  subst hsz
  have hD := hD0.self (sz := s.heap.size)
  generalize hAe : va_A (wd_X8_keep cs a_t a_t_house a_t_draft a_t_reader a_t_laws a_t_standing a_t_imageZero a_t_imageOne a_t_rounds a_t_ways a_t_margins a_t_marks a_t_standing_rows a_t_imageZero_rows a_t_imageOne_rows r_t_standing_rows r_t_imageZero_rows r_t_imageOne_rows v_t_keptZero v_t_keptOne v_t_target v_t_standing_known g_t_standing_rows v_t_imageZero_known g_t_imageZero_rows v_t_imageOne_known g_t_imageOne_rows) s.heap.size = A at hD ⊢
  have hA : ∀ q : Nat, s.heap.size ≤ q → A q := fun q h => by rw [← hAe]; exact Or.inr h
  have hS : va_S A s.heap s.heap [] := va_S.rf
  have hl := lv_entry ([.ref a_t, .int p1]) (n := 2) (Nat.le_of_ble_eq_true rfl)
  rw [lg_entry_eq]
  generalize (lg_sl ([.ref a_t, .int p1]) ++ List.replicate (2 - (lg_sl ([.ref a_t, .int p1])).length) Slot.unset).toArray = ls at hl ⊢
  have hl : lv_has ls 2 [(0, .ref a_t), (1, .int p1)] := hl
  obtain ⟨y, hB, hK0⟩ : ∃ y, f_X8_keep v_t_keptZero v_t_keptOne v_t_standing_known g_t_standing_rows v_t_imageZero_known g_t_imageZero_rows v_t_imageOne_known g_t_imageOne_rows p1 = some y ∧ KEnd R0 y := ⟨R0, hB, rfl⟩
  have hKT := hK
  have hK := hK0
  obtain ⟨H, hHe⟩ : ∃ H, H = s.heap := ⟨_, rfl⟩
  obtain ⟨locs, hLe⟩ : ∃ L : List Loc, L = [] := ⟨_, rfl⟩
  rw [← hHe] at hP
  have hS : va_S A s.heap H locs := by rw [hHe, hLe]; exact hS
  show W p l e rm_X8_keep s m ([.ref a_t, .int p1] : List Value).toArray below meth c s.heap [] 0 0 _ _
  suffices hgo : W p l e rm_X8_keep s m ([.ref a_t, .int p1] : List Value).toArray below meth c H locs 0 0 (MQ below (QcI G A (wd_X8_keep cs a_t a_t_house a_t_draft a_t_reader a_t_laws a_t_standing a_t_imageZero a_t_imageOne a_t_rounds a_t_ways a_t_margins a_t_marks a_t_standing_rows a_t_imageZero_rows a_t_imageOne_rows r_t_standing_rows r_t_imageZero_rows r_t_imageOne_rows R0.2.1 R0.2.2.1 v_t_target v_t_standing_known g_t_standing_rows R0.2.2.2.1 R0.2.2.2.2.1 R0.2.2.2.2.2.1 R0.2.2.2.2.2.2) R0.1) ([.ref a_t, .int p1] : List Value).toArray s 0 0 A) (F0 m 0 ls []) by rw [hHe, hLe] at hgo; exact hgo
  refine lv_iload_n hx hb dX8_keep_0 rfl (lv_at hl 1 rfl) ?_
  refine lv_if_ne (tgt := 23) hx hb dX8_keep_1 (by decide) (fun c_1 => ?_) (fun c_1 => ?_)
  · have hB := ifN c_1 hB
    refine lv_iload_n hx hb dX8_keep_23 rfl (lv_at hl 1 rfl) ?_
    refine lv_iconst (v := 1) hx hb dX8_keep_24 (by decide) ?_
    refine lv_icmp_ne (tgt := 47) hx hb dX8_keep_25 (by decide) (fun c_2 => ?_) (fun c_2 => ?_)
    · have hB := ifN c_2 hB
      refine lv_iconst (v := -1) hx hb dX8_keep_47 (by decide) ?_
      have hK := leafK hB hK
      have hK : ((-1 : Int32), v_t_keptZero, v_t_keptOne, v_t_imageZero_known, g_t_imageZero_rows, v_t_imageOne_known, g_t_imageOne_rows) = R0 := hK
      subst hK
      exact W.iret (v := (-1 : Int32)) hx hb hr (fun t ht hW => ⟨⟨_, (), rfl, rfl, by rw [ht]; exact hP, hD⟩, hS.F ht⟩) hS.2.2 dX8_keep_48
    · have hB := ifP c_2 hB
      refine lv_aload_n hx hb dX8_keep_28 rfl (lv_at hl 0 rfl) ?_
      refine va_get (D := G) (ci := 8) (v := .ref a_t_imageOne) (C := RX8) (T := TX8) (N := 14) hx hb hg inX8 hown hKT hP 0 rfl rfl 6 (by decide) (hg _ gF_X8_43) (fun _ h9 => h9) rfl dX8_keep_29 ?_
      refine lv_aload_n hx hb dX8_keep_32 rfl (lv_at hl 0 rfl) ?_
      refine va_get (D := G) (ci := 8) (v := .ref a_t_standing) (C := RX8) (T := TX8) (N := 14) hx hb hg inX8 hown hKT hP 0 rfl rfl 4 (by decide) (hg _ gF_X8_36) (fun _ h9 => h9) rfl dX8_keep_33 ?_
      obtain ⟨⟨q3_0, q3_1⟩, hq3, hB⟩ := bnd hB
      refine kw_v (WC := wd_X6_become cs a_t_imageOne a_t_imageOne_rows a_t_standing a_t_standing_rows r_t_imageOne_rows r_t_standing_rows v_t_imageOne_known g_t_imageOne_rows v_t_standing_known g_t_standing_rows) (W1 := wd_X6_become cs a_t_imageOne a_t_imageOne_rows a_t_standing a_t_standing_rows r_t_imageOne_rows r_t_standing_rows q3_0 q3_1 v_t_standing_known g_t_standing_rows) (W2 := wd_X8_keep cs a_t a_t_house a_t_draft a_t_reader a_t_laws a_t_standing a_t_imageZero a_t_imageOne a_t_rounds a_t_ways a_t_margins a_t_marks a_t_standing_rows a_t_imageZero_rows a_t_imageOne_rows r_t_standing_rows r_t_imageZero_rows r_t_imageOne_rows v_t_keptZero v_t_keptOne v_t_target v_t_standing_known g_t_standing_rows v_t_imageZero_known g_t_imageZero_rows q3_0 q3_1) (rw_VN (As := [.ref a_t_standing]) (rest := []) ⟨hx, hb, hml, hown, hg⟩ (k_X6_become l G cs a_t_imageOne a_t_imageOne_rows a_t_standing a_t_standing_rows r_t_imageOne_rows r_t_standing_rows v_t_imageOne_known g_t_imageOne_rows v_t_standing_known g_t_standing_rows H.size (q3_0, q3_1) hq3) nM_X8_303_l mI_X6_become (rmk rfl) hP hD hKT hN 27 rfl rfl [27, 28, 29, 30, 31, 32, 33, 34, 35, 36, 37, 38, 39, 1, 2, 3, 4, 5, 6, 7, 8, 9, 10, 11, 12, 13] rfl rfl rfl hl.1 rfl (Nat.le_of_ble_eq_true rfl) dX8_keep_36) hP hD hS hA [27, 28, 29, 30, 31, 32, 33, 34, 35, 36, 37, 38, 39, 1, 2, 3, 4, 5, 6, 7, 8, 9, 10, 11, 12, 13] [0, 14, 15, 16, 17, 18, 19, 20, 21, 22, 23, 24, 25, 26] [0, 27, 28, 29, 30, 31, 32, 33, 34, 35, 36, 37, 38, 39, 1, 2, 3, 4, 5, 6, 7, 8, 9, 10, 11, 12, 13, 14, 15, 16, 17, 18, 19, 20, 21, 22, 23, 24, 25, 26] ⟨rfl, rfl, rfl, rfl, rfl, rfl, rfl⟩ (fun H locs hP hD hS => ?_)
      refine lv_aload_n hx hb dX8_keep_39 rfl (lv_at hl 0 rfl) ?_
      refine lv_iconst (v := 1) hx hb dX8_keep_40 (by decide) ?_
      refine va_put (D := G) (ci := 8) (v := .int (1 : Int32)) (ty := .boolean) (C := RX8) (T := TX8) (N := 14) hx hb hg inX8 tyX8 tyX8_ok nmX8 hown hKT hP hD hS 0 rfl rfl 8 (by decide) (hg _ gF_X8_111) (fun _ h9 => h9) rfl (by decide +kernel) rfl rfl (Nat.le_of_ble_eq_true rfl) dX8_keep_41 (fun H locs hP hD hS => ?_)
      have hP : va_P G vwCl (wd_X8_keep cs a_t a_t_house a_t_draft a_t_reader a_t_laws a_t_standing a_t_imageZero a_t_imageOne a_t_rounds a_t_ways a_t_margins a_t_marks a_t_standing_rows a_t_imageZero_rows a_t_imageOne_rows r_t_standing_rows r_t_imageZero_rows r_t_imageOne_rows v_t_keptZero (1 : Int32) v_t_target v_t_standing_known g_t_standing_rows v_t_imageZero_known g_t_imageZero_rows q3_0 q3_1) H := hP
      have hD : va_D A (wd_X8_keep cs a_t a_t_house a_t_draft a_t_reader a_t_laws a_t_standing a_t_imageZero a_t_imageOne a_t_rounds a_t_ways a_t_margins a_t_marks a_t_standing_rows a_t_imageZero_rows a_t_imageOne_rows r_t_standing_rows r_t_imageZero_rows r_t_imageOne_rows v_t_keptZero (1 : Int32) v_t_target v_t_standing_known g_t_standing_rows v_t_imageZero_known g_t_imageZero_rows q3_0 q3_1) := hD
      refine lv_goto (tgt := 49) hx hb dX8_keep_44 (by decide) ?_
      refine lv_aload_n hx hb dX8_keep_49 rfl (lv_at hl 0 rfl) ?_
      refine va_get (D := G) (ci := 8) (v := .ref a_t_standing) (C := RX8) (T := TX8) (N := 14) hx hb hg inX8 hown hKT hP 0 rfl rfl 4 (by decide) (hg _ gF_X8_36) (fun _ h9 => h9) rfl dX8_keep_50 ?_
      obtain ⟨q4, hq4, hB⟩ := bnd hB
      refine kr_VN (WC := wd_X6_copiesNow cs a_t_standing a_t_standing_rows r_t_standing_rows v_t_standing_known g_t_standing_rows) (As := []) (rest := []) (r0 := q4) ⟨hx, hb, hml, hown, hg⟩ (k_X6_copiesNow l G cs a_t_standing a_t_standing_rows r_t_standing_rows v_t_standing_known g_t_standing_rows q4 hq4) nM_X8_156_l mI_X6_copiesNow (rmk rfl) hP hKT hN 1 rfl rfl [1, 2, 3, 4, 5, 6, 7, 8, 9, 10, 11, 12, 13] rfl rfl hl.1 rfl (Nat.le_of_ble_eq_true rfl) dX8_keep_53 ?_
      have hK := leafK hB hK
      have hK : (q4, v_t_keptZero, (1 : Int32), v_t_imageZero_known, g_t_imageZero_rows, q3_0, q3_1) = R0 := hK
      subst hK
      exact W.iret (v := q4) hx hb hr (fun t ht hW => ⟨⟨_, (), rfl, rfl, by rw [ht]; exact hP, hD⟩, hS.F ht⟩) hS.2.2 dX8_keep_56
  · have hB := ifP c_1 hB
    refine lv_aload_n hx hb dX8_keep_4 rfl (lv_at hl 0 rfl) ?_
    refine va_get (D := G) (ci := 8) (v := .ref a_t_imageZero) (C := RX8) (T := TX8) (N := 14) hx hb hg inX8 hown hKT hP 0 rfl rfl 5 (by decide) (hg _ gF_X8_40) (fun _ h9 => h9) rfl dX8_keep_5 ?_
    refine lv_aload_n hx hb dX8_keep_8 rfl (lv_at hl 0 rfl) ?_
    refine va_get (D := G) (ci := 8) (v := .ref a_t_standing) (C := RX8) (T := TX8) (N := 14) hx hb hg inX8 hown hKT hP 0 rfl rfl 4 (by decide) (hg _ gF_X8_36) (fun _ h9 => h9) rfl dX8_keep_9 ?_
    obtain ⟨⟨q5_0, q5_1⟩, hq5, hB⟩ := bnd hB
    refine kw_v (WC := wd_X6_become cs a_t_imageZero a_t_imageZero_rows a_t_standing a_t_standing_rows r_t_imageZero_rows r_t_standing_rows v_t_imageZero_known g_t_imageZero_rows v_t_standing_known g_t_standing_rows) (W1 := wd_X6_become cs a_t_imageZero a_t_imageZero_rows a_t_standing a_t_standing_rows r_t_imageZero_rows r_t_standing_rows q5_0 q5_1 v_t_standing_known g_t_standing_rows) (W2 := wd_X8_keep cs a_t a_t_house a_t_draft a_t_reader a_t_laws a_t_standing a_t_imageZero a_t_imageOne a_t_rounds a_t_ways a_t_margins a_t_marks a_t_standing_rows a_t_imageZero_rows a_t_imageOne_rows r_t_standing_rows r_t_imageZero_rows r_t_imageOne_rows v_t_keptZero v_t_keptOne v_t_target v_t_standing_known g_t_standing_rows q5_0 q5_1 v_t_imageOne_known g_t_imageOne_rows) (rw_VN (As := [.ref a_t_standing]) (rest := []) ⟨hx, hb, hml, hown, hg⟩ (k_X6_become l G cs a_t_imageZero a_t_imageZero_rows a_t_standing a_t_standing_rows r_t_imageZero_rows r_t_standing_rows v_t_imageZero_known g_t_imageZero_rows v_t_standing_known g_t_standing_rows H.size (q5_0, q5_1) hq5) nM_X8_303_l mI_X6_become (rmk rfl) hP hD hKT hN 14 rfl rfl [14, 15, 16, 17, 18, 19, 20, 21, 22, 23, 24, 25, 26, 1, 2, 3, 4, 5, 6, 7, 8, 9, 10, 11, 12, 13] rfl rfl rfl hl.1 rfl (Nat.le_of_ble_eq_true rfl) dX8_keep_12) hP hD hS hA [14, 15, 16, 17, 18, 19, 20, 21, 22, 23, 24, 25, 26, 1, 2, 3, 4, 5, 6, 7, 8, 9, 10, 11, 12, 13] [0, 27, 28, 29, 30, 31, 32, 33, 34, 35, 36, 37, 38, 39] [0, 27, 28, 29, 30, 31, 32, 33, 34, 35, 36, 37, 38, 39, 14, 15, 16, 17, 18, 19, 20, 21, 22, 23, 24, 25, 26, 1, 2, 3, 4, 5, 6, 7, 8, 9, 10, 11, 12, 13] ⟨rfl, rfl, rfl, rfl, rfl, rfl, rfl⟩ (fun H locs hP hD hS => ?_)
    refine lv_aload_n hx hb dX8_keep_15 rfl (lv_at hl 0 rfl) ?_
    refine lv_iconst (v := 1) hx hb dX8_keep_16 (by decide) ?_
    refine va_put (D := G) (ci := 8) (v := .int (1 : Int32)) (ty := .boolean) (C := RX8) (T := TX8) (N := 14) hx hb hg inX8 tyX8 tyX8_ok nmX8 hown hKT hP hD hS 0 rfl rfl 7 (by decide) (hg _ gF_X8_107) (fun _ h9 => h9) rfl (by decide +kernel) rfl rfl (Nat.le_of_ble_eq_true rfl) dX8_keep_17 (fun H locs hP hD hS => ?_)
    have hP : va_P G vwCl (wd_X8_keep cs a_t a_t_house a_t_draft a_t_reader a_t_laws a_t_standing a_t_imageZero a_t_imageOne a_t_rounds a_t_ways a_t_margins a_t_marks a_t_standing_rows a_t_imageZero_rows a_t_imageOne_rows r_t_standing_rows r_t_imageZero_rows r_t_imageOne_rows (1 : Int32) v_t_keptOne v_t_target v_t_standing_known g_t_standing_rows q5_0 q5_1 v_t_imageOne_known g_t_imageOne_rows) H := hP
    have hD : va_D A (wd_X8_keep cs a_t a_t_house a_t_draft a_t_reader a_t_laws a_t_standing a_t_imageZero a_t_imageOne a_t_rounds a_t_ways a_t_margins a_t_marks a_t_standing_rows a_t_imageZero_rows a_t_imageOne_rows r_t_standing_rows r_t_imageZero_rows r_t_imageOne_rows (1 : Int32) v_t_keptOne v_t_target v_t_standing_known g_t_standing_rows q5_0 q5_1 v_t_imageOne_known g_t_imageOne_rows) := hD
    refine lv_goto (tgt := 49) hx hb dX8_keep_20 (by decide) ?_
    refine lv_aload_n hx hb dX8_keep_49 rfl (lv_at hl 0 rfl) ?_
    refine va_get (D := G) (ci := 8) (v := .ref a_t_standing) (C := RX8) (T := TX8) (N := 14) hx hb hg inX8 hown hKT hP 0 rfl rfl 4 (by decide) (hg _ gF_X8_36) (fun _ h9 => h9) rfl dX8_keep_50 ?_
    obtain ⟨q6, hq6, hB⟩ := bnd hB
    refine kr_VN (WC := wd_X6_copiesNow cs a_t_standing a_t_standing_rows r_t_standing_rows v_t_standing_known g_t_standing_rows) (As := []) (rest := []) (r0 := q6) ⟨hx, hb, hml, hown, hg⟩ (k_X6_copiesNow l G cs a_t_standing a_t_standing_rows r_t_standing_rows v_t_standing_known g_t_standing_rows q6 hq6) nM_X8_156_l mI_X6_copiesNow (rmk rfl) hP hKT hN 1 rfl rfl [1, 2, 3, 4, 5, 6, 7, 8, 9, 10, 11, 12, 13] rfl rfl hl.1 rfl (Nat.le_of_ble_eq_true rfl) dX8_keep_53 ?_
    have hK := leafK hB hK
    have hK : (q6, (1 : Int32), v_t_keptOne, q5_0, q5_1, v_t_imageOne_known, g_t_imageOne_rows) = R0 := hK
    subst hK
    exact W.iret (v := q6) hx hb hr (fun t ht hW => ⟨⟨_, (), rfl, rfl, by rw [ht]; exact hP, hD⟩, hS.F ht⟩) hS.2.2 dX8_keep_56
def wd_X8_back (cs : Nat → ClassId) (a_t a_t_house a_t_draft a_t_reader a_t_laws a_t_standing a_t_imageZero a_t_imageOne a_t_rounds a_t_ways a_t_margins a_t_marks a_t_standing_rows a_t_imageZero_rows a_t_imageOne_rows : Nat) (r_t_standing_rows : Nat → Nat) (r_t_imageZero_rows : Nat → Nat) (r_t_imageOne_rows : Nat → Nat) (v_t_keptZero : Int32) (v_t_keptOne : Int32) (v_t_target : Int32) (v_t_standing_known : Int32) (g_t_standing_rows : Nat → Nat → Int32) (v_t_imageZero_known : Int32) (g_t_imageZero_rows : Nat → Nat → Int32) (v_t_imageOne_known : Int32) (g_t_imageOne_rows : Nat → Nat → Int32) : va_W := [(a_t, .inr (8, [.ref a_t_house, .ref a_t_draft, .ref a_t_reader, .ref a_t_laws, .ref a_t_standing, .ref a_t_imageZero, .ref a_t_imageOne, .int v_t_keptZero, .int v_t_keptOne, .int v_t_target, .ref a_t_rounds, .ref a_t_ways, .ref a_t_margins, .ref a_t_marks])), (a_t_standing, .inr (6, [.ref a_t_standing_rows, .int v_t_standing_known])), (a_t_standing_rows, .inl (cs 3, 11, .inr (.inr (.inr (.inr (gO r_t_standing_rows)))))), (r_t_standing_rows 0, .inl (cs 0, 9, .inl (g_t_standing_rows 0))), (r_t_standing_rows 1, .inl (cs 0, 9, .inl (g_t_standing_rows 1))), (r_t_standing_rows 2, .inl (cs 0, 9, .inl (g_t_standing_rows 2))), (r_t_standing_rows 3, .inl (cs 0, 9, .inl (g_t_standing_rows 3))), (r_t_standing_rows 4, .inl (cs 0, 9, .inl (g_t_standing_rows 4))), (r_t_standing_rows 5, .inl (cs 0, 9, .inl (g_t_standing_rows 5))), (r_t_standing_rows 6, .inl (cs 0, 9, .inl (g_t_standing_rows 6))), (r_t_standing_rows 7, .inl (cs 0, 9, .inl (g_t_standing_rows 7))), (r_t_standing_rows 8, .inl (cs 0, 9, .inl (g_t_standing_rows 8))), (r_t_standing_rows 9, .inl (cs 0, 9, .inl (g_t_standing_rows 9))), (r_t_standing_rows 10, .inl (cs 0, 9, .inl (g_t_standing_rows 10))), (a_t_imageZero, .inr (6, [.ref a_t_imageZero_rows, .int v_t_imageZero_known])), (a_t_imageZero_rows, .inl (cs 3, 11, .inr (.inr (.inr (.inr (gO r_t_imageZero_rows)))))), (r_t_imageZero_rows 0, .inl (cs 0, 9, .inl (g_t_imageZero_rows 0))), (r_t_imageZero_rows 1, .inl (cs 0, 9, .inl (g_t_imageZero_rows 1))), (r_t_imageZero_rows 2, .inl (cs 0, 9, .inl (g_t_imageZero_rows 2))), (r_t_imageZero_rows 3, .inl (cs 0, 9, .inl (g_t_imageZero_rows 3))), (r_t_imageZero_rows 4, .inl (cs 0, 9, .inl (g_t_imageZero_rows 4))), (r_t_imageZero_rows 5, .inl (cs 0, 9, .inl (g_t_imageZero_rows 5))), (r_t_imageZero_rows 6, .inl (cs 0, 9, .inl (g_t_imageZero_rows 6))), (r_t_imageZero_rows 7, .inl (cs 0, 9, .inl (g_t_imageZero_rows 7))), (r_t_imageZero_rows 8, .inl (cs 0, 9, .inl (g_t_imageZero_rows 8))), (r_t_imageZero_rows 9, .inl (cs 0, 9, .inl (g_t_imageZero_rows 9))), (r_t_imageZero_rows 10, .inl (cs 0, 9, .inl (g_t_imageZero_rows 10))), (a_t_imageOne, .inr (6, [.ref a_t_imageOne_rows, .int v_t_imageOne_known])), (a_t_imageOne_rows, .inl (cs 3, 11, .inr (.inr (.inr (.inr (gO r_t_imageOne_rows)))))), (r_t_imageOne_rows 0, .inl (cs 0, 9, .inl (g_t_imageOne_rows 0))), (r_t_imageOne_rows 1, .inl (cs 0, 9, .inl (g_t_imageOne_rows 1))), (r_t_imageOne_rows 2, .inl (cs 0, 9, .inl (g_t_imageOne_rows 2))), (r_t_imageOne_rows 3, .inl (cs 0, 9, .inl (g_t_imageOne_rows 3))), (r_t_imageOne_rows 4, .inl (cs 0, 9, .inl (g_t_imageOne_rows 4))), (r_t_imageOne_rows 5, .inl (cs 0, 9, .inl (g_t_imageOne_rows 5))), (r_t_imageOne_rows 6, .inl (cs 0, 9, .inl (g_t_imageOne_rows 6))), (r_t_imageOne_rows 7, .inl (cs 0, 9, .inl (g_t_imageOne_rows 7))), (r_t_imageOne_rows 8, .inl (cs 0, 9, .inl (g_t_imageOne_rows 8))), (r_t_imageOne_rows 9, .inl (cs 0, 9, .inl (g_t_imageOne_rows 9))), (r_t_imageOne_rows 10, .inl (cs 0, 9, .inl (g_t_imageOne_rows 10)))]
def rm_X8_back : Room := { frames := 3, cells := 0, slots := 0, locals := 105 }
theorem mI_X8_back : MI yX8_back RX8 cX8_back 2 (some .int) 1 := ⟨gI_X8_back, gE_X8_back, gN_X8, gC_X8_back, by decide +kernel⟩
set_option maxHeartbeats 4000000 in
set_option maxRecDepth 100000 in
theorem k_X8_back (l : Launch) (G : va_G) (cs : Nat → ClassId) (a_t a_t_house a_t_draft a_t_reader a_t_laws a_t_standing a_t_imageZero a_t_imageOne a_t_rounds a_t_ways a_t_margins a_t_marks a_t_standing_rows a_t_imageZero_rows a_t_imageOne_rows : Nat) (r_t_standing_rows : Nat → Nat) (r_t_imageZero_rows : Nat → Nat) (r_t_imageOne_rows : Nat → Nat) (v_t_keptZero : Int32) (v_t_keptOne : Int32) (v_t_target : Int32) (v_t_standing_known : Int32) (g_t_standing_rows : Nat → Nat → Int32) (v_t_imageZero_known : Int32) (g_t_imageZero_rows : Nat → Nat → Int32) (v_t_imageOne_known : Int32) (g_t_imageOne_rows : Nat → Nat → Int32) (p1 : Int32) (sz : Nat) (R0 : Int32 × Int32 × (Nat → Nat → Int32)) (hB : f_X8_back v_t_keptZero v_t_keptOne v_t_standing_known g_t_standing_rows v_t_imageZero_known g_t_imageZero_rows v_t_imageOne_known g_t_imageOne_rows p1 = some R0) : Met l yX8_back (.code yX8_back cX8_back 2 (some .int) :: GW) rm_X8_back (PcW G cs [.ref a_t, .int p1] (wd_X8_back cs a_t a_t_house a_t_draft a_t_reader a_t_laws a_t_standing a_t_imageZero a_t_imageOne a_t_rounds a_t_ways a_t_margins a_t_marks a_t_standing_rows a_t_imageZero_rows a_t_imageOne_rows r_t_standing_rows r_t_imageZero_rows r_t_imageOne_rows v_t_keptZero v_t_keptOne v_t_target v_t_standing_known g_t_standing_rows v_t_imageZero_known g_t_imageZero_rows v_t_imageOne_known g_t_imageOne_rows) sz) (QcI G (va_A (wd_X8_back cs a_t a_t_house a_t_draft a_t_reader a_t_laws a_t_standing a_t_imageZero a_t_imageOne a_t_rounds a_t_ways a_t_margins a_t_marks a_t_standing_rows a_t_imageZero_rows a_t_imageOne_rows r_t_standing_rows r_t_imageZero_rows r_t_imageOne_rows v_t_keptZero v_t_keptOne v_t_target v_t_standing_known g_t_standing_rows v_t_imageZero_known g_t_imageZero_rows v_t_imageOne_known g_t_imageOne_rows) sz) (wd_X8_back cs a_t a_t_house a_t_draft a_t_reader a_t_laws a_t_standing a_t_imageZero a_t_imageOne a_t_rounds a_t_ways a_t_margins a_t_marks a_t_standing_rows a_t_imageZero_rows a_t_imageOne_rows r_t_standing_rows r_t_imageZero_rows r_t_imageOne_rows v_t_keptZero v_t_keptOne v_t_target R0.2.1 R0.2.2 v_t_imageZero_known g_t_imageZero_rows v_t_imageOne_known g_t_imageOne_rows) R0.1) 0 0 (va_A (wd_X8_back cs a_t a_t_house a_t_draft a_t_reader a_t_laws a_t_standing a_t_imageZero a_t_imageOne a_t_rounds a_t_ways a_t_margins a_t_marks a_t_standing_rows a_t_imageZero_rows a_t_imageOne_rows r_t_standing_rows r_t_imageZero_rows r_t_imageOne_rows v_t_keptZero v_t_keptOne v_t_target v_t_standing_known g_t_standing_rows v_t_imageZero_known g_t_imageZero_rows v_t_imageOne_known g_t_imageOne_rows) sz) := by
  refine Met.ofW (cc := cX8_back) (maxL := 2) (ret := (some .int)) (by decide) rfl ?_
  intro p e s m args below meth c s₁ B hml hv
  obtain ⟨rfl, hsz, hP, hD0, hK, hN⟩ := hv
  have hx := B.exec
  have hb := B.bytes
  have hr := B.returns
  have hts := atoms_spec (ws := .code yX8_back cX8_back 2 (some .int) :: GW) B.pre
  have hg : ∀ w ∈ GW, w.before _ s = true := fun w h => hts w (List.mem_cons_of_mem _ h)
  have hown : s.vm.findClass RX8 = some m.cls := findClass_of_methodNamed B.named
  have hlocks := B.notSynchronized
  subst hsz
  have hD := hD0.self (sz := s.heap.size)
  generalize hAe : va_A (wd_X8_back cs a_t a_t_house a_t_draft a_t_reader a_t_laws a_t_standing a_t_imageZero a_t_imageOne a_t_rounds a_t_ways a_t_margins a_t_marks a_t_standing_rows a_t_imageZero_rows a_t_imageOne_rows r_t_standing_rows r_t_imageZero_rows r_t_imageOne_rows v_t_keptZero v_t_keptOne v_t_target v_t_standing_known g_t_standing_rows v_t_imageZero_known g_t_imageZero_rows v_t_imageOne_known g_t_imageOne_rows) s.heap.size = A at hD ⊢
  have hA : ∀ q : Nat, s.heap.size ≤ q → A q := fun q h => by rw [← hAe]; exact Or.inr h
  have hS : va_S A s.heap s.heap [] := va_S.rf
  have hl := lv_entry ([.ref a_t, .int p1]) (n := 2) (Nat.le_of_ble_eq_true rfl)
  rw [lg_entry_eq]
  generalize (lg_sl ([.ref a_t, .int p1]) ++ List.replicate (2 - (lg_sl ([.ref a_t, .int p1])).length) Slot.unset).toArray = ls at hl ⊢
  have hl : lv_has ls 2 [(0, .ref a_t), (1, .int p1)] := hl
  obtain ⟨y, hB, hK0⟩ : ∃ y, f_X8_back v_t_keptZero v_t_keptOne v_t_standing_known g_t_standing_rows v_t_imageZero_known g_t_imageZero_rows v_t_imageOne_known g_t_imageOne_rows p1 = some y ∧ KEnd R0 y := ⟨R0, hB, rfl⟩
  have hKT := hK
  have hK := hK0
  obtain ⟨H, hHe⟩ : ∃ H, H = s.heap := ⟨_, rfl⟩
  obtain ⟨locs, hLe⟩ : ∃ L : List Loc, L = [] := ⟨_, rfl⟩
  rw [← hHe] at hP
  have hS : va_S A s.heap H locs := by rw [hHe, hLe]; exact hS
  show W p l e rm_X8_back s m ([.ref a_t, .int p1] : List Value).toArray below meth c s.heap [] 0 0 _ _
  suffices hgo : W p l e rm_X8_back s m ([.ref a_t, .int p1] : List Value).toArray below meth c H locs 0 0 (MQ below (QcI G A (wd_X8_back cs a_t a_t_house a_t_draft a_t_reader a_t_laws a_t_standing a_t_imageZero a_t_imageOne a_t_rounds a_t_ways a_t_margins a_t_marks a_t_standing_rows a_t_imageZero_rows a_t_imageOne_rows r_t_standing_rows r_t_imageZero_rows r_t_imageOne_rows v_t_keptZero v_t_keptOne v_t_target R0.2.1 R0.2.2 v_t_imageZero_known g_t_imageZero_rows v_t_imageOne_known g_t_imageOne_rows) R0.1) ([.ref a_t, .int p1] : List Value).toArray s 0 0 A) (F0 m 0 ls []) by rw [hHe, hLe] at hgo; exact hgo
  refine lv_iload_n hx hb dX8_back_0 rfl (lv_at hl 1 rfl) ?_
  refine lv_if_lt (tgt := 9) hx hb dX8_back_1 (by decide) (fun c_1 => ?_) (fun c_1 => ?_)
  · have hB := ifP c_1 hB
    refine lv_iconst (v := -1) hx hb dX8_back_9 (by decide) ?_
    have hK := leafK hB hK
    have hK : ((-1 : Int32), v_t_standing_known, g_t_standing_rows) = R0 := hK
    subst hK
    exact W.iret (v := (-1 : Int32)) hx hb hr (fun t ht hW => ⟨⟨_, (), rfl, rfl, by rw [ht]; exact hP, hD⟩, hS.F ht⟩) hS.2.2 dX8_back_10
  · have hB := ifN c_1 hB
    refine lv_iload_n hx hb dX8_back_4 rfl (lv_at hl 1 rfl) ?_
    refine lv_iconst (v := 1) hx hb dX8_back_5 (by decide) ?_
    refine lv_icmp_le (tgt := 11) hx hb dX8_back_6 (by decide) (fun c_2 => ?_) (fun c_2 => ?_)
    · have hB := ifP c_2 hB
      refine lv_iload_n hx hb dX8_back_11 rfl (lv_at hl 1 rfl) ?_
      refine lv_if_ne (tgt := 25) hx hb dX8_back_12 (by decide) (fun c_3 => ?_) (fun c_3 => ?_)
      · have hB := ifN c_3 hB
        refine lv_aload_n hx hb dX8_back_25 rfl (lv_at hl 0 rfl) ?_
        refine va_get (D := G) (ci := 8) (v := .int v_t_keptOne) (C := RX8) (T := TX8) (N := 14) hx hb hg inX8 hown hKT hP 0 rfl rfl 8 (by decide) (hg _ gF_X8_111) (fun _ h9 => h9) rfl dX8_back_26 ?_
        refine lv_if_ne (tgt := 35) hx hb dX8_back_29 (by decide) (fun c_4 => ?_) (fun c_4 => ?_)
        · have hB := ifN c_4 hB
          refine lv_aload_n hx hb dX8_back_35 rfl (lv_at hl 0 rfl) ?_
          refine va_get (D := G) (ci := 8) (v := .ref a_t_standing) (C := RX8) (T := TX8) (N := 14) hx hb hg inX8 hown hKT hP 0 rfl rfl 4 (by decide) (hg _ gF_X8_36) (fun _ h9 => h9) rfl dX8_back_36 ?_
          refine lv_iload_n hx hb dX8_back_39 rfl (lv_at hl 1 rfl) ?_
          refine lv_if_ne (tgt := 50) hx hb dX8_back_40 (by decide) (fun c_5 => ?_) (fun c_5 => ?_)
          · have hB := ifN c_5 hB
            refine lv_aload_n hx hb dX8_back_50 rfl (lv_at hl 0 rfl) ?_
            refine va_get (D := G) (ci := 8) (v := .ref a_t_imageOne) (C := RX8) (T := TX8) (N := 14) hx hb hg inX8 hown hKT hP 0 rfl rfl 6 (by decide) (hg _ gF_X8_43) (fun _ h9 => h9) rfl dX8_back_51 ?_
            obtain ⟨⟨q6_0, q6_1⟩, hq6, hB⟩ := bnd hB
            refine kw_v (WC := wd_X6_become cs a_t_standing a_t_standing_rows a_t_imageOne a_t_imageOne_rows r_t_standing_rows r_t_imageOne_rows v_t_standing_known g_t_standing_rows v_t_imageOne_known g_t_imageOne_rows) (W1 := wd_X6_become cs a_t_standing a_t_standing_rows a_t_imageOne a_t_imageOne_rows r_t_standing_rows r_t_imageOne_rows q6_0 q6_1 v_t_imageOne_known g_t_imageOne_rows) (W2 := wd_X8_back cs a_t a_t_house a_t_draft a_t_reader a_t_laws a_t_standing a_t_imageZero a_t_imageOne a_t_rounds a_t_ways a_t_margins a_t_marks a_t_standing_rows a_t_imageZero_rows a_t_imageOne_rows r_t_standing_rows r_t_imageZero_rows r_t_imageOne_rows v_t_keptZero v_t_keptOne v_t_target q6_0 q6_1 v_t_imageZero_known g_t_imageZero_rows v_t_imageOne_known g_t_imageOne_rows) (rw_VN (As := [.ref a_t_imageOne]) (rest := []) ⟨hx, hb, hml, hown, hg⟩ (k_X6_become l G cs a_t_standing a_t_standing_rows a_t_imageOne a_t_imageOne_rows r_t_standing_rows r_t_imageOne_rows v_t_standing_known g_t_standing_rows v_t_imageOne_known g_t_imageOne_rows H.size (q6_0, q6_1) hq6) nM_X8_303_l mI_X6_become (rmk rfl) hP hD hKT hN 1 rfl rfl [1, 2, 3, 4, 5, 6, 7, 8, 9, 10, 11, 12, 13, 27, 28, 29, 30, 31, 32, 33, 34, 35, 36, 37, 38, 39] rfl rfl rfl hl.1 rfl (Nat.le_of_ble_eq_true rfl) dX8_back_54) hP hD hS hA [1, 2, 3, 4, 5, 6, 7, 8, 9, 10, 11, 12, 13, 27, 28, 29, 30, 31, 32, 33, 34, 35, 36, 37, 38, 39] [0, 14, 15, 16, 17, 18, 19, 20, 21, 22, 23, 24, 25, 26] [0, 14, 15, 16, 17, 18, 19, 20, 21, 22, 23, 24, 25, 26, 1, 2, 3, 4, 5, 6, 7, 8, 9, 10, 11, 12, 13, 27, 28, 29, 30, 31, 32, 33, 34, 35, 36, 37, 38, 39] ⟨rfl, rfl, rfl, rfl, rfl, rfl, rfl⟩ (fun H locs hP hD hS => ?_)
            refine lv_aload_n hx hb dX8_back_57 rfl (lv_at hl 0 rfl) ?_
            refine va_get (D := G) (ci := 8) (v := .ref a_t_standing) (C := RX8) (T := TX8) (N := 14) hx hb hg inX8 hown hKT hP 0 rfl rfl 4 (by decide) (hg _ gF_X8_36) (fun _ h9 => h9) rfl dX8_back_58 ?_
            obtain ⟨q7, hq7, hB⟩ := bnd hB
            refine kr_VN (WC := wd_X6_copiesNow cs a_t_standing a_t_standing_rows r_t_standing_rows q6_0 q6_1) (As := []) (rest := []) (r0 := q7) ⟨hx, hb, hml, hown, hg⟩ (k_X6_copiesNow l G cs a_t_standing a_t_standing_rows r_t_standing_rows q6_0 q6_1 q7 hq7) nM_X8_156_l mI_X6_copiesNow (rmk rfl) hP hKT hN 1 rfl rfl [1, 2, 3, 4, 5, 6, 7, 8, 9, 10, 11, 12, 13] rfl rfl hl.1 rfl (Nat.le_of_ble_eq_true rfl) dX8_back_61 ?_
            have hK := leafK hB hK
            have hK : (q7, q6_0, q6_1) = R0 := hK
            subst hK
            exact W.iret (v := q7) hx hb hr (fun t ht hW => ⟨⟨_, (), rfl, rfl, by rw [ht]; exact hP, hD⟩, hS.F ht⟩) hS.2.2 dX8_back_64
          · have hB := ifP c_5 hB
            refine lv_aload_n hx hb dX8_back_43 rfl (lv_at hl 0 rfl) ?_
            refine va_get (D := G) (ci := 8) (v := .ref a_t_imageZero) (C := RX8) (T := TX8) (N := 14) hx hb hg inX8 hown hKT hP 0 rfl rfl 5 (by decide) (hg _ gF_X8_40) (fun _ h9 => h9) rfl dX8_back_44 ?_
            refine lv_goto (tgt := 54) hx hb dX8_back_47 (by decide) ?_
            obtain ⟨⟨q8_0, q8_1⟩, hq8, hB⟩ := bnd hB
            refine kw_v (WC := wd_X6_become cs a_t_standing a_t_standing_rows a_t_imageZero a_t_imageZero_rows r_t_standing_rows r_t_imageZero_rows v_t_standing_known g_t_standing_rows v_t_imageZero_known g_t_imageZero_rows) (W1 := wd_X6_become cs a_t_standing a_t_standing_rows a_t_imageZero a_t_imageZero_rows r_t_standing_rows r_t_imageZero_rows q8_0 q8_1 v_t_imageZero_known g_t_imageZero_rows) (W2 := wd_X8_back cs a_t a_t_house a_t_draft a_t_reader a_t_laws a_t_standing a_t_imageZero a_t_imageOne a_t_rounds a_t_ways a_t_margins a_t_marks a_t_standing_rows a_t_imageZero_rows a_t_imageOne_rows r_t_standing_rows r_t_imageZero_rows r_t_imageOne_rows v_t_keptZero v_t_keptOne v_t_target q8_0 q8_1 v_t_imageZero_known g_t_imageZero_rows v_t_imageOne_known g_t_imageOne_rows) (rw_VN (As := [.ref a_t_imageZero]) (rest := []) ⟨hx, hb, hml, hown, hg⟩ (k_X6_become l G cs a_t_standing a_t_standing_rows a_t_imageZero a_t_imageZero_rows r_t_standing_rows r_t_imageZero_rows v_t_standing_known g_t_standing_rows v_t_imageZero_known g_t_imageZero_rows H.size (q8_0, q8_1) hq8) nM_X8_303_l mI_X6_become (rmk rfl) hP hD hKT hN 1 rfl rfl [1, 2, 3, 4, 5, 6, 7, 8, 9, 10, 11, 12, 13, 14, 15, 16, 17, 18, 19, 20, 21, 22, 23, 24, 25, 26] rfl rfl rfl hl.1 rfl (Nat.le_of_ble_eq_true rfl) dX8_back_54) hP hD hS hA [1, 2, 3, 4, 5, 6, 7, 8, 9, 10, 11, 12, 13, 14, 15, 16, 17, 18, 19, 20, 21, 22, 23, 24, 25, 26] [0, 27, 28, 29, 30, 31, 32, 33, 34, 35, 36, 37, 38, 39] [0, 14, 15, 16, 17, 18, 19, 20, 21, 22, 23, 24, 25, 26, 27, 28, 29, 30, 31, 32, 33, 34, 35, 36, 37, 38, 39, 1, 2, 3, 4, 5, 6, 7, 8, 9, 10, 11, 12, 13] ⟨rfl, rfl, rfl, rfl, rfl, rfl, rfl⟩ (fun H locs hP hD hS => ?_)
            refine lv_aload_n hx hb dX8_back_57 rfl (lv_at hl 0 rfl) ?_
            refine va_get (D := G) (ci := 8) (v := .ref a_t_standing) (C := RX8) (T := TX8) (N := 14) hx hb hg inX8 hown hKT hP 0 rfl rfl 4 (by decide) (hg _ gF_X8_36) (fun _ h9 => h9) rfl dX8_back_58 ?_
            obtain ⟨q9, hq9, hB⟩ := bnd hB
            refine kr_VN (WC := wd_X6_copiesNow cs a_t_standing a_t_standing_rows r_t_standing_rows q8_0 q8_1) (As := []) (rest := []) (r0 := q9) ⟨hx, hb, hml, hown, hg⟩ (k_X6_copiesNow l G cs a_t_standing a_t_standing_rows r_t_standing_rows q8_0 q8_1 q9 hq9) nM_X8_156_l mI_X6_copiesNow (rmk rfl) hP hKT hN 1 rfl rfl [1, 2, 3, 4, 5, 6, 7, 8, 9, 10, 11, 12, 13] rfl rfl hl.1 rfl (Nat.le_of_ble_eq_true rfl) dX8_back_61 ?_
            have hK := leafK hB hK
            have hK : (q9, q8_0, q8_1) = R0 := hK
            subst hK
            exact W.iret (v := q9) hx hb hr (fun t ht hW => ⟨⟨_, (), rfl, rfl, by rw [ht]; exact hP, hD⟩, hS.F ht⟩) hS.2.2 dX8_back_64
        · have hB := ifP c_4 hB
          refine lv_bipush (v := -2) hx hb dX8_back_32 (by decide) ?_
          have hK := leafK hB hK
          have hK : ((-2 : Int32), v_t_standing_known, g_t_standing_rows) = R0 := hK
          subst hK
          exact W.iret (v := (-2 : Int32)) hx hb hr (fun t ht hW => ⟨⟨_, (), rfl, rfl, by rw [ht]; exact hP, hD⟩, hS.F ht⟩) hS.2.2 dX8_back_34
      · have hB := ifP c_3 hB
        refine lv_aload_n hx hb dX8_back_15 rfl (lv_at hl 0 rfl) ?_
        refine va_get (D := G) (ci := 8) (v := .int v_t_keptZero) (C := RX8) (T := TX8) (N := 14) hx hb hg inX8 hown hKT hP 0 rfl rfl 7 (by decide) (hg _ gF_X8_107) (fun _ h9 => h9) rfl dX8_back_16 ?_
        refine lv_if_ne (tgt := 35) hx hb dX8_back_19 (by decide) (fun c_10 => ?_) (fun c_10 => ?_)
        · have hB := ifN c_10 hB
          refine lv_aload_n hx hb dX8_back_35 rfl (lv_at hl 0 rfl) ?_
          refine va_get (D := G) (ci := 8) (v := .ref a_t_standing) (C := RX8) (T := TX8) (N := 14) hx hb hg inX8 hown hKT hP 0 rfl rfl 4 (by decide) (hg _ gF_X8_36) (fun _ h9 => h9) rfl dX8_back_36 ?_
          refine lv_iload_n hx hb dX8_back_39 rfl (lv_at hl 1 rfl) ?_
          refine lv_if_ne (tgt := 50) hx hb dX8_back_40 (by decide) (fun c_11 => ?_) (fun c_11 => ?_)
          · have hB := ifN c_11 hB
            refine lv_aload_n hx hb dX8_back_50 rfl (lv_at hl 0 rfl) ?_
            refine va_get (D := G) (ci := 8) (v := .ref a_t_imageOne) (C := RX8) (T := TX8) (N := 14) hx hb hg inX8 hown hKT hP 0 rfl rfl 6 (by decide) (hg _ gF_X8_43) (fun _ h9 => h9) rfl dX8_back_51 ?_
            obtain ⟨⟨q12_0, q12_1⟩, hq12, hB⟩ := bnd hB
            refine kw_v (WC := wd_X6_become cs a_t_standing a_t_standing_rows a_t_imageOne a_t_imageOne_rows r_t_standing_rows r_t_imageOne_rows v_t_standing_known g_t_standing_rows v_t_imageOne_known g_t_imageOne_rows) (W1 := wd_X6_become cs a_t_standing a_t_standing_rows a_t_imageOne a_t_imageOne_rows r_t_standing_rows r_t_imageOne_rows q12_0 q12_1 v_t_imageOne_known g_t_imageOne_rows) (W2 := wd_X8_back cs a_t a_t_house a_t_draft a_t_reader a_t_laws a_t_standing a_t_imageZero a_t_imageOne a_t_rounds a_t_ways a_t_margins a_t_marks a_t_standing_rows a_t_imageZero_rows a_t_imageOne_rows r_t_standing_rows r_t_imageZero_rows r_t_imageOne_rows v_t_keptZero v_t_keptOne v_t_target q12_0 q12_1 v_t_imageZero_known g_t_imageZero_rows v_t_imageOne_known g_t_imageOne_rows) (rw_VN (As := [.ref a_t_imageOne]) (rest := []) ⟨hx, hb, hml, hown, hg⟩ (k_X6_become l G cs a_t_standing a_t_standing_rows a_t_imageOne a_t_imageOne_rows r_t_standing_rows r_t_imageOne_rows v_t_standing_known g_t_standing_rows v_t_imageOne_known g_t_imageOne_rows H.size (q12_0, q12_1) hq12) nM_X8_303_l mI_X6_become (rmk rfl) hP hD hKT hN 1 rfl rfl [1, 2, 3, 4, 5, 6, 7, 8, 9, 10, 11, 12, 13, 27, 28, 29, 30, 31, 32, 33, 34, 35, 36, 37, 38, 39] rfl rfl rfl hl.1 rfl (Nat.le_of_ble_eq_true rfl) dX8_back_54) hP hD hS hA [1, 2, 3, 4, 5, 6, 7, 8, 9, 10, 11, 12, 13, 27, 28, 29, 30, 31, 32, 33, 34, 35, 36, 37, 38, 39] [0, 14, 15, 16, 17, 18, 19, 20, 21, 22, 23, 24, 25, 26] [0, 14, 15, 16, 17, 18, 19, 20, 21, 22, 23, 24, 25, 26, 1, 2, 3, 4, 5, 6, 7, 8, 9, 10, 11, 12, 13, 27, 28, 29, 30, 31, 32, 33, 34, 35, 36, 37, 38, 39] ⟨rfl, rfl, rfl, rfl, rfl, rfl, rfl⟩ (fun H locs hP hD hS => ?_)
            refine lv_aload_n hx hb dX8_back_57 rfl (lv_at hl 0 rfl) ?_
            refine va_get (D := G) (ci := 8) (v := .ref a_t_standing) (C := RX8) (T := TX8) (N := 14) hx hb hg inX8 hown hKT hP 0 rfl rfl 4 (by decide) (hg _ gF_X8_36) (fun _ h9 => h9) rfl dX8_back_58 ?_
            obtain ⟨q13, hq13, hB⟩ := bnd hB
            refine kr_VN (WC := wd_X6_copiesNow cs a_t_standing a_t_standing_rows r_t_standing_rows q12_0 q12_1) (As := []) (rest := []) (r0 := q13) ⟨hx, hb, hml, hown, hg⟩ (k_X6_copiesNow l G cs a_t_standing a_t_standing_rows r_t_standing_rows q12_0 q12_1 q13 hq13) nM_X8_156_l mI_X6_copiesNow (rmk rfl) hP hKT hN 1 rfl rfl [1, 2, 3, 4, 5, 6, 7, 8, 9, 10, 11, 12, 13] rfl rfl hl.1 rfl (Nat.le_of_ble_eq_true rfl) dX8_back_61 ?_
            have hK := leafK hB hK
            have hK : (q13, q12_0, q12_1) = R0 := hK
            subst hK
            exact W.iret (v := q13) hx hb hr (fun t ht hW => ⟨⟨_, (), rfl, rfl, by rw [ht]; exact hP, hD⟩, hS.F ht⟩) hS.2.2 dX8_back_64
          · have hB := ifP c_11 hB
            refine lv_aload_n hx hb dX8_back_43 rfl (lv_at hl 0 rfl) ?_
            refine va_get (D := G) (ci := 8) (v := .ref a_t_imageZero) (C := RX8) (T := TX8) (N := 14) hx hb hg inX8 hown hKT hP 0 rfl rfl 5 (by decide) (hg _ gF_X8_40) (fun _ h9 => h9) rfl dX8_back_44 ?_
            refine lv_goto (tgt := 54) hx hb dX8_back_47 (by decide) ?_
            obtain ⟨⟨q14_0, q14_1⟩, hq14, hB⟩ := bnd hB
            refine kw_v (WC := wd_X6_become cs a_t_standing a_t_standing_rows a_t_imageZero a_t_imageZero_rows r_t_standing_rows r_t_imageZero_rows v_t_standing_known g_t_standing_rows v_t_imageZero_known g_t_imageZero_rows) (W1 := wd_X6_become cs a_t_standing a_t_standing_rows a_t_imageZero a_t_imageZero_rows r_t_standing_rows r_t_imageZero_rows q14_0 q14_1 v_t_imageZero_known g_t_imageZero_rows) (W2 := wd_X8_back cs a_t a_t_house a_t_draft a_t_reader a_t_laws a_t_standing a_t_imageZero a_t_imageOne a_t_rounds a_t_ways a_t_margins a_t_marks a_t_standing_rows a_t_imageZero_rows a_t_imageOne_rows r_t_standing_rows r_t_imageZero_rows r_t_imageOne_rows v_t_keptZero v_t_keptOne v_t_target q14_0 q14_1 v_t_imageZero_known g_t_imageZero_rows v_t_imageOne_known g_t_imageOne_rows) (rw_VN (As := [.ref a_t_imageZero]) (rest := []) ⟨hx, hb, hml, hown, hg⟩ (k_X6_become l G cs a_t_standing a_t_standing_rows a_t_imageZero a_t_imageZero_rows r_t_standing_rows r_t_imageZero_rows v_t_standing_known g_t_standing_rows v_t_imageZero_known g_t_imageZero_rows H.size (q14_0, q14_1) hq14) nM_X8_303_l mI_X6_become (rmk rfl) hP hD hKT hN 1 rfl rfl [1, 2, 3, 4, 5, 6, 7, 8, 9, 10, 11, 12, 13, 14, 15, 16, 17, 18, 19, 20, 21, 22, 23, 24, 25, 26] rfl rfl rfl hl.1 rfl (Nat.le_of_ble_eq_true rfl) dX8_back_54) hP hD hS hA [1, 2, 3, 4, 5, 6, 7, 8, 9, 10, 11, 12, 13, 14, 15, 16, 17, 18, 19, 20, 21, 22, 23, 24, 25, 26] [0, 27, 28, 29, 30, 31, 32, 33, 34, 35, 36, 37, 38, 39] [0, 14, 15, 16, 17, 18, 19, 20, 21, 22, 23, 24, 25, 26, 27, 28, 29, 30, 31, 32, 33, 34, 35, 36, 37, 38, 39, 1, 2, 3, 4, 5, 6, 7, 8, 9, 10, 11, 12, 13] ⟨rfl, rfl, rfl, rfl, rfl, rfl, rfl⟩ (fun H locs hP hD hS => ?_)
            refine lv_aload_n hx hb dX8_back_57 rfl (lv_at hl 0 rfl) ?_
            refine va_get (D := G) (ci := 8) (v := .ref a_t_standing) (C := RX8) (T := TX8) (N := 14) hx hb hg inX8 hown hKT hP 0 rfl rfl 4 (by decide) (hg _ gF_X8_36) (fun _ h9 => h9) rfl dX8_back_58 ?_
            obtain ⟨q15, hq15, hB⟩ := bnd hB
            refine kr_VN (WC := wd_X6_copiesNow cs a_t_standing a_t_standing_rows r_t_standing_rows q14_0 q14_1) (As := []) (rest := []) (r0 := q15) ⟨hx, hb, hml, hown, hg⟩ (k_X6_copiesNow l G cs a_t_standing a_t_standing_rows r_t_standing_rows q14_0 q14_1 q15 hq15) nM_X8_156_l mI_X6_copiesNow (rmk rfl) hP hKT hN 1 rfl rfl [1, 2, 3, 4, 5, 6, 7, 8, 9, 10, 11, 12, 13] rfl rfl hl.1 rfl (Nat.le_of_ble_eq_true rfl) dX8_back_61 ?_
            have hK := leafK hB hK
            have hK : (q15, q14_0, q14_1) = R0 := hK
            subst hK
            exact W.iret (v := q15) hx hb hr (fun t ht hW => ⟨⟨_, (), rfl, rfl, by rw [ht]; exact hP, hD⟩, hS.F ht⟩) hS.2.2 dX8_back_64
        · have hB := ifP c_10 hB
          refine lv_goto (tgt := 32) hx hb dX8_back_22 (by decide) ?_
          refine lv_bipush (v := -2) hx hb dX8_back_32 (by decide) ?_
          have hK := leafK hB hK
          have hK : ((-2 : Int32), v_t_standing_known, g_t_standing_rows) = R0 := hK
          subst hK
          exact W.iret (v := (-2 : Int32)) hx hb hr (fun t ht hW => ⟨⟨_, (), rfl, rfl, by rw [ht]; exact hP, hD⟩, hS.F ht⟩) hS.2.2 dX8_back_34
    · have hB := ifN c_2 hB
      refine lv_iconst (v := -1) hx hb dX8_back_9 (by decide) ?_
      have hK := leafK hB hK
      have hK : ((-1 : Int32), v_t_standing_known, g_t_standing_rows) = R0 := hK
      subst hK
      exact W.iret (v := (-1 : Int32)) hx hb hr (fun t ht hW => ⟨⟨_, (), rfl, rfl, by rw [ht]; exact hP, hD⟩, hS.F ht⟩) hS.2.2 dX8_back_10
def wd_X8_count (cs : Nat → ClassId) (a_t a_t_house a_t_draft a_t_reader a_t_laws a_t_standing a_t_imageZero a_t_imageOne a_t_rounds a_t_ways a_t_margins a_t_marks a_t_house_turn a_t_house_bent a_t_reader_text a_t_standing_rows a_t_margins_of a_t_margins_said : Nat) (v_t_keptZero : Int32) (v_t_keptOne : Int32) (v_t_target : Int32) (v_t_house_opinions : Int32) (v_t_house_lines : Int32) (v_t_house_books : Int32) (v_t_house_told : Int32) (v_t_house_scribes : Int32) (v_t_house_need : Int32) (v_t_reader_length : Int32) (v_t_reader_next : Int32) (v_t_reader_place : Int32) (v_t_reader_sort : Int32) (v_t_reader_value : Int32) (v_t_reader_bookTold : Int32) (v_t_reader_needTold : Int32) (v_t_standing_known : Int32) (v_t_margins_size : Int32) : va_W := [(a_t, .inr (8, [.ref a_t_house, .ref a_t_draft, .ref a_t_reader, .ref a_t_laws, .ref a_t_standing, .ref a_t_imageZero, .ref a_t_imageOne, .int v_t_keptZero, .int v_t_keptOne, .int v_t_target, .ref a_t_rounds, .ref a_t_ways, .ref a_t_margins, .ref a_t_marks])), (a_t_house, .inr (0, [.int v_t_house_opinions, .int v_t_house_lines, .int v_t_house_books, .int v_t_house_told, .int v_t_house_scribes, .int v_t_house_need, .ref a_t_house_turn, .ref a_t_house_bent])), (a_t_reader, .inr (4, [.ref a_t_reader_text, .int v_t_reader_length, .int v_t_reader_next, .int v_t_reader_place, .int v_t_reader_sort, .int v_t_reader_value, .int v_t_reader_bookTold, .int v_t_reader_needTold])), (a_t_standing, .inr (6, [.ref a_t_standing_rows, .int v_t_standing_known])), (a_t_margins, .inr (2, [.ref a_t_margins_of, .ref a_t_margins_said, .int v_t_margins_size]))]
def rm_X8_count : Room := { frames := 0, cells := 0, slots := 0, locals := 0 }
theorem mI_X8_count : MI yX8_count RX8 cX8_count 2 (some .int) 1 := ⟨gI_X8_count, gE_X8_count, gN_X8, gC_X8_count, by decide +kernel⟩
set_option maxHeartbeats 4000000 in
set_option maxRecDepth 100000 in
theorem k_X8_count (l : Launch) (G : va_G) (cs : Nat → ClassId) (a_t a_t_house a_t_draft a_t_reader a_t_laws a_t_standing a_t_imageZero a_t_imageOne a_t_rounds a_t_ways a_t_margins a_t_marks a_t_house_turn a_t_house_bent a_t_reader_text a_t_standing_rows a_t_margins_of a_t_margins_said : Nat) (v_t_keptZero : Int32) (v_t_keptOne : Int32) (v_t_target : Int32) (v_t_house_opinions : Int32) (v_t_house_lines : Int32) (v_t_house_books : Int32) (v_t_house_told : Int32) (v_t_house_scribes : Int32) (v_t_house_need : Int32) (v_t_reader_length : Int32) (v_t_reader_next : Int32) (v_t_reader_place : Int32) (v_t_reader_sort : Int32) (v_t_reader_value : Int32) (v_t_reader_bookTold : Int32) (v_t_reader_needTold : Int32) (v_t_standing_known : Int32) (v_t_margins_size : Int32) (p1 : Int32) (R0 : Int32) (hB : f_X8_count v_t_house_opinions v_t_house_lines v_t_house_scribes v_t_house_need v_t_reader_length v_t_standing_known v_t_margins_size p1 = some R0) : Met l yX8_count (.code yX8_count cX8_count 2 (some .int) :: GW) rm_X8_count (PcR G cs [.ref a_t, .int p1] (wd_X8_count cs a_t a_t_house a_t_draft a_t_reader a_t_laws a_t_standing a_t_imageZero a_t_imageOne a_t_rounds a_t_ways a_t_margins a_t_marks a_t_house_turn a_t_house_bent a_t_reader_text a_t_standing_rows a_t_margins_of a_t_margins_said v_t_keptZero v_t_keptOne v_t_target v_t_house_opinions v_t_house_lines v_t_house_books v_t_house_told v_t_house_scribes v_t_house_need v_t_reader_length v_t_reader_next v_t_reader_place v_t_reader_sort v_t_reader_value v_t_reader_bookTold v_t_reader_needTold v_t_standing_known v_t_margins_size)) (vp_Si (fun r => r = R0)) 0 0 (fun _ => False) := by
  refine Met.ofW (cc := cX8_count) (maxL := 2) (ret := (some .int)) (by decide) rfl ?_
  intro p e s m args below meth c s₁ B hml hv
  obtain ⟨rfl, hP, hK, hN⟩ := hv
  have hx := B.exec
  have hb := B.bytes
  have hr := B.returns
  have hts := atoms_spec (ws := .code yX8_count cX8_count 2 (some .int) :: GW) B.pre
  have hg : ∀ w ∈ GW, w.before _ s = true := fun w h => hts w (List.mem_cons_of_mem _ h)
  have hown : s.vm.findClass RX8 = some m.cls := findClass_of_methodNamed B.named
  have hlocks := B.notSynchronized
  have hl := lv_entry ([.ref a_t, .int p1]) (n := 2) (Nat.le_of_ble_eq_true rfl)
  rw [lg_entry_eq]
  generalize (lg_sl ([.ref a_t, .int p1]) ++ List.replicate (2 - (lg_sl ([.ref a_t, .int p1])).length) Slot.unset).toArray = ls at hl ⊢
  have hl : lv_has ls 2 [(0, .ref a_t), (1, .int p1)] := hl
  obtain ⟨y, hB, hK0⟩ : ∃ y, f_X8_count v_t_house_opinions v_t_house_lines v_t_house_scribes v_t_house_need v_t_reader_length v_t_standing_known v_t_margins_size p1 = some y ∧ KEnd R0 y := ⟨R0, hB, rfl⟩
  have hKT := hK
  have hK := hK0
  show W p l e rm_X8_count s m ([.ref a_t, .int p1] : List Value).toArray below meth c s.heap [] 0 0 (MQ below (vp_Si (fun r => r = R0)) ([.ref a_t, .int p1] : List Value).toArray s 0 0 (fun _ => False)) (F0 m 0 ls [])
  refine lv_iload_n hx hb dX8_count_0 rfl (lv_at hl 1 rfl) ?_
  by_cases c_1_0 : p1 = 0
  · have hB := ifP c_1_0 hB
    refine lv_tableIn (off := 43) (tgt := 44) hx hb dX8_count_1 (by rw [c_1_0]; decide) (by rw [c_1_0]; decide) (by rw [c_1_0]; decide) (by decide) ?_
    refine lv_aload_n hx hb dX8_count_44 rfl (lv_at hl 0 rfl) ?_
    refine va_get (D := G) (ci := 8) (v := .ref a_t_house) (C := RX8) (T := TX8) (N := 14) hx hb hg inX8 hown hKT hP 0 rfl rfl 0 (by decide) (hg _ gF_X8_10) (fun _ h9 => h9) rfl dX8_count_45 ?_
    refine va_getN (D := G) (ci := 0) (v := .int v_t_house_opinions) (C := RX0) (T := TX0) (N := 8) hx hb hg inX0 hown hKT hP 1 rfl rfl 0 (by decide) (va_Nw.use rfl (hN _ nF_X8_271_l rfl)) (fun _ h9 => h9) rfl dX8_count_48 ?_
    have hK := leafK hB hK
    have hK : v_t_house_opinions = R0 := hK
    subst hK
    exact W.iret (v := v_t_house_opinions) hx hb hr (fun t ht hW => ⟨_, rfl, rfl, ht⟩) (fun _ h => by cases h) dX8_count_51
  have hB := ifN c_1_0 hB
  by_cases c_1_1 : p1 = 1
  · have hB := ifP c_1_1 hB
    refine lv_tableIn (off := 51) (tgt := 52) hx hb dX8_count_1 (by rw [c_1_1]; decide) (by rw [c_1_1]; decide) (by rw [c_1_1]; decide) (by decide) ?_
    refine lv_aload_n hx hb dX8_count_52 rfl (lv_at hl 0 rfl) ?_
    refine va_get (D := G) (ci := 8) (v := .ref a_t_house) (C := RX8) (T := TX8) (N := 14) hx hb hg inX8 hown hKT hP 0 rfl rfl 0 (by decide) (hg _ gF_X8_10) (fun _ h9 => h9) rfl dX8_count_53 ?_
    refine va_getN (D := G) (ci := 0) (v := .int v_t_house_lines) (C := RX0) (T := TX0) (N := 8) hx hb hg inX0 hown hKT hP 1 rfl rfl 1 (by decide) (va_Nw.use rfl (hN _ nF_X8_234_l rfl)) (fun _ h9 => h9) rfl dX8_count_56 ?_
    have hK := leafK hB hK
    have hK : v_t_house_lines = R0 := hK
    subst hK
    exact W.iret (v := v_t_house_lines) hx hb hr (fun t ht hW => ⟨_, rfl, rfl, ht⟩) (fun _ h => by cases h) dX8_count_59
  have hB := ifN c_1_1 hB
  by_cases c_1_2 : p1 = 2
  · have hB := ifP c_1_2 hB
    refine lv_tableIn (off := 59) (tgt := 60) hx hb dX8_count_1 (by rw [c_1_2]; decide) (by rw [c_1_2]; decide) (by rw [c_1_2]; decide) (by decide) ?_
    refine lv_aload_n hx hb dX8_count_60 rfl (lv_at hl 0 rfl) ?_
    refine va_get (D := G) (ci := 8) (v := .ref a_t_house) (C := RX8) (T := TX8) (N := 14) hx hb hg inX8 hown hKT hP 0 rfl rfl 0 (by decide) (hg _ gF_X8_10) (fun _ h9 => h9) rfl dX8_count_61 ?_
    refine va_getN (D := G) (ci := 0) (v := .int v_t_house_scribes) (C := RX0) (T := TX0) (N := 8) hx hb hg inX0 hown hKT hP 1 rfl rfl 4 (by decide) (va_Nw.use rfl (hN _ nF_X8_207_l rfl)) (fun _ h9 => h9) rfl dX8_count_64 ?_
    have hK := leafK hB hK
    have hK : v_t_house_scribes = R0 := hK
    subst hK
    exact W.iret (v := v_t_house_scribes) hx hb hr (fun t ht hW => ⟨_, rfl, rfl, ht⟩) (fun _ h => by cases h) dX8_count_67
  have hB := ifN c_1_2 hB
  by_cases c_1_3 : p1 = 3
  · have hB := ifP c_1_3 hB
    refine lv_tableIn (off := 67) (tgt := 68) hx hb dX8_count_1 (by rw [c_1_3]; decide) (by rw [c_1_3]; decide) (by rw [c_1_3]; decide) (by decide) ?_
    refine lv_aload_n hx hb dX8_count_68 rfl (lv_at hl 0 rfl) ?_
    refine va_get (D := G) (ci := 8) (v := .ref a_t_house) (C := RX8) (T := TX8) (N := 14) hx hb hg inX8 hown hKT hP 0 rfl rfl 0 (by decide) (hg _ gF_X8_10) (fun _ h9 => h9) rfl dX8_count_69 ?_
    refine va_getN (D := G) (ci := 0) (v := .int v_t_house_need) (C := RX0) (T := TX0) (N := 8) hx hb hg inX0 hown hKT hP 1 rfl rfl 5 (by decide) (va_Nw.use rfl (hN _ nF_X8_307_l rfl)) (fun _ h9 => h9) rfl dX8_count_72 ?_
    have hK := leafK hB hK
    have hK : v_t_house_need = R0 := hK
    subst hK
    exact W.iret (v := v_t_house_need) hx hb hr (fun t ht hW => ⟨_, rfl, rfl, ht⟩) (fun _ h => by cases h) dX8_count_75
  have hB := ifN c_1_3 hB
  by_cases c_1_4 : p1 = 4
  · have hB := ifP c_1_4 hB
    refine lv_tableIn (off := 75) (tgt := 76) hx hb dX8_count_1 (by rw [c_1_4]; decide) (by rw [c_1_4]; decide) (by rw [c_1_4]; decide) (by decide) ?_
    refine lv_aload_n hx hb dX8_count_76 rfl (lv_at hl 0 rfl) ?_
    refine va_get (D := G) (ci := 8) (v := .ref a_t_margins) (C := RX8) (T := TX8) (N := 14) hx hb hg inX8 hown hKT hP 0 rfl rfl 12 (by decide) (hg _ gF_X8_65) (fun _ h9 => h9) rfl dX8_count_77 ?_
    refine va_getN (D := G) (ci := 2) (v := .int v_t_margins_size) (C := RX2) (T := TX2) (N := 3) hx hb hg inX2 hown hKT hP 4 rfl rfl 2 (by decide) (va_Nw.use rfl (hN _ nF_X8_268_l rfl)) (fun _ h9 => h9) rfl dX8_count_80 ?_
    have hK := leafK hB hK
    have hK : v_t_margins_size = R0 := hK
    subst hK
    exact W.iret (v := v_t_margins_size) hx hb hr (fun t ht hW => ⟨_, rfl, rfl, ht⟩) (fun _ h => by cases h) dX8_count_83
  have hB := ifN c_1_4 hB
  by_cases c_1_5 : p1 = 5
  · have hB := ifP c_1_5 hB
    refine lv_tableIn (off := 83) (tgt := 84) hx hb dX8_count_1 (by rw [c_1_5]; decide) (by rw [c_1_5]; decide) (by rw [c_1_5]; decide) (by decide) ?_
    refine lv_aload_n hx hb dX8_count_84 rfl (lv_at hl 0 rfl) ?_
    refine va_get (D := G) (ci := 8) (v := .ref a_t_standing) (C := RX8) (T := TX8) (N := 14) hx hb hg inX8 hown hKT hP 0 rfl rfl 4 (by decide) (hg _ gF_X8_36) (fun _ h9 => h9) rfl dX8_count_85 ?_
    refine va_getN (D := G) (ci := 6) (v := .int v_t_standing_known) (C := RX6) (T := TX6) (N := 2) hx hb hg inX6 hown hKT hP 3 rfl rfl 1 (by decide) (va_Nw.use rfl (hN _ nF_X8_191_l rfl)) (fun _ h9 => h9) rfl dX8_count_88 ?_
    have hK := leafK hB hK
    have hK : v_t_standing_known = R0 := hK
    subst hK
    exact W.iret (v := v_t_standing_known) hx hb hr (fun t ht hW => ⟨_, rfl, rfl, ht⟩) (fun _ h => by cases h) dX8_count_91
  have hB := ifN c_1_5 hB
  by_cases c_1_6 : p1 = 6
  · have hB := ifP c_1_6 hB
    refine lv_tableIn (off := 91) (tgt := 92) hx hb dX8_count_1 (by rw [c_1_6]; decide) (by rw [c_1_6]; decide) (by rw [c_1_6]; decide) (by decide) ?_
    refine lv_aload_n hx hb dX8_count_92 rfl (lv_at hl 0 rfl) ?_
    refine va_get (D := G) (ci := 8) (v := .ref a_t_reader) (C := RX8) (T := TX8) (N := 14) hx hb hg inX8 hown hKT hP 0 rfl rfl 2 (by decide) (hg _ gF_X8_22) (fun _ h9 => h9) rfl dX8_count_93 ?_
    refine va_getN (D := G) (ci := 4) (v := .int v_t_reader_length) (C := RX4) (T := TX4) (N := 8) hx hb hg inX4 hown hKT hP 2 rfl rfl 1 (by decide) (va_Nw.use rfl (hN _ nF_X8_80_l rfl)) (fun _ h9 => h9) rfl dX8_count_96 ?_
    have hK := leafK hB hK
    have hK : v_t_reader_length = R0 := hK
    subst hK
    exact W.iret (v := v_t_reader_length) hx hb hr (fun t ht hW => ⟨_, rfl, rfl, ht⟩) (fun _ h => by cases h) dX8_count_99
  have hB := ifN c_1_6 hB
  have c_1_0t := lv_neT (a := 0) c_1_0 rfl
  have c_1_1t := lv_neT (a := 1) c_1_1 rfl
  have c_1_2t := lv_neT (a := 2) c_1_2 rfl
  have c_1_3t := lv_neT (a := 3) c_1_3 rfl
  have c_1_4t := lv_neT (a := 4) c_1_4 rfl
  have c_1_5t := lv_neT (a := 5) c_1_5 rfl
  have c_1_6t := lv_neT (a := 6) c_1_6 rfl
  refine lv_tableOut (tgt := 100) hx hb dX8_count_1 (by omega) (by decide) ?_
  refine lv_iconst (v := -1) hx hb dX8_count_100 (by decide) ?_
  have hK := leafK hB hK
  have hK : (-1 : Int32) = R0 := hK
  subst hK
  exact W.iret (v := (-1 : Int32)) hx hb hr (fun t ht hW => ⟨_, rfl, rfl, ht⟩) (fun _ h => by cases h) dX8_count_101
