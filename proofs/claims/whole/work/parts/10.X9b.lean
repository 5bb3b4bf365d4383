def wd_X9_house (cs : Nat → ClassId) (a_t a_t_text a_t_opinions a_t_lines a_t_draftBook a_t_scribes a_t_turn a_t_bent a_t_need a_t_now a_t_isKept a_t_far a_t_marginOf a_t_marginSays : Nat) (v_t_trace : Int64) (v_t_typed : Int32) (v_t_needTold : Int32) (v_t_at : Int32) (v_t_start : Int32) (v_t_sort : Int32) (v_t_value : Int32) (v_t_fault : Int32) (v_t_target : Int32) (v_t_went : Int32) (v_t_ender : Int32) (v_t_had : Int32) (v_t_margins : Int32) (g_t_text : Nat → Int32) (g_t_opinions : Nat → Int32) (g_t_lines : Nat → Int32) (g_t_draftBook : Nat → Int32) (g_t_scribes : Nat → Int32) (g_t_turn : Nat → Int32) (g_t_bent : Nat → Int32) (g_t_need : Nat → Int32) (g_t_now : Nat → Int32) (g_t_isKept : Nat → Int32) : va_W := [(a_t, .inr (9, [.long v_t_trace, .ref a_t_text, .int v_t_typed, .ref a_t_opinions, .ref a_t_lines, .ref a_t_draftBook, .ref a_t_scribes, .ref a_t_turn, .ref a_t_bent, .ref a_t_need, .int v_t_needTold, .int v_t_at, .int v_t_start, .int v_t_sort, .int v_t_value, .int v_t_fault, .ref a_t_now, .ref a_t_isKept, .int v_t_target, .int v_t_went, .int v_t_ender, .int v_t_had, .ref a_t_far, .ref a_t_marginOf, .ref a_t_marginSays, .int v_t_margins])), (a_t_text, .inl (cs 1, 120, .inl g_t_text)), (a_t_opinions, .inl (cs 0, 2, .inl g_t_opinions)), (a_t_lines, .inl (cs 0, 2, .inl g_t_lines)), (a_t_draftBook, .inl (cs 0, 4, .inl g_t_draftBook)), (a_t_scribes, .inl (cs 0, 2, .inl g_t_scribes)), (a_t_turn, .inl (cs 0, 12, .inl g_t_turn)), (a_t_bent, .inl (cs 0, 12, .inl g_t_bent)), (a_t_need, .inl (cs 0, 2, .inl g_t_need)), (a_t_now, .inl (cs 0, 300, .inl g_t_now)), (a_t_isKept, .inl (cs 2, 2, .inl g_t_isKept))]
def rm_X9_house : Room := { frames := 5, cells := 0, slots := 0, locals := 108 }
theorem mI_X9_house : MI yX9_house RX9 cX9_house 3 (some .int) 0 := ⟨gI_X9_house, gE_X9_house, gN_X9, gC_X9_house, by decide +kernel⟩
set_option maxHeartbeats 4000000 in
set_option maxRecDepth 100000 in
theorem k_X9_house (l : Launch) (G : va_G) (cs : Nat → ClassId) (a_t a_t_text a_t_opinions a_t_lines a_t_draftBook a_t_scribes a_t_turn a_t_bent a_t_need a_t_now a_t_isKept a_t_far a_t_marginOf a_t_marginSays : Nat) (v_t_trace : Int64) (v_t_typed : Int32) (v_t_needTold : Int32) (v_t_at : Int32) (v_t_start : Int32) (v_t_sort : Int32) (v_t_value : Int32) (v_t_fault : Int32) (v_t_target : Int32) (v_t_went : Int32) (v_t_ender : Int32) (v_t_had : Int32) (v_t_margins : Int32) (g_t_text : Nat → Int32) (g_t_opinions : Nat → Int32) (g_t_lines : Nat → Int32) (g_t_draftBook : Nat → Int32) (g_t_scribes : Nat → Int32) (g_t_turn : Nat → Int32) (g_t_bent : Nat → Int32) (g_t_need : Nat → Int32) (g_t_now : Nat → Int32) (g_t_isKept : Nat → Int32) (sz : Nat) (R0 : Int32 × Int32 × Int32 × Int32 × Int32 × Int32 × Int32 × Int32 × Int32 × Int32 × (Nat → Int32) × (Nat → Int32) × (Nat → Int32) × (Nat → Int32) × (Nat → Int32) × (Nat → Int32) × (Nat → Int32) × (Nat → Int32) × (Nat → Int32)) (hB : f_X9_house v_t_typed v_t_target v_t_margins g_t_text g_t_opinions g_t_lines g_t_draftBook g_t_scribes g_t_turn g_t_bent g_t_need g_t_now g_t_isKept = some R0) : Met l yX9_house (.code yX9_house cX9_house 3 (some .int) :: GW) rm_X9_house (PcW G cs [.ref a_t] (wd_X9_house cs a_t a_t_text a_t_opinions a_t_lines a_t_draftBook a_t_scribes a_t_turn a_t_bent a_t_need a_t_now a_t_isKept a_t_far a_t_marginOf a_t_marginSays v_t_trace v_t_typed v_t_needTold v_t_at v_t_start v_t_sort v_t_value v_t_fault v_t_target v_t_went v_t_ender v_t_had v_t_margins g_t_text g_t_opinions g_t_lines g_t_draftBook g_t_scribes g_t_turn g_t_bent g_t_need g_t_now g_t_isKept) sz) (QcI G (va_A (wd_X9_house cs a_t a_t_text a_t_opinions a_t_lines a_t_draftBook a_t_scribes a_t_turn a_t_bent a_t_need a_t_now a_t_isKept a_t_far a_t_marginOf a_t_marginSays v_t_trace v_t_typed v_t_needTold v_t_at v_t_start v_t_sort v_t_value v_t_fault v_t_target v_t_went v_t_ender v_t_had v_t_margins g_t_text g_t_opinions g_t_lines g_t_draftBook g_t_scribes g_t_turn g_t_bent g_t_need g_t_now g_t_isKept) sz) (wd_X9_house cs a_t a_t_text a_t_opinions a_t_lines a_t_draftBook a_t_scribes a_t_turn a_t_bent a_t_need a_t_now a_t_isKept a_t_far a_t_marginOf a_t_marginSays v_t_trace R0.2.1 R0.2.2.1 R0.2.2.2.1 R0.2.2.2.2.1 R0.2.2.2.2.2.1 R0.2.2.2.2.2.2.1 R0.2.2.2.2.2.2.2.1 R0.2.2.2.2.2.2.2.2.1 v_t_went v_t_ender v_t_had R0.2.2.2.2.2.2.2.2.2.1 g_t_text R0.2.2.2.2.2.2.2.2.2.2.1 R0.2.2.2.2.2.2.2.2.2.2.2.1 R0.2.2.2.2.2.2.2.2.2.2.2.2.1 R0.2.2.2.2.2.2.2.2.2.2.2.2.2.1 R0.2.2.2.2.2.2.2.2.2.2.2.2.2.2.1 R0.2.2.2.2.2.2.2.2.2.2.2.2.2.2.2.1 R0.2.2.2.2.2.2.2.2.2.2.2.2.2.2.2.2.1 R0.2.2.2.2.2.2.2.2.2.2.2.2.2.2.2.2.2.1 R0.2.2.2.2.2.2.2.2.2.2.2.2.2.2.2.2.2.2) R0.1) 0 0 (va_A (wd_X9_house cs a_t a_t_text a_t_opinions a_t_lines a_t_draftBook a_t_scribes a_t_turn a_t_bent a_t_need a_t_now a_t_isKept a_t_far a_t_marginOf a_t_marginSays v_t_trace v_t_typed v_t_needTold v_t_at v_t_start v_t_sort v_t_value v_t_fault v_t_target v_t_went v_t_ender v_t_had v_t_margins g_t_text g_t_opinions g_t_lines g_t_draftBook g_t_scribes g_t_turn g_t_bent g_t_need g_t_now g_t_isKept) sz) := by
  refine Met.ofW (cc := cX9_house) (maxL := 3) (ret := (some .int)) (by decide) rfl ?_
  intro p e s m args below meth c s₁ B hml hv
  obtain ⟨rfl, hsz, hP, hD0, hK, hN⟩ := hv
  have hx := B.exec
  have hb := B.bytes
  have hr := B.returns
  have hts := atoms_spec (ws := .code yX9_house cX9_house 3 (some .int) :: GW) B.pre
  have hg : ∀ w ∈ GW, w.before _ s = true := fun w h => hts w (List.mem_cons_of_mem _ h)
  have hown : s.vm.findClass RX9 = some m.cls := findClass_of_methodNamed B.named
  have hlocks := B.notSynchronized
  subst hsz
  have hD := hD0.self (sz := s.heap.size)
  generalize hAe : va_A (wd_X9_house cs a_t a_t_text a_t_opinions a_t_lines a_t_draftBook a_t_scribes a_t_turn a_t_bent a_t_need a_t_now a_t_isKept a_t_far a_t_marginOf a_t_marginSays v_t_trace v_t_typed v_t_needTold v_t_at v_t_start v_t_sort v_t_value v_t_fault v_t_target v_t_went v_t_ender v_t_had v_t_margins g_t_text g_t_opinions g_t_lines g_t_draftBook g_t_scribes g_t_turn g_t_bent g_t_need g_t_now g_t_isKept) s.heap.size = A at hD ⊢
  have hA : ∀ q : Nat, s.heap.size ≤ q → A q := fun q h => by rw [← hAe]; exact Or.inr h
  have hS : va_S A s.heap s.heap [] := va_S.rf
  have hl := lv_entry ([.ref a_t]) (n := 3) (Nat.le_of_ble_eq_true rfl)
  rw [lg_entry_eq]
  generalize (lg_sl ([.ref a_t]) ++ List.replicate (3 - (lg_sl ([.ref a_t])).length) Slot.unset).toArray = ls at hl ⊢
  have hl : lv_has ls 3 [(0, .ref a_t)] := hl
  obtain ⟨y, hB, hK0⟩ : ∃ y, f_X9_house v_t_typed v_t_target v_t_margins g_t_text g_t_opinions g_t_lines g_t_draftBook g_t_scribes g_t_turn g_t_bent g_t_need g_t_now g_t_isKept = some y ∧ KEnd R0 y := ⟨R0, hB, rfl⟩
  have hKT := hK
  have hK := hK0
  obtain ⟨H, hHe⟩ : ∃ H, H = s.heap := ⟨_, rfl⟩
  obtain ⟨locs, hLe⟩ : ∃ L : List Loc, L = [] := ⟨_, rfl⟩
  rw [← hHe] at hP
  have hS : va_S A s.heap H locs := by rw [hHe, hLe]; exact hS
  show W p l e rm_X9_house s m ([.ref a_t] : List Value).toArray below meth c s.heap [] 0 0 _ _
  suffices hgo : W p l e rm_X9_house s m ([.ref a_t] : List Value).toArray below meth c H locs 0 0 (MQ below (QcI G A (wd_X9_house cs a_t a_t_text a_t_opinions a_t_lines a_t_draftBook a_t_scribes a_t_turn a_t_bent a_t_need a_t_now a_t_isKept a_t_far a_t_marginOf a_t_marginSays v_t_trace R0.2.1 R0.2.2.1 R0.2.2.2.1 R0.2.2.2.2.1 R0.2.2.2.2.2.1 R0.2.2.2.2.2.2.1 R0.2.2.2.2.2.2.2.1 R0.2.2.2.2.2.2.2.2.1 v_t_went v_t_ender v_t_had R0.2.2.2.2.2.2.2.2.2.1 g_t_text R0.2.2.2.2.2.2.2.2.2.2.1 R0.2.2.2.2.2.2.2.2.2.2.2.1 R0.2.2.2.2.2.2.2.2.2.2.2.2.1 R0.2.2.2.2.2.2.2.2.2.2.2.2.2.1 R0.2.2.2.2.2.2.2.2.2.2.2.2.2.2.1 R0.2.2.2.2.2.2.2.2.2.2.2.2.2.2.2.1 R0.2.2.2.2.2.2.2.2.2.2.2.2.2.2.2.2.1 R0.2.2.2.2.2.2.2.2.2.2.2.2.2.2.2.2.2.1 R0.2.2.2.2.2.2.2.2.2.2.2.2.2.2.2.2.2.2) R0.1) ([.ref a_t] : List Value).toArray s 0 0 A) (F0 m 0 ls []) by rw [hHe, hLe] at hgo; exact hgo
  refine lv_aload_n hx hb dX9_house_0 rfl (lv_at hl 0 rfl) ?_
  refine lv_iconst (v := 0) hx hb dX9_house_1 (by decide) ?_
  refine va_put (D := G) (ci := 9) (v := .int (0 : Int32)) (ty := .int) (C := RX9) (T := TX9) (N := 26) hx hb hg inX9 tyX9 tyX9_ok nmX9 hown hKT hP hD hS 0 rfl rfl 11 (by decide) (hg _ gF_X9_65) (fun _ h9 => h9) rfl (by decide +kernel) rfl rfl (Nat.le_of_ble_eq_true rfl) dX9_house_2 (fun H locs hP hD hS => ?_)
  have hP : va_P G vwCl (wd_X9_house cs a_t a_t_text a_t_opinions a_t_lines a_t_draftBook a_t_scribes a_t_turn a_t_bent a_t_need a_t_now a_t_isKept a_t_far a_t_marginOf a_t_marginSays v_t_trace v_t_typed v_t_needTold (0 : Int32) v_t_start v_t_sort v_t_value v_t_fault v_t_target v_t_went v_t_ender v_t_had v_t_margins g_t_text g_t_opinions g_t_lines g_t_draftBook g_t_scribes g_t_turn g_t_bent g_t_need g_t_now g_t_isKept) H := hP
  have hD : va_D A (wd_X9_house cs a_t a_t_text a_t_opinions a_t_lines a_t_draftBook a_t_scribes a_t_turn a_t_bent a_t_need a_t_now a_t_isKept a_t_far a_t_marginOf a_t_marginSays v_t_trace v_t_typed v_t_needTold (0 : Int32) v_t_start v_t_sort v_t_value v_t_fault v_t_target v_t_went v_t_ender v_t_had v_t_margins g_t_text g_t_opinions g_t_lines g_t_draftBook g_t_scribes g_t_turn g_t_bent g_t_need g_t_now g_t_isKept) := hD
  refine lv_aload_n hx hb dX9_house_5 rfl (lv_at hl 0 rfl) ?_
  refine lv_bipush (v := -9) hx hb dX9_house_6 (by decide) ?_
  refine va_put (D := G) (ci := 9) (v := .int (-9 : Int32)) (ty := .int) (C := RX9) (T := TX9) (N := 26) hx hb hg inX9 tyX9 tyX9_ok nmX9 hown hKT hP hD hS 0 rfl rfl 15 (by decide) (hg _ gF_X9_81) (fun _ h9 => h9) rfl (by decide +kernel) rfl rfl (Nat.le_of_ble_eq_true rfl) dX9_house_8 (fun H locs hP hD hS => ?_)
  have hP : va_P G vwCl (wd_X9_house cs a_t a_t_text a_t_opinions a_t_lines a_t_draftBook a_t_scribes a_t_turn a_t_bent a_t_need a_t_now a_t_isKept a_t_far a_t_marginOf a_t_marginSays v_t_trace v_t_typed v_t_needTold (0 : Int32) v_t_start v_t_sort v_t_value (-9 : Int32) v_t_target v_t_went v_t_ender v_t_had v_t_margins g_t_text g_t_opinions g_t_lines g_t_draftBook g_t_scribes g_t_turn g_t_bent g_t_need g_t_now g_t_isKept) H := hP
  have hD : va_D A (wd_X9_house cs a_t a_t_text a_t_opinions a_t_lines a_t_draftBook a_t_scribes a_t_turn a_t_bent a_t_need a_t_now a_t_isKept a_t_far a_t_marginOf a_t_marginSays v_t_trace v_t_typed v_t_needTold (0 : Int32) v_t_start v_t_sort v_t_value (-9 : Int32) v_t_target v_t_went v_t_ender v_t_had v_t_margins g_t_text g_t_opinions g_t_lines g_t_draftBook g_t_scribes g_t_turn g_t_bent g_t_need g_t_now g_t_isKept) := hD
  refine lv_aload_n hx hb dX9_house_11 rfl (lv_at hl 0 rfl) ?_
  obtain ⟨⟨q1_0, q1_1, q1_2, q1_3, q1_4⟩, hq1, hB⟩ := bnd hB
  refine kw_v (WC := wd_X9_plain cs a_t a_t_text a_t_opinions a_t_lines a_t_draftBook a_t_scribes a_t_turn a_t_bent a_t_need a_t_now a_t_isKept a_t_far a_t_marginOf a_t_marginSays v_t_trace v_t_typed v_t_needTold (0 : Int32) v_t_start v_t_sort v_t_value (-9 : Int32) v_t_target v_t_went v_t_ender v_t_had v_t_margins g_t_opinions g_t_lines g_t_scribes g_t_need) (W1 := wd_X9_plain cs a_t a_t_text a_t_opinions a_t_lines a_t_draftBook a_t_scribes a_t_turn a_t_bent a_t_need a_t_now a_t_isKept a_t_far a_t_marginOf a_t_marginSays v_t_trace v_t_typed q1_0 (0 : Int32) v_t_start v_t_sort v_t_value (-9 : Int32) v_t_target v_t_went v_t_ender v_t_had v_t_margins q1_1 q1_2 q1_3 q1_4) (W2 := wd_X9_house cs a_t a_t_text a_t_opinions a_t_lines a_t_draftBook a_t_scribes a_t_turn a_t_bent a_t_need a_t_now a_t_isKept a_t_far a_t_marginOf a_t_marginSays v_t_trace v_t_typed q1_0 (0 : Int32) v_t_start v_t_sort v_t_value (-9 : Int32) v_t_target v_t_went v_t_ender v_t_had v_t_margins g_t_text q1_1 q1_2 g_t_draftBook q1_3 g_t_turn g_t_bent q1_4 g_t_now g_t_isKept) (rw_V (As := []) (rest := []) ⟨hx, hb, hml, hown, hg⟩ (k_X9_plain l G cs a_t a_t_text a_t_opinions a_t_lines a_t_draftBook a_t_scribes a_t_turn a_t_bent a_t_need a_t_now a_t_isKept a_t_far a_t_marginOf a_t_marginSays v_t_trace v_t_typed v_t_needTold (0 : Int32) v_t_start v_t_sort v_t_value (-9 : Int32) v_t_target v_t_went v_t_ender v_t_had v_t_margins g_t_opinions g_t_lines g_t_scribes g_t_need H.size (q1_0, q1_1, q1_2, q1_3, q1_4) hq1) gM_X9_51 mI_X9_plain (rmk rfl) hP hD hKT hN 0 rfl rfl [0, 2, 3, 5, 8] rfl rfl rfl hl.1 rfl (Nat.le_of_ble_eq_true rfl) dX9_house_12) hP hD hS hA [0, 2, 3, 5, 8] [1, 4, 6, 7, 9, 10] [6, 0, 7, 8, 1, 9, 2, 3, 10, 4, 5] ⟨rfl, rfl, rfl, rfl, rfl, rfl, rfl⟩ (fun H locs hP hD hS => ?_)
  refine lv_iconst (v := 0) hx hb dX9_house_15 (by decide) ?_
  refine lv_istore_n (lv' := [(1, .int (0 : Int32)), (0, .ref a_t)]) hx hb dX9_house_16 rfl hl (by decide) rfl (fun ls hl => ?_)
  refine lv_aload_n hx hb dX9_house_17 rfl (lv_at hl 1 rfl) ?_
  obtain ⟨⟨q2_0, q2_1, q2_2, q2_3⟩, hq2, hB⟩ := bnd hB
  refine kw_v (WC := wd_X9_step cs a_t a_t_text a_t_opinions a_t_lines a_t_draftBook a_t_scribes a_t_turn a_t_bent a_t_need a_t_now a_t_isKept a_t_far a_t_marginOf a_t_marginSays v_t_trace v_t_typed q1_0 (0 : Int32) v_t_start v_t_sort v_t_value (-9 : Int32) v_t_target v_t_went v_t_ender v_t_had v_t_margins g_t_text) (W1 := wd_X9_step cs a_t a_t_text a_t_opinions a_t_lines a_t_draftBook a_t_scribes a_t_turn a_t_bent a_t_need a_t_now a_t_isKept a_t_far a_t_marginOf a_t_marginSays v_t_trace v_t_typed q1_0 q2_0 q2_1 q2_2 q2_3 (-9 : Int32) v_t_target v_t_went v_t_ender v_t_had v_t_margins g_t_text) (W2 := wd_X9_house cs a_t a_t_text a_t_opinions a_t_lines a_t_draftBook a_t_scribes a_t_turn a_t_bent a_t_need a_t_now a_t_isKept a_t_far a_t_marginOf a_t_marginSays v_t_trace v_t_typed q1_0 q2_0 q2_1 q2_2 q2_3 (-9 : Int32) v_t_target v_t_went v_t_ender v_t_had v_t_margins g_t_text q1_1 q1_2 g_t_draftBook q1_3 g_t_turn g_t_bent q1_4 g_t_now g_t_isKept) (rw_V (As := []) (rest := []) ⟨hx, hb, hml, hown, hg⟩ (k_X9_step l G cs a_t a_t_text a_t_opinions a_t_lines a_t_draftBook a_t_scribes a_t_turn a_t_bent a_t_need a_t_now a_t_isKept a_t_far a_t_marginOf a_t_marginSays v_t_trace v_t_typed q1_0 (0 : Int32) v_t_start v_t_sort v_t_value (-9 : Int32) v_t_target v_t_went v_t_ender v_t_had v_t_margins g_t_text H.size (q2_0, q2_1, q2_2, q2_3) hq2) gM_X9_84 mI_X9_step (rmk rfl) hP hD hKT hN 0 rfl rfl [0, 1] rfl rfl rfl hl.1 rfl (Nat.le_of_ble_eq_true rfl) dX9_house_18) hP hD hS hA [0, 1] [2, 3, 4, 5, 6, 7, 8, 9, 10] [9, 10, 0, 1, 2, 3, 4, 5, 6, 7, 8] ⟨rfl, rfl, rfl, rfl, rfl, rfl, rfl⟩ (fun H locs hP hD hS => ?_)
  refine lp_ind (Wh := fun (z3 : Int32 × Int32 × Int32 × Int32 × Int32 × Int32 × Int32 × (Nat → Int32) × (Nat → Int32) × (Nat → Int32) × (Nat → Int32) × (Nat → Int32) × (Nat → Int32) × (Nat → Int32)) => ∀ (H : Heap) (locs : List Loc), va_P G vwCl (wd_X9_house cs a_t a_t_text a_t_opinions a_t_lines a_t_draftBook a_t_scribes a_t_turn a_t_bent a_t_need a_t_now a_t_isKept a_t_far a_t_marginOf a_t_marginSays v_t_trace v_t_typed z3.2.1 z3.2.2.1 z3.2.2.2.1 z3.2.2.2.2.1 z3.2.2.2.2.2.1 z3.2.2.2.2.2.2.1 v_t_target v_t_went v_t_ender v_t_had v_t_margins g_t_text z3.2.2.2.2.2.2.2.1 z3.2.2.2.2.2.2.2.2.1 z3.2.2.2.2.2.2.2.2.2.1 z3.2.2.2.2.2.2.2.2.2.2.1 z3.2.2.2.2.2.2.2.2.2.2.2.1 z3.2.2.2.2.2.2.2.2.2.2.2.2.1 z3.2.2.2.2.2.2.2.2.2.2.2.2.2 g_t_now g_t_isKept) H → va_D A (wd_X9_house cs a_t a_t_text a_t_opinions a_t_lines a_t_draftBook a_t_scribes a_t_turn a_t_bent a_t_need a_t_now a_t_isKept a_t_far a_t_marginOf a_t_marginSays v_t_trace v_t_typed z3.2.1 z3.2.2.1 z3.2.2.2.1 z3.2.2.2.2.1 z3.2.2.2.2.2.1 z3.2.2.2.2.2.2.1 v_t_target v_t_went v_t_ender v_t_had v_t_margins g_t_text z3.2.2.2.2.2.2.2.1 z3.2.2.2.2.2.2.2.2.1 z3.2.2.2.2.2.2.2.2.2.1 z3.2.2.2.2.2.2.2.2.2.2.1 z3.2.2.2.2.2.2.2.2.2.2.2.1 z3.2.2.2.2.2.2.2.2.2.2.2.2.1 z3.2.2.2.2.2.2.2.2.2.2.2.2.2 g_t_now g_t_isKept) → va_S A s.heap H locs → ∀ (ls : Array Slot), lv_has ls 3 [(0, .ref a_t), (1, .int z3.1)] → W p l e rm_X9_house s m ([.ref a_t] : List Value).toArray below meth c H locs 0 0 (MQ below (QcI G A (wd_X9_house cs a_t a_t_text a_t_opinions a_t_lines a_t_draftBook a_t_scribes a_t_turn a_t_bent a_t_need a_t_now a_t_isKept a_t_far a_t_marginOf a_t_marginSays v_t_trace R0.2.1 R0.2.2.1 R0.2.2.2.1 R0.2.2.2.2.1 R0.2.2.2.2.2.1 R0.2.2.2.2.2.2.1 R0.2.2.2.2.2.2.2.1 R0.2.2.2.2.2.2.2.2.1 v_t_went v_t_ender v_t_had R0.2.2.2.2.2.2.2.2.2.1 g_t_text R0.2.2.2.2.2.2.2.2.2.2.1 R0.2.2.2.2.2.2.2.2.2.2.2.1 R0.2.2.2.2.2.2.2.2.2.2.2.2.1 R0.2.2.2.2.2.2.2.2.2.2.2.2.2.1 R0.2.2.2.2.2.2.2.2.2.2.2.2.2.2.1 R0.2.2.2.2.2.2.2.2.2.2.2.2.2.2.2.1 R0.2.2.2.2.2.2.2.2.2.2.2.2.2.2.2.2.1 R0.2.2.2.2.2.2.2.2.2.2.2.2.2.2.2.2.2.1 R0.2.2.2.2.2.2.2.2.2.2.2.2.2.2.2.2.2.2) R0.1) ([.ref a_t] : List Value).toArray s 0 0 A) (F0 m 21 ls [])) ?_ FU _ _ hB hK H locs hP hD hS ls (lv_sub hl [1, 0] rfl)
  rintro ⟨z3_0, z3_1, z3_2, z3_3, z3_4, z3_5, z3_6, z3_7, z3_8, z3_9, z3_10, z3_11, z3_12, z3_13⟩ y hB hK H locs hP hD hS ls hl
  have hl : lv_has ls 3 [(0, .ref a_t), (1, .int z3_0)] := hl
  have hP : va_P G vwCl (wd_X9_house cs a_t a_t_text a_t_opinions a_t_lines a_t_draftBook a_t_scribes a_t_turn a_t_bent a_t_need a_t_now a_t_isKept a_t_far a_t_marginOf a_t_marginSays v_t_trace v_t_typed z3_1 z3_2 z3_3 z3_4 z3_5 z3_6 v_t_target v_t_went v_t_ender v_t_had v_t_margins g_t_text z3_7 z3_8 z3_9 z3_10 z3_11 z3_12 z3_13 g_t_now g_t_isKept) H := hP
  have hD : va_D A (wd_X9_house cs a_t a_t_text a_t_opinions a_t_lines a_t_draftBook a_t_scribes a_t_turn a_t_bent a_t_need a_t_now a_t_isKept a_t_far a_t_marginOf a_t_marginSays v_t_trace v_t_typed z3_1 z3_2 z3_3 z3_4 z3_5 z3_6 v_t_target v_t_went v_t_ender v_t_had v_t_margins g_t_text z3_7 z3_8 z3_9 z3_10 z3_11 z3_12 z3_13 g_t_now g_t_isKept) := hD
  refine lv_aload_n hx hb dX9_house_21 rfl (lv_at hl 0 rfl) ?_
  refine va_get (D := G) (ci := 9) (v := .int z3_6) (C := RX9) (T := TX9) (N := 26) hx hb hg inX9 hown hKT hP 0 rfl rfl 15 (by decide) (hg _ gF_X9_81) (fun _ h9 => h9) rfl dX9_house_22 ?_
  refine lv_bipush (v := -9) hx hb dX9_house_25 (by decide) ?_
  refine lv_icmp_ne (tgt := 92) hx hb dX9_house_27 (by decide) (fun c_4 => ?_) (fun c_4 => ?_)
  · have hB := ifN c_4 hB
    refine lv_aload_n hx hb dX9_house_92 rfl (lv_at hl 0 rfl) ?_
    refine va_get (D := G) (ci := 9) (v := .int z3_6) (C := RX9) (T := TX9) (N := 26) hx hb hg inX9 hown hKT hP 0 rfl rfl 15 (by decide) (hg _ gF_X9_81) (fun _ h9 => h9) rfl dX9_house_93 ?_
    refine lv_bipush (v := -9) hx hb dX9_house_96 (by decide) ?_
    refine lv_icmp_eq (tgt := 109) hx hb dX9_house_98 (by decide) (fun c_5 => ?_) (fun c_5 => ?_)
    · have hB := ifP c_5 hB
      refine lv_aload_n hx hb dX9_house_109 rfl (lv_at hl 0 rfl) ?_
      obtain ⟨⟨q6_0, q6_1, q6_2, q6_3, q6_4, q6_5, q6_6, q6_7, q6_8, q6_9⟩, hq6, hB⟩ := bnd hB
      refine kw_v (WC := wd_X9_takeDraft cs a_t a_t_text a_t_opinions a_t_lines a_t_draftBook a_t_scribes a_t_turn a_t_bent a_t_need a_t_now a_t_isKept a_t_far a_t_marginOf a_t_marginSays v_t_trace v_t_typed z3_1 z3_2 z3_3 z3_4 z3_5 z3_6 v_t_target v_t_went v_t_ender v_t_had v_t_margins z3_7 z3_8 z3_9 z3_10 z3_11 z3_12 z3_13 g_t_now g_t_isKept) (W1 := wd_X9_takeDraft cs a_t a_t_text a_t_opinions a_t_lines a_t_draftBook a_t_scribes a_t_turn a_t_bent a_t_need a_t_now a_t_isKept a_t_far a_t_marginOf a_t_marginSays v_t_trace v_t_typed z3_1 z3_2 z3_3 z3_4 z3_5 z3_6 q6_0 v_t_went v_t_ender v_t_had q6_1 q6_2 q6_3 z3_9 q6_4 q6_5 q6_6 q6_7 q6_8 q6_9) (W2 := wd_X9_house cs a_t a_t_text a_t_opinions a_t_lines a_t_draftBook a_t_scribes a_t_turn a_t_bent a_t_need a_t_now a_t_isKept a_t_far a_t_marginOf a_t_marginSays v_t_trace v_t_typed z3_1 z3_2 z3_3 z3_4 z3_5 z3_6 q6_0 v_t_went v_t_ender v_t_had q6_1 g_t_text q6_2 q6_3 z3_9 q6_4 q6_5 q6_6 q6_7 q6_8 q6_9) (rw_V (As := []) (rest := []) ⟨hx, hb, hml, hown, hg⟩ (k_X9_takeDraft l G cs a_t a_t_text a_t_opinions a_t_lines a_t_draftBook a_t_scribes a_t_turn a_t_bent a_t_need a_t_now a_t_isKept a_t_far a_t_marginOf a_t_marginSays v_t_trace v_t_typed z3_1 z3_2 z3_3 z3_4 z3_5 z3_6 v_t_target v_t_went v_t_ender v_t_had v_t_margins z3_7 z3_8 z3_9 z3_10 z3_11 z3_12 z3_13 g_t_now g_t_isKept H.size (q6_0, q6_1, q6_2, q6_3, q6_4, q6_5, q6_6, q6_7, q6_8, q6_9) hq6) gM_X9_54 mI_X9_takeDraft (rmk rfl) hP hD hKT hN 0 rfl rfl [0, 2, 3, 4, 5, 6, 7, 8, 9, 10] rfl rfl rfl hl.1 rfl (Nat.le_of_ble_eq_true rfl) dX9_house_110) hP hD hS hA [0, 2, 3, 4, 5, 6, 7, 8, 9, 10] [1] [1, 0, 2, 3, 4, 5, 6, 7, 8, 9, 10] ⟨rfl, rfl, rfl, rfl, rfl, rfl, rfl⟩ (fun H locs hP hD hS => ?_)
      refine lv_aload_n hx hb dX9_house_113 rfl (lv_at hl 0 rfl) ?_
      refine lv_iconst (v := 0) hx hb dX9_house_114 (by decide) ?_
      refine va_put (D := G) (ci := 9) (v := .int (0 : Int32)) (ty := .int) (C := RX9) (T := TX9) (N := 26) hx hb hg inX9 tyX9 tyX9_ok nmX9 hown hKT hP hD hS 0 rfl rfl 2 (by decide) (hg _ gF_X9_61) (fun _ h9 => h9) rfl (by decide +kernel) rfl rfl (Nat.le_of_ble_eq_true rfl) dX9_house_115 (fun H locs hP hD hS => ?_)
      have hP : va_P G vwCl (wd_X9_house cs a_t a_t_text a_t_opinions a_t_lines a_t_draftBook a_t_scribes a_t_turn a_t_bent a_t_need a_t_now a_t_isKept a_t_far a_t_marginOf a_t_marginSays v_t_trace (0 : Int32) z3_1 z3_2 z3_3 z3_4 z3_5 z3_6 q6_0 v_t_went v_t_ender v_t_had q6_1 g_t_text q6_2 q6_3 z3_9 q6_4 q6_5 q6_6 q6_7 q6_8 q6_9) H := hP
      have hD : va_D A (wd_X9_house cs a_t a_t_text a_t_opinions a_t_lines a_t_draftBook a_t_scribes a_t_turn a_t_bent a_t_need a_t_now a_t_isKept a_t_far a_t_marginOf a_t_marginSays v_t_trace (0 : Int32) z3_1 z3_2 z3_3 z3_4 z3_5 z3_6 q6_0 v_t_went v_t_ender v_t_had q6_1 g_t_text q6_2 q6_3 z3_9 q6_4 q6_5 q6_6 q6_7 q6_8 q6_9) := hD
      refine lv_iload_n hx hb dX9_house_118 rfl (lv_at hl 1 rfl) ?_
      have hK := leafK hB hK
      have hK := elimR hK
      have hK : (z3_0, (0 : Int32), z3_1, z3_2, z3_3, z3_4, z3_5, z3_6, q6_0, q6_1, q6_2, q6_3, z3_9, q6_4, q6_5, q6_6, q6_7, q6_8, q6_9) = R0 := hK
      subst hK
      exact W.iret (v := z3_0) hx hb hr (fun t ht hW => ⟨⟨_, (), rfl, rfl, by rw [ht]; exact hP, hD⟩, hS.F ht⟩) hS.2.2 dX9_house_119
    · have hB := ifN c_5 hB
      refine lv_bipush (v := -10) hx hb dX9_house_101 (by decide) ?_
      refine lv_aload_n hx hb dX9_house_103 rfl (lv_at hl 0 rfl) ?_
      refine va_get (D := G) (ci := 9) (v := .int z3_6) (C := RX9) (T := TX9) (N := 26) hx hb hg inX9 hown hKT hP 0 rfl rfl 15 (by decide) (hg _ gF_X9_81) (fun _ h9 => h9) rfl dX9_house_104 ?_
      refine lv_isub hx hb dX9_house_107 ?_
      have hK := leafK hB hK
      have hK := elimR hK
      have hK : ((-10 : Int32) - z3_6, v_t_typed, z3_1, z3_2, z3_3, z3_4, z3_5, z3_6, v_t_target, v_t_margins, z3_7, z3_8, z3_9, z3_10, z3_11, z3_12, z3_13, g_t_now, g_t_isKept) = R0 := hK
      subst hK
      exact W.iret (v := (-10 : Int32) - z3_6) hx hb hr (fun t ht hW => ⟨⟨_, (), rfl, rfl, by rw [ht]; exact hP, hD⟩, hS.F ht⟩) hS.2.2 dX9_house_108
  · have hB := ifP c_4 hB
    refine lv_aload_n hx hb dX9_house_30 rfl (lv_at hl 0 rfl) ?_
    refine va_get (D := G) (ci := 9) (v := .int z3_4) (C := RX9) (T := TX9) (N := 26) hx hb hg inX9 hown hKT hP 0 rfl rfl 13 (by decide) (hg _ gF_X9_78) (fun _ h9 => h9) rfl dX9_house_31 ?_
    refine lv_iconst (v := 3) hx hb dX9_house_34 (by decide) ?_
    refine lv_icmp_eq (tgt := 92) hx hb dX9_house_35 (by decide) (fun c_7 => ?_) (fun c_7 => ?_)
    · have hB := ifP c_7 hB
      refine lv_aload_n hx hb dX9_house_92 rfl (lv_at hl 0 rfl) ?_
      refine va_get (D := G) (ci := 9) (v := .int z3_6) (C := RX9) (T := TX9) (N := 26) hx hb hg inX9 hown hKT hP 0 rfl rfl 15 (by decide) (hg _ gF_X9_81) (fun _ h9 => h9) rfl dX9_house_93 ?_
      refine lv_bipush (v := -9) hx hb dX9_house_96 (by decide) ?_
      refine lv_icmp_eq (tgt := 109) hx hb dX9_house_98 (by decide) (fun c_8 => ?_) (fun c_8 => ?_)
      · have hB := ifP c_8 hB
        refine lv_aload_n hx hb dX9_house_109 rfl (lv_at hl 0 rfl) ?_
        obtain ⟨⟨q9_0, q9_1, q9_2, q9_3, q9_4, q9_5, q9_6, q9_7, q9_8, q9_9⟩, hq9, hB⟩ := bnd hB
        refine kw_v (WC := wd_X9_takeDraft cs a_t a_t_text a_t_opinions a_t_lines a_t_draftBook a_t_scribes a_t_turn a_t_bent a_t_need a_t_now a_t_isKept a_t_far a_t_marginOf a_t_marginSays v_t_trace v_t_typed z3_1 z3_2 z3_3 z3_4 z3_5 z3_6 v_t_target v_t_went v_t_ender v_t_had v_t_margins z3_7 z3_8 z3_9 z3_10 z3_11 z3_12 z3_13 g_t_now g_t_isKept) (W1 := wd_X9_takeDraft cs a_t a_t_text a_t_opinions a_t_lines a_t_draftBook a_t_scribes a_t_turn a_t_bent a_t_need a_t_now a_t_isKept a_t_far a_t_marginOf a_t_marginSays v_t_trace v_t_typed z3_1 z3_2 z3_3 z3_4 z3_5 z3_6 q9_0 v_t_went v_t_ender v_t_had q9_1 q9_2 q9_3 z3_9 q9_4 q9_5 q9_6 q9_7 q9_8 q9_9) (W2 := wd_X9_house cs a_t a_t_text a_t_opinions a_t_lines a_t_draftBook a_t_scribes a_t_turn a_t_bent a_t_need a_t_now a_t_isKept a_t_far a_t_marginOf a_t_marginSays v_t_trace v_t_typed z3_1 z3_2 z3_3 z3_4 z3_5 z3_6 q9_0 v_t_went v_t_ender v_t_had q9_1 g_t_text q9_2 q9_3 z3_9 q9_4 q9_5 q9_6 q9_7 q9_8 q9_9) (rw_V (As := []) (rest := []) ⟨hx, hb, hml, hown, hg⟩ (k_X9_takeDraft l G cs a_t a_t_text a_t_opinions a_t_lines a_t_draftBook a_t_scribes a_t_turn a_t_bent a_t_need a_t_now a_t_isKept a_t_far a_t_marginOf a_t_marginSays v_t_trace v_t_typed z3_1 z3_2 z3_3 z3_4 z3_5 z3_6 v_t_target v_t_went v_t_ender v_t_had v_t_margins z3_7 z3_8 z3_9 z3_10 z3_11 z3_12 z3_13 g_t_now g_t_isKept H.size (q9_0, q9_1, q9_2, q9_3, q9_4, q9_5, q9_6, q9_7, q9_8, q9_9) hq9) gM_X9_54 mI_X9_takeDraft (rmk rfl) hP hD hKT hN 0 rfl rfl [0, 2, 3, 4, 5, 6, 7, 8, 9, 10] rfl rfl rfl hl.1 rfl (Nat.le_of_ble_eq_true rfl) dX9_house_110) hP hD hS hA [0, 2, 3, 4, 5, 6, 7, 8, 9, 10] [1] [1, 0, 2, 3, 4, 5, 6, 7, 8, 9, 10] ⟨rfl, rfl, rfl, rfl, rfl, rfl, rfl⟩ (fun H locs hP hD hS => ?_)
        refine lv_aload_n hx hb dX9_house_113 rfl (lv_at hl 0 rfl) ?_
        refine lv_iconst (v := 0) hx hb dX9_house_114 (by decide) ?_
        refine va_put (D := G) (ci := 9) (v := .int (0 : Int32)) (ty := .int) (C := RX9) (T := TX9) (N := 26) hx hb hg inX9 tyX9 tyX9_ok nmX9 hown hKT hP hD hS 0 rfl rfl 2 (by decide) (hg _ gF_X9_61) (fun _ h9 => h9) rfl (by decide +kernel) rfl rfl (Nat.le_of_ble_eq_true rfl) dX9_house_115 (fun H locs hP hD hS => ?_)
        have hP : va_P G vwCl (wd_X9_house cs a_t a_t_text a_t_opinions a_t_lines a_t_draftBook a_t_scribes a_t_turn a_t_bent a_t_need a_t_now a_t_isKept a_t_far a_t_marginOf a_t_marginSays v_t_trace (0 : Int32) z3_1 z3_2 z3_3 z3_4 z3_5 z3_6 q9_0 v_t_went v_t_ender v_t_had q9_1 g_t_text q9_2 q9_3 z3_9 q9_4 q9_5 q9_6 q9_7 q9_8 q9_9) H := hP
        have hD : va_D A (wd_X9_house cs a_t a_t_text a_t_opinions a_t_lines a_t_draftBook a_t_scribes a_t_turn a_t_bent a_t_need a_t_now a_t_isKept a_t_far a_t_marginOf a_t_marginSays v_t_trace (0 : Int32) z3_1 z3_2 z3_3 z3_4 z3_5 z3_6 q9_0 v_t_went v_t_ender v_t_had q9_1 g_t_text q9_2 q9_3 z3_9 q9_4 q9_5 q9_6 q9_7 q9_8 q9_9) := hD
        refine lv_iload_n hx hb dX9_house_118 rfl (lv_at hl 1 rfl) ?_
        have hK := leafK hB hK
        have hK := elimR hK
        have hK : (z3_0, (0 : Int32), z3_1, z3_2, z3_3, z3_4, z3_5, z3_6, q9_0, q9_1, q9_2, q9_3, z3_9, q9_4, q9_5, q9_6, q9_7, q9_8, q9_9) = R0 := hK
        subst hK
        exact W.iret (v := z3_0) hx hb hr (fun t ht hW => ⟨⟨_, (), rfl, rfl, by rw [ht]; exact hP, hD⟩, hS.F ht⟩) hS.2.2 dX9_house_119
      · have hB := ifN c_8 hB
        refine lv_bipush (v := -10) hx hb dX9_house_101 (by decide) ?_
        refine lv_aload_n hx hb dX9_house_103 rfl (lv_at hl 0 rfl) ?_
        refine va_get (D := G) (ci := 9) (v := .int z3_6) (C := RX9) (T := TX9) (N := 26) hx hb hg inX9 hown hKT hP 0 rfl rfl 15 (by decide) (hg _ gF_X9_81) (fun _ h9 => h9) rfl dX9_house_104 ?_
        refine lv_isub hx hb dX9_house_107 ?_
        have hK := leafK hB hK
        have hK := elimR hK
        have hK : ((-10 : Int32) - z3_6, v_t_typed, z3_1, z3_2, z3_3, z3_4, z3_5, z3_6, v_t_target, v_t_margins, z3_7, z3_8, z3_9, z3_10, z3_11, z3_12, z3_13, g_t_now, g_t_isKept) = R0 := hK
        subst hK
        exact W.iret (v := (-10 : Int32) - z3_6) hx hb hr (fun t ht hW => ⟨⟨_, (), rfl, rfl, by rw [ht]; exact hP, hD⟩, hS.F ht⟩) hS.2.2 dX9_house_108
    · have hB := ifN c_7 hB
      refine lv_aload_n hx hb dX9_house_38 rfl (lv_at hl 0 rfl) ?_
      refine va_get (D := G) (ci := 9) (v := .int z3_4) (C := RX9) (T := TX9) (N := 26) hx hb hg inX9 hown hKT hP 0 rfl rfl 13 (by decide) (hg _ gF_X9_78) (fun _ h9 => h9) rfl dX9_house_39 ?_
      refine lv_istore_n (lv' := [(2, .int z3_4), (0, .ref a_t), (1, .int z3_0)]) hx hb dX9_house_42 rfl hl (by decide) rfl (fun ls hl => ?_)
      refine lv_aload_n hx hb dX9_house_43 rfl (lv_at hl 1 rfl) ?_
      refine lv_aload_n hx hb dX9_house_44 rfl (lv_at hl 1 rfl) ?_
      refine lv_iload_n hx hb dX9_house_45 rfl (lv_at hl 0 rfl) ?_
      refine lv_iload_n hx hb dX9_house_46 rfl (lv_at hl 2 rfl) ?_
      obtain ⟨q10, hq10, hB⟩ := bnd hB
      refine kr_V (WC := wd_X9_mayBe cs a_t a_t_text a_t_opinions a_t_lines a_t_draftBook a_t_scribes a_t_turn a_t_bent a_t_need a_t_now a_t_isKept a_t_far a_t_marginOf a_t_marginSays v_t_trace v_t_typed z3_1 z3_2 z3_3 z3_4 z3_5 z3_6 v_t_target v_t_went v_t_ender v_t_had v_t_margins z3_8 z3_10) (As := [.int z3_4, .int z3_0]) (rest := [.ref a_t]) (r0 := q10) ⟨hx, hb, hml, hown, hg⟩ (k_X9_mayBe l G cs a_t a_t_text a_t_opinions a_t_lines a_t_draftBook a_t_scribes a_t_turn a_t_bent a_t_need a_t_now a_t_isKept a_t_far a_t_marginOf a_t_marginSays v_t_trace v_t_typed z3_1 z3_2 z3_3 z3_4 z3_5 z3_6 v_t_target v_t_went v_t_ender v_t_had v_t_margins z3_8 z3_10 z3_4 z3_0 q10 hq10) gM_X9_105 mI_X9_mayBe (rmk rfl) hP hKT hN 0 rfl rfl [0, 3, 5] rfl rfl hl.1 rfl (Nat.le_of_ble_eq_true rfl) dX9_house_47 ?_
      obtain ⟨⟨q11_0, q11_1, q11_2, q11_3, q11_4, q11_5⟩, hq11, hB⟩ := bnd hB
      refine kw_i (WC := wd_X9_due cs a_t a_t_text a_t_opinions a_t_lines a_t_draftBook a_t_scribes a_t_turn a_t_bent a_t_need a_t_now a_t_isKept a_t_far a_t_marginOf a_t_marginSays v_t_trace v_t_typed z3_1 z3_2 z3_3 z3_4 z3_5 z3_6 v_t_target v_t_went v_t_ender v_t_had v_t_margins g_t_text) (W1 := wd_X9_due cs a_t a_t_text a_t_opinions a_t_lines a_t_draftBook a_t_scribes a_t_turn a_t_bent a_t_need a_t_now a_t_isKept a_t_far a_t_marginOf a_t_marginSays v_t_trace v_t_typed z3_1 q11_1 q11_2 q11_3 q11_4 q11_5 v_t_target v_t_went v_t_ender v_t_had v_t_margins g_t_text) (W2 := wd_X9_house cs a_t a_t_text a_t_opinions a_t_lines a_t_draftBook a_t_scribes a_t_turn a_t_bent a_t_need a_t_now a_t_isKept a_t_far a_t_marginOf a_t_marginSays v_t_trace v_t_typed z3_1 q11_1 q11_2 q11_3 q11_4 q11_5 v_t_target v_t_went v_t_ender v_t_had v_t_margins g_t_text z3_7 z3_8 z3_9 z3_10 z3_11 z3_12 z3_13 g_t_now g_t_isKept) (r0 := q11_0) (rw_V (As := [.int q10]) (rest := []) ⟨hx, hb, hml, hown, hg⟩ (k_X9_due l G cs a_t a_t_text a_t_opinions a_t_lines a_t_draftBook a_t_scribes a_t_turn a_t_bent a_t_need a_t_now a_t_isKept a_t_far a_t_marginOf a_t_marginSays v_t_trace v_t_typed z3_1 z3_2 z3_3 z3_4 z3_5 z3_6 v_t_target v_t_went v_t_ender v_t_had v_t_margins g_t_text q10 H.size (q11_0, q11_1, q11_2, q11_3, q11_4, q11_5) hq11) gM_X9_87 mI_X9_due (rmk rfl) hP hD hKT hN 0 rfl rfl [0, 1] rfl rfl rfl hl.1 rfl (Nat.le_of_ble_eq_true rfl) dX9_house_50) hP hD hS hA [0, 1] [2, 3, 4, 5, 6, 7, 8, 9, 10] [9, 10, 0, 1, 2, 3, 4, 5, 6, 7, 8] ⟨rfl, rfl, rfl, rfl, rfl, rfl, rfl⟩ (fun H locs hP hD hS => ?_)
      refine lv_pop hx hb dX9_house_53 rfl ?_
      refine lv_aload_n hx hb dX9_house_54 rfl (lv_at hl 1 rfl) ?_
      refine va_get (D := G) (ci := 9) (v := .int q11_5) (C := RX9) (T := TX9) (N := 26) hx hb hg inX9 hown hKT hP 0 rfl rfl 15 (by decide) (hg _ gF_X9_81) (fun _ h9 => h9) rfl dX9_house_55 ?_
      refine lv_bipush (v := -9) hx hb dX9_house_58 (by decide) ?_
      refine lv_icmp_ne (tgt := 89) hx hb dX9_house_60 (by decide) (fun c_12 => ?_) (fun c_12 => ?_)
      · have hB := ifN c_12 hB
        refine lv_goto (tgt := 21) hx hb dX9_house_89 (by decide) ?_
        have hK := leafK hB hK
        have hK := elimL hK
        exact hK H locs hP hD hS ls (lv_sub hl [1, 2] rfl)
      · have hB := ifP c_12 hB
        refine lv_aload_n hx hb dX9_house_63 rfl (lv_at hl 1 rfl) ?_
        refine lv_iload_n hx hb dX9_house_64 rfl (lv_at hl 0 rfl) ?_
        obtain ⟨⟨q13_0, q13_1, q13_2, q13_3, q13_4, q13_5, q13_6, q13_7, q13_8, q13_9, q13_10, q13_11, q13_12⟩, hq13, hB⟩ := bnd hB
        refine kw_v (WC := wd_X9_readRow cs a_t a_t_text a_t_opinions a_t_lines a_t_draftBook a_t_scribes a_t_turn a_t_bent a_t_need a_t_now a_t_isKept a_t_far a_t_marginOf a_t_marginSays v_t_trace v_t_typed z3_1 q11_1 q11_2 q11_3 q11_4 q11_5 v_t_target v_t_went v_t_ender v_t_had v_t_margins g_t_text z3_7 z3_8 z3_9 z3_10 z3_11 z3_12 z3_13) (W1 := wd_X9_readRow cs a_t a_t_text a_t_opinions a_t_lines a_t_draftBook a_t_scribes a_t_turn a_t_bent a_t_need a_t_now a_t_isKept a_t_far a_t_marginOf a_t_marginSays v_t_trace v_t_typed q13_0 q13_1 q13_2 q13_3 q13_4 q13_5 v_t_target v_t_went v_t_ender v_t_had v_t_margins g_t_text q13_6 q13_7 q13_8 q13_9 q13_10 q13_11 q13_12) (W2 := wd_X9_house cs a_t a_t_text a_t_opinions a_t_lines a_t_draftBook a_t_scribes a_t_turn a_t_bent a_t_need a_t_now a_t_isKept a_t_far a_t_marginOf a_t_marginSays v_t_trace v_t_typed q13_0 q13_1 q13_2 q13_3 q13_4 q13_5 v_t_target v_t_went v_t_ender v_t_had v_t_margins g_t_text q13_6 q13_7 q13_8 q13_9 q13_10 q13_11 q13_12 g_t_now g_t_isKept) (rw_V (As := [.int z3_4]) (rest := []) ⟨hx, hb, hml, hown, hg⟩ (k_X9_readRow l G cs a_t a_t_text a_t_opinions a_t_lines a_t_draftBook a_t_scribes a_t_turn a_t_bent a_t_need a_t_now a_t_isKept a_t_far a_t_marginOf a_t_marginSays v_t_trace v_t_typed z3_1 q11_1 q11_2 q11_3 q11_4 q11_5 v_t_target v_t_went v_t_ender v_t_had v_t_margins g_t_text z3_7 z3_8 z3_9 z3_10 z3_11 z3_12 z3_13 z3_4 H.size (q13_0, q13_1, q13_2, q13_3, q13_4, q13_5, q13_6, q13_7, q13_8, q13_9, q13_10, q13_11, q13_12) hq13) gM_X9_109 mI_X9_readRow (rmk rfl) hP hD hKT hN 0 rfl rfl [0, 1, 2, 3, 4, 5, 6, 7, 8] rfl rfl rfl hl.1 rfl (Nat.le_of_ble_eq_true rfl) dX9_house_65) hP hD hS hA [0, 1, 2, 3, 4, 5, 6, 7, 8] [9, 10] [2, 3, 4, 5, 6, 7, 8, 9, 10, 0, 1] ⟨rfl, rfl, rfl, rfl, rfl, rfl, rfl⟩ (fun H locs hP hD hS => ?_)
        refine lv_aload_n hx hb dX9_house_68 rfl (lv_at hl 1 rfl) ?_
        refine lv_aload_n hx hb dX9_house_69 rfl (lv_at hl 1 rfl) ?_
        refine va_get (D := G) (ci := 9) (v := .int q13_3) (C := RX9) (T := TX9) (N := 26) hx hb hg inX9 hown hKT hP 0 rfl rfl 13 (by decide) (hg _ gF_X9_78) (fun _ h9 => h9) rfl dX9_house_70 ?_
        refine lv_iconst (v := 2) hx hb dX9_house_73 (by decide) ?_
        refine lv_icmp_ne (tgt := 81) hx hb dX9_house_74 (by decide) (fun c_14 => ?_) (fun c_14 => ?_)
        · have hB := ifN c_14 hB
          refine lv_iconst (v := 0) hx hb dX9_house_81 (by decide) ?_
          obtain ⟨⟨q15_0, q15_1, q15_2, q15_3, q15_4, q15_5⟩, hq15, hB⟩ := bnd hB
          refine kw_i (WC := wd_X9_due cs a_t a_t_text a_t_opinions a_t_lines a_t_draftBook a_t_scribes a_t_turn a_t_bent a_t_need a_t_now a_t_isKept a_t_far a_t_marginOf a_t_marginSays v_t_trace v_t_typed q13_0 q13_1 q13_2 q13_3 q13_4 q13_5 v_t_target v_t_went v_t_ender v_t_had v_t_margins g_t_text) (W1 := wd_X9_due cs a_t a_t_text a_t_opinions a_t_lines a_t_draftBook a_t_scribes a_t_turn a_t_bent a_t_need a_t_now a_t_isKept a_t_far a_t_marginOf a_t_marginSays v_t_trace v_t_typed q13_0 q15_1 q15_2 q15_3 q15_4 q15_5 v_t_target v_t_went v_t_ender v_t_had v_t_margins g_t_text) (W2 := wd_X9_house cs a_t a_t_text a_t_opinions a_t_lines a_t_draftBook a_t_scribes a_t_turn a_t_bent a_t_need a_t_now a_t_isKept a_t_far a_t_marginOf a_t_marginSays v_t_trace v_t_typed q13_0 q15_1 q15_2 q15_3 q15_4 q15_5 v_t_target v_t_went v_t_ender v_t_had v_t_margins g_t_text q13_6 q13_7 q13_8 q13_9 q13_10 q13_11 q13_12 g_t_now g_t_isKept) (r0 := q15_0) (rw_V (As := [.int (0 : Int32)]) (rest := []) ⟨hx, hb, hml, hown, hg⟩ (k_X9_due l G cs a_t a_t_text a_t_opinions a_t_lines a_t_draftBook a_t_scribes a_t_turn a_t_bent a_t_need a_t_now a_t_isKept a_t_far a_t_marginOf a_t_marginSays v_t_trace v_t_typed q13_0 q13_1 q13_2 q13_3 q13_4 q13_5 v_t_target v_t_went v_t_ender v_t_had v_t_margins g_t_text (0 : Int32) H.size (q15_0, q15_1, q15_2, q15_3, q15_4, q15_5) hq15) gM_X9_87 mI_X9_due (rmk rfl) hP hD hKT hN 0 rfl rfl [0, 1] rfl rfl rfl hl.1 rfl (Nat.le_of_ble_eq_true rfl) dX9_house_82) hP hD hS hA [0, 1] [2, 3, 4, 5, 6, 7, 8, 9, 10] [9, 10, 0, 1, 2, 3, 4, 5, 6, 7, 8] ⟨rfl, rfl, rfl, rfl, rfl, rfl, rfl⟩ (fun H locs hP hD hS => ?_)
          refine lv_pop hx hb dX9_house_85 rfl ?_
          refine lv_iinc (v := z3_0 + (1 : Int32)) (lv' := [(1, .int (z3_0 + (1 : Int32))), (2, .int z3_4), (0, .ref a_t)]) hx hb dX9_house_86 hl (k := 2) rfl (inc_ok (by decide)) (by decide) rfl (fun ls hl => ?_)
          refine lv_goto (tgt := 21) hx hb dX9_house_89 (by decide) ?_
          have hK := leafK hB hK
          have hK := elimL hK
          exact hK H locs hP hD hS ls (lv_sub hl [2, 0] rfl)
        · have hB := ifP c_14 hB
          refine lv_iconst (v := 1) hx hb dX9_house_77 (by decide) ?_
          refine lv_goto (tgt := 82) hx hb dX9_house_78 (by decide) ?_
          obtain ⟨⟨q16_0, q16_1, q16_2, q16_3, q16_4, q16_5⟩, hq16, hB⟩ := bnd hB
          refine kw_i (WC := wd_X9_due cs a_t a_t_text a_t_opinions a_t_lines a_t_draftBook a_t_scribes a_t_turn a_t_bent a_t_need a_t_now a_t_isKept a_t_far a_t_marginOf a_t_marginSays v_t_trace v_t_typed q13_0 q13_1 q13_2 q13_3 q13_4 q13_5 v_t_target v_t_went v_t_ender v_t_had v_t_margins g_t_text) (W1 := wd_X9_due cs a_t a_t_text a_t_opinions a_t_lines a_t_draftBook a_t_scribes a_t_turn a_t_bent a_t_need a_t_now a_t_isKept a_t_far a_t_marginOf a_t_marginSays v_t_trace v_t_typed q13_0 q16_1 q16_2 q16_3 q16_4 q16_5 v_t_target v_t_went v_t_ender v_t_had v_t_margins g_t_text) (W2 := wd_X9_house cs a_t a_t_text a_t_opinions a_t_lines a_t_draftBook a_t_scribes a_t_turn a_t_bent a_t_need a_t_now a_t_isKept a_t_far a_t_marginOf a_t_marginSays v_t_trace v_t_typed q13_0 q16_1 q16_2 q16_3 q16_4 q16_5 v_t_target v_t_went v_t_ender v_t_had v_t_margins g_t_text q13_6 q13_7 q13_8 q13_9 q13_10 q13_11 q13_12 g_t_now g_t_isKept) (r0 := q16_0) (rw_V (As := [.int (1 : Int32)]) (rest := []) ⟨hx, hb, hml, hown, hg⟩ (k_X9_due l G cs a_t a_t_text a_t_opinions a_t_lines a_t_draftBook a_t_scribes a_t_turn a_t_bent a_t_need a_t_now a_t_isKept a_t_far a_t_marginOf a_t_marginSays v_t_trace v_t_typed q13_0 q13_1 q13_2 q13_3 q13_4 q13_5 v_t_target v_t_went v_t_ender v_t_had v_t_margins g_t_text (1 : Int32) H.size (q16_0, q16_1, q16_2, q16_3, q16_4, q16_5) hq16) gM_X9_87 mI_X9_due (rmk rfl) hP hD hKT hN 0 rfl rfl [0, 1] rfl rfl rfl hl.1 rfl (Nat.le_of_ble_eq_true rfl) dX9_house_82) hP hD hS hA [0, 1] [2, 3, 4, 5, 6, 7, 8, 9, 10] [9, 10, 0, 1, 2, 3, 4, 5, 6, 7, 8] ⟨rfl, rfl, rfl, rfl, rfl, rfl, rfl⟩ (fun H locs hP hD hS => ?_)
          refine lv_pop hx hb dX9_house_85 rfl ?_
          refine lv_iinc (v := z3_0 + (1 : Int32)) (lv' := [(1, .int (z3_0 + (1 : Int32))), (2, .int z3_4), (0, .ref a_t)]) hx hb dX9_house_86 hl (k := 2) rfl (inc_ok (by decide)) (by decide) rfl (fun ls hl => ?_)
          refine lv_goto (tgt := 21) hx hb dX9_house_89 (by decide) ?_
          have hK := leafK hB hK
          have hK := elimL hK
          exact hK H locs hP hD hS ls (lv_sub hl [2, 0] rfl)
def wd_X9_isScribe (cs : Nat → ClassId) (a_t a_t_text a_t_opinions a_t_lines a_t_draftBook a_t_scribes a_t_turn a_t_bent a_t_need a_t_now a_t_isKept a_t_far a_t_marginOf a_t_marginSays : Nat) (v_t_trace : Int64) (v_t_typed : Int32) (v_t_needTold : Int32) (v_t_at : Int32) (v_t_start : Int32) (v_t_sort : Int32) (v_t_value : Int32) (v_t_fault : Int32) (v_t_target : Int32) (v_t_went : Int32) (v_t_ender : Int32) (v_t_had : Int32) (v_t_margins : Int32) (g_t_scribes : Nat → Int32) : va_W := [(a_t, .inr (9, [.long v_t_trace, .ref a_t_text, .int v_t_typed, .ref a_t_opinions, .ref a_t_lines, .ref a_t_draftBook, .ref a_t_scribes, .ref a_t_turn, .ref a_t_bent, .ref a_t_need, .int v_t_needTold, .int v_t_at, .int v_t_start, .int v_t_sort, .int v_t_value, .int v_t_fault, .ref a_t_now, .ref a_t_isKept, .int v_t_target, .int v_t_went, .int v_t_ender, .int v_t_had, .ref a_t_far, .ref a_t_marginOf, .ref a_t_marginSays, .int v_t_margins])), (a_t_scribes, .inl (cs 0, 2, .inl g_t_scribes))]
def rm_X9_isScribe : Room := { frames := 1, cells := 0, slots := 0, locals := 22 }
theorem mI_X9_isScribe : MI yX9_isScribe RX9 cX9_isScribe 2 (some .boolean) 1 := ⟨gI_X9_isScribe, gE_X9_isScribe, gN_X9, gC_X9_isScribe, by decide +kernel⟩
set_option maxHeartbeats 4000000 in
set_option maxRecDepth 100000 in
theorem k_X9_isScribe (l : Launch) (G : va_G) (cs : Nat → ClassId) (a_t a_t_text a_t_opinions a_t_lines a_t_draftBook a_t_scribes a_t_turn a_t_bent a_t_need a_t_now a_t_isKept a_t_far a_t_marginOf a_t_marginSays : Nat) (v_t_trace : Int64) (v_t_typed : Int32) (v_t_needTold : Int32) (v_t_at : Int32) (v_t_start : Int32) (v_t_sort : Int32) (v_t_value : Int32) (v_t_fault : Int32) (v_t_target : Int32) (v_t_went : Int32) (v_t_ender : Int32) (v_t_had : Int32) (v_t_margins : Int32) (g_t_scribes : Nat → Int32) (p1 : Int32) (R0 : Int32) (hB : f_X9_isScribe g_t_scribes p1 = some R0) : Met l yX9_isScribe (.code yX9_isScribe cX9_isScribe 2 (some .boolean) :: GW) rm_X9_isScribe (PcR G cs [.ref a_t, .int p1] (wd_X9_isScribe cs a_t a_t_text a_t_opinions a_t_lines a_t_draftBook a_t_scribes a_t_turn a_t_bent a_t_need a_t_now a_t_isKept a_t_far a_t_marginOf a_t_marginSays v_t_trace v_t_typed v_t_needTold v_t_at v_t_start v_t_sort v_t_value v_t_fault v_t_target v_t_went v_t_ender v_t_had v_t_margins g_t_scribes)) (vp_Si (fun r => r = R0)) 0 0 (fun _ => False) := by
  refine Met.ofW (cc := cX9_isScribe) (maxL := 2) (ret := (some .boolean)) (by decide) rfl ?_
  intro p e s m args below meth c s₁ B hml hv
  obtain ⟨rfl, hP, hK, hN⟩ := hv
  have hx := B.exec
  have hb := B.bytes
  have hr := B.returns
  have hts := atoms_spec (ws := .code yX9_isScribe cX9_isScribe 2 (some .boolean) :: GW) B.pre
  have hg : ∀ w ∈ GW, w.before _ s = true := fun w h => hts w (List.mem_cons_of_mem _ h)
  have hown : s.vm.findClass RX9 = some m.cls := findClass_of_methodNamed B.named
  have hlocks := B.notSynchronized
  have hl := lv_entry ([.ref a_t, .int p1]) (n := 2) (Nat.le_of_ble_eq_true rfl)
  rw [lg_entry_eq]
  generalize (lg_sl ([.ref a_t, .int p1]) ++ List.replicate (2 - (lg_sl ([.ref a_t, .int p1])).length) Slot.unset).toArray = ls at hl ⊢
  have hl : lv_has ls 2 [(0, .ref a_t), (1, .int p1)] := hl
  obtain ⟨y, hB, hK0⟩ : ∃ y, f_X9_isScribe g_t_scribes p1 = some y ∧ KEnd R0 y := ⟨R0, hB, rfl⟩
  have hKT := hK
  have hK := hK0
  show W p l e rm_X9_isScribe s m ([.ref a_t, .int p1] : List Value).toArray below meth c s.heap [] 0 0 (MQ below (vp_Si (fun r => r = R0)) ([.ref a_t, .int p1] : List Value).toArray s 0 0 (fun _ => False)) (F0 m 0 ls [])
  refine lv_iload_n hx hb dX9_isScribe_0 rfl (lv_at hl 1 rfl) ?_
  refine lv_iconst (v := 0) hx hb dX9_isScribe_1 (by decide) ?_
  refine lv_aload_n hx hb dX9_isScribe_2 rfl (lv_at hl 0 rfl) ?_
  refine va_get (D := G) (ci := 9) (v := .ref a_t_scribes) (C := RX9) (T := TX9) (N := 26) hx hb hg inX9 hown hKT hP 0 rfl rfl 6 (by decide) (hg _ gF_X9_23) (fun _ h9 => h9) rfl dX9_isScribe_3 ?_
  refine lv_iconst (v := 0) hx hb dX9_isScribe_6 (by decide) ?_
  refine va_iald hx hb hKT hP 1 0 rfl rfl (vinC (by decide)) dX9_isScribe_7 ?_
  refine lv_iconst (v := 1) hx hb dX9_isScribe_8 (by decide) ?_
  refine lv_isub hx hb dX9_isScribe_9 ?_
  obtain ⟨q1, hq1, hB⟩ := bnd hB
  refine kr_S (WC := wd_X9_in cs ) (As := [.int p1, .int (0 : Int32), .int ((g_t_scribes (0 : Int32).toNatClampNeg) - (1 : Int32))]) (rest := []) (r0 := q1) ⟨hx, hb, hml, hown, hg⟩ (k_X9_in l G cs p1 (0 : Int32) ((g_t_scribes (0 : Int32).toNatClampNeg) - (1 : Int32)) q1 hq1) gM_X9_57 mS_X9_in (rmk rfl) hP hKT hN [] rfl rfl hl.1 rfl (Nat.le_of_ble_eq_true rfl) dX9_isScribe_10 ?_
  obtain ⟨h_2, hB⟩ := ifG hB
  have hK := leafK hB hK
  have hK : q1 = R0 := hK
  subst hK
  exact W.zret (v := q1) (ty := .boolean) hx hb hr (nar01 h_2) (fun t ht hW => ⟨_, rfl, rfl, ht⟩) (fun _ h => by cases h) dX9_isScribe_13
def wd_X9_isLine (cs : Nat → ClassId) (a_t a_t_text a_t_opinions a_t_lines a_t_draftBook a_t_scribes a_t_turn a_t_bent a_t_need a_t_now a_t_isKept a_t_far a_t_marginOf a_t_marginSays : Nat) (v_t_trace : Int64) (v_t_typed : Int32) (v_t_needTold : Int32) (v_t_at : Int32) (v_t_start : Int32) (v_t_sort : Int32) (v_t_value : Int32) (v_t_fault : Int32) (v_t_target : Int32) (v_t_went : Int32) (v_t_ender : Int32) (v_t_had : Int32) (v_t_margins : Int32) (g_t_lines : Nat → Int32) : va_W := [(a_t, .inr (9, [.long v_t_trace, .ref a_t_text, .int v_t_typed, .ref a_t_opinions, .ref a_t_lines, .ref a_t_draftBook, .ref a_t_scribes, .ref a_t_turn, .ref a_t_bent, .ref a_t_need, .int v_t_needTold, .int v_t_at, .int v_t_start, .int v_t_sort, .int v_t_value, .int v_t_fault, .ref a_t_now, .ref a_t_isKept, .int v_t_target, .int v_t_went, .int v_t_ender, .int v_t_had, .ref a_t_far, .ref a_t_marginOf, .ref a_t_marginSays, .int v_t_margins])), (a_t_lines, .inl (cs 0, 2, .inl g_t_lines))]
def rm_X9_isLine : Room := { frames := 1, cells := 0, slots := 0, locals := 22 }
theorem mI_X9_isLine : MI yX9_isLine RX9 cX9_isLine 2 (some .boolean) 1 := ⟨gI_X9_isLine, gE_X9_isLine, gN_X9, gC_X9_isLine, by decide +kernel⟩
set_option maxHeartbeats 4000000 in
set_option maxRecDepth 100000 in
theorem k_X9_isLine (l : Launch) (G : va_G) (cs : Nat → ClassId) (a_t a_t_text a_t_opinions a_t_lines a_t_draftBook a_t_scribes a_t_turn a_t_bent a_t_need a_t_now a_t_isKept a_t_far a_t_marginOf a_t_marginSays : Nat) (v_t_trace : Int64) (v_t_typed : Int32) (v_t_needTold : Int32) (v_t_at : Int32) (v_t_start : Int32) (v_t_sort : Int32) (v_t_value : Int32) (v_t_fault : Int32) (v_t_target : Int32) (v_t_went : Int32) (v_t_ender : Int32) (v_t_had : Int32) (v_t_margins : Int32) (g_t_lines : Nat → Int32) (p1 : Int32) (R0 : Int32) (hB : f_X9_isLine g_t_lines p1 = some R0) : Met l yX9_isLine (.code yX9_isLine cX9_isLine 2 (some .boolean) :: GW) rm_X9_isLine (PcR G cs [.ref a_t, .int p1] (wd_X9_isLine cs a_t a_t_text a_t_opinions a_t_lines a_t_draftBook a_t_scribes a_t_turn a_t_bent a_t_need a_t_now a_t_isKept a_t_far a_t_marginOf a_t_marginSays v_t_trace v_t_typed v_t_needTold v_t_at v_t_start v_t_sort v_t_value v_t_fault v_t_target v_t_went v_t_ender v_t_had v_t_margins g_t_lines)) (vp_Si (fun r => r = R0)) 0 0 (fun _ => False) := by
  refine Met.ofW (cc := cX9_isLine) (maxL := 2) (ret := (some .boolean)) (by decide) rfl ?_
  intro p e s m args below meth c s₁ B hml hv
  obtain ⟨rfl, hP, hK, hN⟩ := hv
  have hx := B.exec
  have hb := B.bytes
  have hr := B.returns
  have hts := atoms_spec (ws := .code yX9_isLine cX9_isLine 2 (some .boolean) :: GW) B.pre
  have hg : ∀ w ∈ GW, w.before _ s = true := fun w h => hts w (List.mem_cons_of_mem _ h)
  have hown : s.vm.findClass RX9 = some m.cls := findClass_of_methodNamed B.named
  have hlocks := B.notSynchronized
  have hl := lv_entry ([.ref a_t, .int p1]) (n := 2) (Nat.le_of_ble_eq_true rfl)
  rw [lg_entry_eq]
  generalize (lg_sl ([.ref a_t, .int p1]) ++ List.replicate (2 - (lg_sl ([.ref a_t, .int p1])).length) Slot.unset).toArray = ls at hl ⊢
  have hl : lv_has ls 2 [(0, .ref a_t), (1, .int p1)] := hl
  obtain ⟨y, hB, hK0⟩ : ∃ y, f_X9_isLine g_t_lines p1 = some y ∧ KEnd R0 y := ⟨R0, hB, rfl⟩
  have hKT := hK
  have hK := hK0
  show W p l e rm_X9_isLine s m ([.ref a_t, .int p1] : List Value).toArray below meth c s.heap [] 0 0 (MQ below (vp_Si (fun r => r = R0)) ([.ref a_t, .int p1] : List Value).toArray s 0 0 (fun _ => False)) (F0 m 0 ls [])
  refine lv_iload_n hx hb dX9_isLine_0 rfl (lv_at hl 1 rfl) ?_
  refine lv_iconst (v := 0) hx hb dX9_isLine_1 (by decide) ?_
  refine lv_aload_n hx hb dX9_isLine_2 rfl (lv_at hl 0 rfl) ?_
  refine va_get (D := G) (ci := 9) (v := .ref a_t_lines) (C := RX9) (T := TX9) (N := 26) hx hb hg inX9 hown hKT hP 0 rfl rfl 4 (by decide) (hg _ gF_X9_17) (fun _ h9 => h9) rfl dX9_isLine_3 ?_
  refine lv_iconst (v := 0) hx hb dX9_isLine_6 (by decide) ?_
  refine va_iald hx hb hKT hP 1 0 rfl rfl (vinC (by decide)) dX9_isLine_7 ?_
  refine lv_iconst (v := 1) hx hb dX9_isLine_8 (by decide) ?_
  refine lv_isub hx hb dX9_isLine_9 ?_
  obtain ⟨q1, hq1, hB⟩ := bnd hB
  refine kr_S (WC := wd_X9_in cs ) (As := [.int p1, .int (0 : Int32), .int ((g_t_lines (0 : Int32).toNatClampNeg) - (1 : Int32))]) (rest := []) (r0 := q1) ⟨hx, hb, hml, hown, hg⟩ (k_X9_in l G cs p1 (0 : Int32) ((g_t_lines (0 : Int32).toNatClampNeg) - (1 : Int32)) q1 hq1) gM_X9_57 mS_X9_in (rmk rfl) hP hKT hN [] rfl rfl hl.1 rfl (Nat.le_of_ble_eq_true rfl) dX9_isLine_10 ?_
  obtain ⟨h_2, hB⟩ := ifG hB
  have hK := leafK hB hK
  have hK : q1 = R0 := hK
  subst hK
  exact W.zret (v := q1) (ty := .boolean) hx hb hr (nar01 h_2) (fun t ht hW => ⟨_, rfl, rfl, ht⟩) (fun _ h => by cases h) dX9_isLine_13
def wd_X9_isOpinion (cs : Nat → ClassId) (a_t a_t_text a_t_opinions a_t_lines a_t_draftBook a_t_scribes a_t_turn a_t_bent a_t_need a_t_now a_t_isKept a_t_far a_t_marginOf a_t_marginSays : Nat) (v_t_trace : Int64) (v_t_typed : Int32) (v_t_needTold : Int32) (v_t_at : Int32) (v_t_start : Int32) (v_t_sort : Int32) (v_t_value : Int32) (v_t_fault : Int32) (v_t_target : Int32) (v_t_went : Int32) (v_t_ender : Int32) (v_t_had : Int32) (v_t_margins : Int32) (g_t_opinions : Nat → Int32) : va_W := [(a_t, .inr (9, [.long v_t_trace, .ref a_t_text, .int v_t_typed, .ref a_t_opinions, .ref a_t_lines, .ref a_t_draftBook, .ref a_t_scribes, .ref a_t_turn, .ref a_t_bent, .ref a_t_need, .int v_t_needTold, .int v_t_at, .int v_t_start, .int v_t_sort, .int v_t_value, .int v_t_fault, .ref a_t_now, .ref a_t_isKept, .int v_t_target, .int v_t_went, .int v_t_ender, .int v_t_had, .ref a_t_far, .ref a_t_marginOf, .ref a_t_marginSays, .int v_t_margins])), (a_t_opinions, .inl (cs 0, 2, .inl g_t_opinions))]
def rm_X9_isOpinion : Room := { frames := 1, cells := 0, slots := 0, locals := 22 }
theorem mI_X9_isOpinion : MI yX9_isOpinion RX9 cX9_isOpinion 2 (some .boolean) 1 := ⟨gI_X9_isOpinion, gE_X9_isOpinion, gN_X9, gC_X9_isOpinion, by decide +kernel⟩
set_option maxHeartbeats 4000000 in
set_option maxRecDepth 100000 in
theorem k_X9_isOpinion (l : Launch) (G : va_G) (cs : Nat → ClassId) (a_t a_t_text a_t_opinions a_t_lines a_t_draftBook a_t_scribes a_t_turn a_t_bent a_t_need a_t_now a_t_isKept a_t_far a_t_marginOf a_t_marginSays : Nat) (v_t_trace : Int64) (v_t_typed : Int32) (v_t_needTold : Int32) (v_t_at : Int32) (v_t_start : Int32) (v_t_sort : Int32) (v_t_value : Int32) (v_t_fault : Int32) (v_t_target : Int32) (v_t_went : Int32) (v_t_ender : Int32) (v_t_had : Int32) (v_t_margins : Int32) (g_t_opinions : Nat → Int32) (p1 : Int32) (R0 : Int32) (hB : f_X9_isOpinion g_t_opinions p1 = some R0) : Met l yX9_isOpinion (.code yX9_isOpinion cX9_isOpinion 2 (some .boolean) :: GW) rm_X9_isOpinion (PcR G cs [.ref a_t, .int p1] (wd_X9_isOpinion cs a_t a_t_text a_t_opinions a_t_lines a_t_draftBook a_t_scribes a_t_turn a_t_bent a_t_need a_t_now a_t_isKept a_t_far a_t_marginOf a_t_marginSays v_t_trace v_t_typed v_t_needTold v_t_at v_t_start v_t_sort v_t_value v_t_fault v_t_target v_t_went v_t_ender v_t_had v_t_margins g_t_opinions)) (vp_Si (fun r => r = R0)) 0 0 (fun _ => False) := by
  refine Met.ofW (cc := cX9_isOpinion) (maxL := 2) (ret := (some .boolean)) (by decide) rfl ?_
  intro p e s m args below meth c s₁ B hml hv
  obtain ⟨rfl, hP, hK, hN⟩ := hv
  have hx := B.exec
  have hb := B.bytes
  have hr := B.returns
  have hts := atoms_spec (ws := .code yX9_isOpinion cX9_isOpinion 2 (some .boolean) :: GW) B.pre
  have hg : ∀ w ∈ GW, w.before _ s = true := fun w h => hts w (List.mem_cons_of_mem _ h)
  have hown : s.vm.findClass RX9 = some m.cls := findClass_of_methodNamed B.named
  have hlocks := B.notSynchronized
  have hl := lv_entry ([.ref a_t, .int p1]) (n := 2) (Nat.le_of_ble_eq_true rfl)
  rw [lg_entry_eq]
  generalize (lg_sl ([.ref a_t, .int p1]) ++ List.replicate (2 - (lg_sl ([.ref a_t, .int p1])).length) Slot.unset).toArray = ls at hl ⊢
  have hl : lv_has ls 2 [(0, .ref a_t), (1, .int p1)] := hl
  obtain ⟨y, hB, hK0⟩ : ∃ y, f_X9_isOpinion g_t_opinions p1 = some y ∧ KEnd R0 y := ⟨R0, hB, rfl⟩
  have hKT := hK
  have hK := hK0
  show W p l e rm_X9_isOpinion s m ([.ref a_t, .int p1] : List Value).toArray below meth c s.heap [] 0 0 (MQ below (vp_Si (fun r => r = R0)) ([.ref a_t, .int p1] : List Value).toArray s 0 0 (fun _ => False)) (F0 m 0 ls [])
  refine lv_iload_n hx hb dX9_isOpinion_0 rfl (lv_at hl 1 rfl) ?_
  refine lv_iconst (v := 0) hx hb dX9_isOpinion_1 (by decide) ?_
  refine lv_aload_n hx hb dX9_isOpinion_2 rfl (lv_at hl 0 rfl) ?_
  refine va_get (D := G) (ci := 9) (v := .ref a_t_opinions) (C := RX9) (T := TX9) (N := 26) hx hb hg inX9 hown hKT hP 0 rfl rfl 3 (by decide) (hg _ gF_X9_13) (fun _ h9 => h9) rfl dX9_isOpinion_3 ?_
  refine lv_iconst (v := 0) hx hb dX9_isOpinion_6 (by decide) ?_
  refine va_iald hx hb hKT hP 1 0 rfl rfl (vinC (by decide)) dX9_isOpinion_7 ?_
  refine lv_iconst (v := 1) hx hb dX9_isOpinion_8 (by decide) ?_
  refine lv_isub hx hb dX9_isOpinion_9 ?_
  obtain ⟨q1, hq1, hB⟩ := bnd hB
  refine kr_S (WC := wd_X9_in cs ) (As := [.int p1, .int (0 : Int32), .int ((g_t_opinions (0 : Int32).toNatClampNeg) - (1 : Int32))]) (rest := []) (r0 := q1) ⟨hx, hb, hml, hown, hg⟩ (k_X9_in l G cs p1 (0 : Int32) ((g_t_opinions (0 : Int32).toNatClampNeg) - (1 : Int32)) q1 hq1) gM_X9_57 mS_X9_in (rmk rfl) hP hKT hN [] rfl rfl hl.1 rfl (Nat.le_of_ble_eq_true rfl) dX9_isOpinion_10 ?_
  obtain ⟨h_2, hB⟩ := ifG hB
  have hK := leafK hB hK
  have hK : q1 = R0 := hK
  subst hK
  exact W.zret (v := q1) (ty := .boolean) hx hb hr (nar01 h_2) (fun t ht hW => ⟨_, rfl, rfl, ht⟩) (fun _ h => by cases h) dX9_isOpinion_13
def wd_X9_books (cs : Nat → ClassId) (a_t a_t_text a_t_opinions a_t_lines a_t_draftBook a_t_scribes a_t_turn a_t_bent a_t_need a_t_now a_t_isKept a_t_far a_t_marginOf a_t_marginSays : Nat) (v_t_trace : Int64) (v_t_typed : Int32) (v_t_needTold : Int32) (v_t_at : Int32) (v_t_start : Int32) (v_t_sort : Int32) (v_t_value : Int32) (v_t_fault : Int32) (v_t_target : Int32) (v_t_went : Int32) (v_t_ender : Int32) (v_t_had : Int32) (v_t_margins : Int32) (g_t_opinions : Nat → Int32) (g_t_lines : Nat → Int32) : va_W := [(a_t, .inr (9, [.long v_t_trace, .ref a_t_text, .int v_t_typed, .ref a_t_opinions, .ref a_t_lines, .ref a_t_draftBook, .ref a_t_scribes, .ref a_t_turn, .ref a_t_bent, .ref a_t_need, .int v_t_needTold, .int v_t_at, .int v_t_start, .int v_t_sort, .int v_t_value, .int v_t_fault, .ref a_t_now, .ref a_t_isKept, .int v_t_target, .int v_t_went, .int v_t_ender, .int v_t_had, .ref a_t_far, .ref a_t_marginOf, .ref a_t_marginSays, .int v_t_margins])), (a_t_opinions, .inl (cs 0, 2, .inl g_t_opinions)), (a_t_lines, .inl (cs 0, 2, .inl g_t_lines))]
def rm_X9_books : Room := { frames := 0, cells := 0, slots := 0, locals := 0 }
theorem mI_X9_books : MI yX9_books RX9 cX9_books 3 (some .int) 0 := ⟨gI_X9_books, gE_X9_books, gN_X9, gC_X9_books, by decide +kernel⟩
set_option maxHeartbeats 4000000 in
set_option maxRecDepth 100000 in
theorem k_X9_books (l : Launch) (G : va_G) (cs : Nat → ClassId) (a_t a_t_text a_t_opinions a_t_lines a_t_draftBook a_t_scribes a_t_turn a_t_bent a_t_need a_t_now a_t_isKept a_t_far a_t_marginOf a_t_marginSays : Nat) (v_t_trace : Int64) (v_t_typed : Int32) (v_t_needTold : Int32) (v_t_at : Int32) (v_t_start : Int32) (v_t_sort : Int32) (v_t_value : Int32) (v_t_fault : Int32) (v_t_target : Int32) (v_t_went : Int32) (v_t_ender : Int32) (v_t_had : Int32) (v_t_margins : Int32) (g_t_opinions : Nat → Int32) (g_t_lines : Nat → Int32) (R0 : Int32) (hB : f_X9_books g_t_opinions g_t_lines = some R0) : Met l yX9_books (.code yX9_books cX9_books 3 (some .int) :: GW) rm_X9_books (PcR G cs [.ref a_t] (wd_X9_books cs a_t a_t_text a_t_opinions a_t_lines a_t_draftBook a_t_scribes a_t_turn a_t_bent a_t_need a_t_now a_t_isKept a_t_far a_t_marginOf a_t_marginSays v_t_trace v_t_typed v_t_needTold v_t_at v_t_start v_t_sort v_t_value v_t_fault v_t_target v_t_went v_t_ender v_t_had v_t_margins g_t_opinions g_t_lines)) (vp_Si (fun r => r = R0)) 0 0 (fun _ => False) := by
  refine Met.ofW (cc := cX9_books) (maxL := 3) (ret := (some .int)) (by decide) rfl ?_
  intro p e s m args below meth c s₁ B hml hv
  obtain ⟨rfl, hP, hK, hN⟩ := hv
  have hx := B.exec
  have hb := B.bytes
  have hr := B.returns
  have hts := atoms_spec (ws := .code yX9_books cX9_books 3 (some .int) :: GW) B.pre
  have hg : ∀ w ∈ GW, w.before _ s = true := fun w h => hts w (List.mem_cons_of_mem _ h)
  have hown : s.vm.findClass RX9 = some m.cls := findClass_of_methodNamed B.named
  have hlocks := B.notSynchronized
  have hl := lv_entry ([.ref a_t]) (n := 3) (Nat.le_of_ble_eq_true rfl)
  rw [lg_entry_eq]
  generalize (lg_sl ([.ref a_t]) ++ List.replicate (3 - (lg_sl ([.ref a_t])).length) Slot.unset).toArray = ls at hl ⊢
  have hl : lv_has ls 3 [(0, .ref a_t)] := hl
  obtain ⟨y, hB, hK0⟩ : ∃ y, f_X9_books g_t_opinions g_t_lines = some y ∧ KEnd R0 y := ⟨R0, hB, rfl⟩
  have hKT := hK
  have hK := hK0
  show W p l e rm_X9_books s m ([.ref a_t] : List Value).toArray below meth c s.heap [] 0 0 (MQ below (vp_Si (fun r => r = R0)) ([.ref a_t] : List Value).toArray s 0 0 (fun _ => False)) (F0 m 0 ls [])
  refine lv_iconst (v := 1) hx hb dX9_books_0 (by decide) ?_
  refine lv_istore_n (lv' := [(1, .int (1 : Int32)), (0, .ref a_t)]) hx hb dX9_books_1 rfl hl (by decide) rfl (fun ls hl => ?_)
  refine lv_iconst (v := 0) hx hb dX9_books_2 (by decide) ?_
  refine lv_istore_n (lv' := [(2, .int (0 : Int32)), (1, .int (1 : Int32)), (0, .ref a_t)]) hx hb dX9_books_3 rfl hl (by decide) rfl (fun ls hl => ?_)
  refine lp_ind (Wh := fun (z1 : Int32 × Int32) => ∀ (ls : Array Slot), lv_has ls 3 [(0, .ref a_t), (1, .int z1.1), (2, .int z1.2)] → W p l e rm_X9_books s m ([.ref a_t] : List Value).toArray below meth c s.heap [] 0 0 (MQ below (vp_Si (fun r => r = R0)) ([.ref a_t] : List Value).toArray s 0 0 (fun _ => False)) (F0 m 4 ls [])) ?_ FU _ _ hB hK ls (lv_sub hl [2, 1, 0] rfl)
  rintro ⟨z1_0, z1_1⟩ y hB hK ls hl
  have hl : lv_has ls 3 [(0, .ref a_t), (1, .int z1_0), (2, .int z1_1)] := hl
  refine lv_iload_n hx hb dX9_books_4 rfl (lv_at hl 2 rfl) ?_
  refine lv_aload_n hx hb dX9_books_5 rfl (lv_at hl 0 rfl) ?_
  refine va_get (D := G) (ci := 9) (v := .ref a_t_lines) (C := RX9) (T := TX9) (N := 26) hx hb hg inX9 hown hKT hP 0 rfl rfl 4 (by decide) (hg _ gF_X9_17) (fun _ h9 => h9) rfl dX9_books_6 ?_
  refine lv_iconst (v := 0) hx hb dX9_books_9 (by decide) ?_
  refine va_iald hx hb hKT hP 2 0 rfl rfl (vinC (by decide)) dX9_books_10 ?_
  refine lv_icmp_ge (tgt := 29) hx hb dX9_books_11 (by decide) (fun c_2 => ?_) (fun c_2 => ?_)
  · have hB := ifP c_2 hB
    refine lv_iload_n hx hb dX9_books_29 rfl (lv_at hl 1 rfl) ?_
    have hK := leafK hB hK
    have hK := elimR hK
    have hK : z1_0 = R0 := hK
    subst hK
    exact W.iret (v := z1_0) hx hb hr (fun t ht hW => ⟨_, rfl, rfl, ht⟩) (fun _ h => by cases h) dX9_books_30
  · have hB := ifN c_2 hB
    refine lv_iload_n hx hb dX9_books_14 rfl (lv_at hl 1 rfl) ?_
    refine lv_aload_n hx hb dX9_books_15 rfl (lv_at hl 0 rfl) ?_
    refine va_get (D := G) (ci := 9) (v := .ref a_t_opinions) (C := RX9) (T := TX9) (N := 26) hx hb hg inX9 hown hKT hP 0 rfl rfl 3 (by decide) (hg _ gF_X9_13) (fun _ h9 => h9) rfl dX9_books_16 ?_
    refine lv_iconst (v := 0) hx hb dX9_books_19 (by decide) ?_
    refine va_iald hx hb hKT hP 1 0 rfl rfl (vinC (by decide)) dX9_books_20 ?_
    refine lv_imul hx hb dX9_books_21 ?_
    refine lv_istore_n (lv' := [(1, .int (z1_0 * (g_t_opinions (0 : Int32).toNatClampNeg))), (0, .ref a_t), (2, .int z1_1)]) hx hb dX9_books_22 rfl hl (by decide) rfl (fun ls hl => ?_)
    refine lv_iinc (v := z1_1 + (1 : Int32)) (lv' := [(2, .int (z1_1 + (1 : Int32))), (1, .int (z1_0 * (g_t_opinions (0 : Int32).toNatClampNeg))), (0, .ref a_t)]) hx hb dX9_books_23 hl (k := 2) rfl (inc_ok (by decide)) (by decide) rfl (fun ls hl => ?_)
    refine lv_goto (tgt := 4) hx hb dX9_books_26 (by decide) ?_
    have hK := leafK hB hK
    have hK := elimL hK
    exact hK ls (lv_sub hl [2, 1, 0] rfl)
def wd_X9_lineOf (cs : Nat → ClassId) (a_t a_t_text a_t_opinions a_t_lines a_t_draftBook a_t_scribes a_t_turn a_t_bent a_t_need a_t_now a_t_isKept a_t_far a_t_marginOf a_t_marginSays : Nat) (v_t_trace : Int64) (v_t_typed : Int32) (v_t_needTold : Int32) (v_t_at : Int32) (v_t_start : Int32) (v_t_sort : Int32) (v_t_value : Int32) (v_t_fault : Int32) (v_t_target : Int32) (v_t_went : Int32) (v_t_ender : Int32) (v_t_had : Int32) (v_t_margins : Int32) (g_t_opinions : Nat → Int32) (g_t_lines : Nat → Int32) : va_W := [(a_t, .inr (9, [.long v_t_trace, .ref a_t_text, .int v_t_typed, .ref a_t_opinions, .ref a_t_lines, .ref a_t_draftBook, .ref a_t_scribes, .ref a_t_turn, .ref a_t_bent, .ref a_t_need, .int v_t_needTold, .int v_t_at, .int v_t_start, .int v_t_sort, .int v_t_value, .int v_t_fault, .ref a_t_now, .ref a_t_isKept, .int v_t_target, .int v_t_went, .int v_t_ender, .int v_t_had, .ref a_t_far, .ref a_t_marginOf, .ref a_t_marginSays, .int v_t_margins])), (a_t_opinions, .inl (cs 0, 2, .inl g_t_opinions)), (a_t_lines, .inl (cs 0, 2, .inl g_t_lines))]
def rm_X9_lineOf : Room := { frames := 0, cells := 0, slots := 0, locals := 0 }
theorem mI_X9_lineOf : MI yX9_lineOf RX9 cX9_lineOf 5 (some .int) 2 := ⟨gI_X9_lineOf, gE_X9_lineOf, gN_X9, gC_X9_lineOf, by decide +kernel⟩
set_option maxHeartbeats 4000000 in
set_option maxRecDepth 100000 in
theorem k_X9_lineOf (l : Launch) (G : va_G) (cs : Nat → ClassId) (a_t a_t_text a_t_opinions a_t_lines a_t_draftBook a_t_scribes a_t_turn a_t_bent a_t_need a_t_now a_t_isKept a_t_far a_t_marginOf a_t_marginSays : Nat) (v_t_trace : Int64) (v_t_typed : Int32) (v_t_needTold : Int32) (v_t_at : Int32) (v_t_start : Int32) (v_t_sort : Int32) (v_t_value : Int32) (v_t_fault : Int32) (v_t_target : Int32) (v_t_went : Int32) (v_t_ender : Int32) (v_t_had : Int32) (v_t_margins : Int32) (g_t_opinions : Nat → Int32) (g_t_lines : Nat → Int32) (p1 p2 : Int32) (R0 : Int32) (hB : f_X9_lineOf g_t_opinions g_t_lines p1 p2 = some R0) : Met l yX9_lineOf (.code yX9_lineOf cX9_lineOf 5 (some .int) :: GW) rm_X9_lineOf (PcR G cs [.ref a_t, .int p1, .int p2] (wd_X9_lineOf cs a_t a_t_text a_t_opinions a_t_lines a_t_draftBook a_t_scribes a_t_turn a_t_bent a_t_need a_t_now a_t_isKept a_t_far a_t_marginOf a_t_marginSays v_t_trace v_t_typed v_t_needTold v_t_at v_t_start v_t_sort v_t_value v_t_fault v_t_target v_t_went v_t_ender v_t_had v_t_margins g_t_opinions g_t_lines)) (vp_Si (fun r => r = R0)) 0 0 (fun _ => False) := by
  refine Met.ofW (cc := cX9_lineOf) (maxL := 5) (ret := (some .int)) (by decide) rfl ?_
  intro p e s m args below meth c s₁ B hml hv
  obtain ⟨rfl, hP, hK, hN⟩ := hv
  have hx := B.exec
  have hb := B.bytes
  have hr := B.returns
  have hts := atoms_spec (ws := .code yX9_lineOf cX9_lineOf 5 (some .int) :: GW) B.pre
  have hg : ∀ w ∈ GW, w.before _ s = true := fun w h => hts w (List.mem_cons_of_mem _ h)
  have hown : s.vm.findClass RX9 = some m.cls := findClass_of_methodNamed B.named
  have hlocks := B.notSynchronized
  have hl := lv_entry ([.ref a_t, .int p1, .int p2]) (n := 5) (Nat.le_of_ble_eq_true rfl)
  rw [lg_entry_eq]
  generalize (lg_sl ([.ref a_t, .int p1, .int p2]) ++ List.replicate (5 - (lg_sl ([.ref a_t, .int p1, .int p2])).length) Slot.unset).toArray = ls at hl ⊢
  have hl : lv_has ls 5 [(0, .ref a_t), (1, .int p1), (2, .int p2)] := hl
  obtain ⟨y, hB, hK0⟩ : ∃ y, f_X9_lineOf g_t_opinions g_t_lines p1 p2 = some y ∧ KEnd R0 y := ⟨R0, hB, rfl⟩
  have hKT := hK
  have hK := hK0
  show W p l e rm_X9_lineOf s m ([.ref a_t, .int p1, .int p2] : List Value).toArray below meth c s.heap [] 0 0 (MQ below (vp_Si (fun r => r = R0)) ([.ref a_t, .int p1, .int p2] : List Value).toArray s 0 0 (fun _ => False)) (F0 m 0 ls [])
  refine lv_iload_n hx hb dX9_lineOf_0 rfl (lv_at hl 1 rfl) ?_
  refine lv_istore_n (lv' := [(3, .int p1), (0, .ref a_t), (1, .int p1), (2, .int p2)]) hx hb dX9_lineOf_1 rfl hl (by decide) rfl (fun ls hl => ?_)
  refine lv_aload_n hx hb dX9_lineOf_2 rfl (lv_at hl 1 rfl) ?_
  refine va_get (D := G) (ci := 9) (v := .ref a_t_lines) (C := RX9) (T := TX9) (N := 26) hx hb hg inX9 hown hKT hP 0 rfl rfl 4 (by decide) (hg _ gF_X9_17) (fun _ h9 => h9) rfl dX9_lineOf_3 ?_
  refine lv_iconst (v := 0) hx hb dX9_lineOf_6 (by decide) ?_
  refine va_iald hx hb hKT hP 2 0 rfl rfl (vinC (by decide)) dX9_lineOf_7 ?_
  refine lv_iconst (v := 1) hx hb dX9_lineOf_8 (by decide) ?_
  refine lv_isub hx hb dX9_lineOf_9 ?_
  refine lv_istore (lv' := [(4, .int ((g_t_lines (0 : Int32).toNatClampNeg) - (1 : Int32))), (3, .int p1), (0, .ref a_t), (1, .int p1), (2, .int p2)]) hx hb dX9_lineOf_10 hl (by decide) rfl (fun ls hl => ?_)
  refine lp_ind (Wh := fun (z1 : Int32 × Int32) => ∀ (ls : Array Slot), lv_has ls 5 [(0, .ref a_t), (2, .int p2), (3, .int z1.1), (4, .int z1.2)] → W p l e rm_X9_lineOf s m ([.ref a_t, .int p1, .int p2] : List Value).toArray below meth c s.heap [] 0 0 (MQ below (vp_Si (fun r => r = R0)) ([.ref a_t, .int p1, .int p2] : List Value).toArray s 0 0 (fun _ => False)) (F0 m 12 ls [])) ?_ FU _ _ hB hK ls (lv_sub hl [2, 4, 1, 0] rfl)
  rintro ⟨z1_0, z1_1⟩ y hB hK ls hl
  have hl : lv_has ls 5 [(0, .ref a_t), (2, .int p2), (3, .int z1_0), (4, .int z1_1)] := hl
  refine lv_iload hx hb dX9_lineOf_12 (lv_at hl 3 rfl) ?_
  refine lv_iload_n hx hb dX9_lineOf_14 rfl (lv_at hl 1 rfl) ?_
  refine lv_icmp_le (tgt := 33) hx hb dX9_lineOf_15 (by decide) (fun c_2 => ?_) (fun c_2 => ?_)
  · have hB := ifP c_2 hB
    refine lv_iload_n hx hb dX9_lineOf_33 rfl (lv_at hl 2 rfl) ?_
    refine lv_aload_n hx hb dX9_lineOf_34 rfl (lv_at hl 0 rfl) ?_
    refine va_get (D := G) (ci := 9) (v := .ref a_t_opinions) (C := RX9) (T := TX9) (N := 26) hx hb hg inX9 hown hKT hP 0 rfl rfl 3 (by decide) (hg _ gF_X9_13) (fun _ h9 => h9) rfl dX9_lineOf_35 ?_
    refine lv_iconst (v := 0) hx hb dX9_lineOf_38 (by decide) ?_
    refine va_iald hx hb hKT hP 1 0 rfl rfl (vinC (by decide)) dX9_lineOf_39 ?_
    obtain ⟨h_3, hB⟩ := ifS hB
    refine lj_irem hx hb dX9_lineOf_40 h_3 ?_
    have hK := leafK hB hK
    have hK := elimR hK
    have hK : (jrem z1_0 (g_t_opinions (0 : Int32).toNatClampNeg)) = R0 := hK
    subst hK
    exact W.iret (v := jrem z1_0 (g_t_opinions (0 : Int32).toNatClampNeg)) hx hb hr (fun t ht hW => ⟨_, rfl, rfl, ht⟩) (fun _ h => by cases h) dX9_lineOf_41
  · have hB := ifN c_2 hB
    refine lv_iload_n hx hb dX9_lineOf_18 rfl (lv_at hl 2 rfl) ?_
    refine lv_aload_n hx hb dX9_lineOf_19 rfl (lv_at hl 0 rfl) ?_
    refine va_get (D := G) (ci := 9) (v := .ref a_t_opinions) (C := RX9) (T := TX9) (N := 26) hx hb hg inX9 hown hKT hP 0 rfl rfl 3 (by decide) (hg _ gF_X9_13) (fun _ h9 => h9) rfl dX9_lineOf_20 ?_
    refine lv_iconst (v := 0) hx hb dX9_lineOf_23 (by decide) ?_
    refine va_iald hx hb hKT hP 1 0 rfl rfl (vinC (by decide)) dX9_lineOf_24 ?_
    obtain ⟨h_4, hB⟩ := ifS hB
    refine lv_idiv hx hb dX9_lineOf_25 h_4 ?_
    refine lv_istore_n (lv' := [(3, .int (z1_0 / (g_t_opinions (0 : Int32).toNatClampNeg))), (0, .ref a_t), (2, .int p2), (4, .int z1_1)]) hx hb dX9_lineOf_26 rfl hl (by decide) rfl (fun ls hl => ?_)
    refine lv_iinc (v := z1_1 + (-1 : Int32)) (lv' := [(4, .int (z1_1 + (-1 : Int32))), (3, .int (z1_0 / (g_t_opinions (0 : Int32).toNatClampNeg))), (0, .ref a_t), (2, .int p2)]) hx hb dX9_lineOf_27 hl (k := 3) rfl (inc_ok (by decide)) (by decide) rfl (fun ls hl => ?_)
    refine lv_goto (tgt := 12) hx hb dX9_lineOf_30 (by decide) ?_
    have hK := leafK hB hK
    have hK := elimL hK
    exact hK ls (lv_sub hl [2, 3, 1, 0] rfl)
def wd_X9_saysOf (cs : Nat → ClassId) (a_t a_t_text a_t_opinions a_t_lines a_t_draftBook a_t_scribes a_t_turn a_t_bent a_t_need a_t_now a_t_isKept a_t_far a_t_marginOf a_t_marginSays : Nat) (v_t_trace : Int64) (v_t_typed : Int32) (v_t_needTold : Int32) (v_t_at : Int32) (v_t_start : Int32) (v_t_sort : Int32) (v_t_value : Int32) (v_t_fault : Int32) (v_t_target : Int32) (v_t_went : Int32) (v_t_ender : Int32) (v_t_had : Int32) (v_t_margins : Int32) (g_t_opinions : Nat → Int32) (g_t_turn : Nat → Int32) (g_t_bent : Nat → Int32) : va_W := [(a_t, .inr (9, [.long v_t_trace, .ref a_t_text, .int v_t_typed, .ref a_t_opinions, .ref a_t_lines, .ref a_t_draftBook, .ref a_t_scribes, .ref a_t_turn, .ref a_t_bent, .ref a_t_need, .int v_t_needTold, .int v_t_at, .int v_t_start, .int v_t_sort, .int v_t_value, .int v_t_fault, .ref a_t_now, .ref a_t_isKept, .int v_t_target, .int v_t_went, .int v_t_ender, .int v_t_had, .ref a_t_far, .ref a_t_marginOf, .ref a_t_marginSays, .int v_t_margins])), (a_t_opinions, .inl (cs 0, 2, .inl g_t_opinions)), (a_t_turn, .inl (cs 0, 12, .inl g_t_turn)), (a_t_bent, .inl (cs 0, 12, .inl g_t_bent))]
def rm_X9_saysOf : Room := { frames := 0, cells := 0, slots := 0, locals := 0 }
theorem mI_X9_saysOf : MI yX9_saysOf RX9 cX9_saysOf 3 (some .int) 2 := ⟨gI_X9_saysOf, gE_X9_saysOf, gN_X9, gC_X9_saysOf, by decide +kernel⟩
set_option maxHeartbeats 4000000 in
set_option maxRecDepth 100000 in
theorem k_X9_saysOf (l : Launch) (G : va_G) (cs : Nat → ClassId) (a_t a_t_text a_t_opinions a_t_lines a_t_draftBook a_t_scribes a_t_turn a_t_bent a_t_need a_t_now a_t_isKept a_t_far a_t_marginOf a_t_marginSays : Nat) (v_t_trace : Int64) (v_t_typed : Int32) (v_t_needTold : Int32) (v_t_at : Int32) (v_t_start : Int32) (v_t_sort : Int32) (v_t_value : Int32) (v_t_fault : Int32) (v_t_target : Int32) (v_t_went : Int32) (v_t_ender : Int32) (v_t_had : Int32) (v_t_margins : Int32) (g_t_opinions : Nat → Int32) (g_t_turn : Nat → Int32) (g_t_bent : Nat → Int32) (p1 p2 : Int32) (R0 : Int32) (hB : f_X9_saysOf g_t_opinions g_t_turn g_t_bent p1 p2 = some R0) : Met l yX9_saysOf (.code yX9_saysOf cX9_saysOf 3 (some .int) :: GW) rm_X9_saysOf (PcR G cs [.ref a_t, .int p1, .int p2] (wd_X9_saysOf cs a_t a_t_text a_t_opinions a_t_lines a_t_draftBook a_t_scribes a_t_turn a_t_bent a_t_need a_t_now a_t_isKept a_t_far a_t_marginOf a_t_marginSays v_t_trace v_t_typed v_t_needTold v_t_at v_t_start v_t_sort v_t_value v_t_fault v_t_target v_t_went v_t_ender v_t_had v_t_margins g_t_opinions g_t_turn g_t_bent)) (vp_Si (fun r => r = R0)) 0 0 (fun _ => False) := by
  refine Met.ofW (cc := cX9_saysOf) (maxL := 3) (ret := (some .int)) (by decide) rfl ?_
  intro p e s m args below meth c s₁ B hml hv
  obtain ⟨rfl, hP, hK, hN⟩ := hv
  have hx := B.exec
  have hb := B.bytes
  have hr := B.returns
  have hts := atoms_spec (ws := .code yX9_saysOf cX9_saysOf 3 (some .int) :: GW) B.pre
  have hg : ∀ w ∈ GW, w.before _ s = true := fun w h => hts w (List.mem_cons_of_mem _ h)
  have hown : s.vm.findClass RX9 = some m.cls := findClass_of_methodNamed B.named
  have hlocks := B.notSynchronized
  have hl := lv_entry ([.ref a_t, .int p1, .int p2]) (n := 3) (Nat.le_of_ble_eq_true rfl)
  rw [lg_entry_eq]
  generalize (lg_sl ([.ref a_t, .int p1, .int p2]) ++ List.replicate (3 - (lg_sl ([.ref a_t, .int p1, .int p2])).length) Slot.unset).toArray = ls at hl ⊢
  have hl : lv_has ls 3 [(0, .ref a_t), (1, .int p1), (2, .int p2)] := hl
  obtain ⟨y, hB, hK0⟩ : ∃ y, f_X9_saysOf g_t_opinions g_t_turn g_t_bent p1 p2 = some y ∧ KEnd R0 y := ⟨R0, hB, rfl⟩
  have hKT := hK
  have hK := hK0
  show W p l e rm_X9_saysOf s m ([.ref a_t, .int p1, .int p2] : List Value).toArray below meth c s.heap [] 0 0 (MQ below (vp_Si (fun r => r = R0)) ([.ref a_t, .int p1, .int p2] : List Value).toArray s 0 0 (fun _ => False)) (F0 m 0 ls [])
  refine lv_aload_n hx hb dX9_saysOf_0 rfl (lv_at hl 0 rfl) ?_
  refine va_get (D := G) (ci := 9) (v := .ref a_t_turn) (C := RX9) (T := TX9) (N := 26) hx hb hg inX9 hown hKT hP 0 rfl rfl 7 (by decide) (hg _ gF_X9_26) (fun _ h9 => h9) rfl dX9_saysOf_1 ?_
  refine lv_iload_n hx hb dX9_saysOf_4 rfl (lv_at hl 1 rfl) ?_
  obtain ⟨h_1, hB⟩ := ifS hB
  refine va_iald hx hb hKT hP 2 0 rfl rfl h_1 dX9_saysOf_5 ?_
  refine lv_iload_n hx hb dX9_saysOf_6 rfl (lv_at hl 2 rfl) ?_
  refine lv_imul hx hb dX9_saysOf_7 ?_
  refine lv_aload_n hx hb dX9_saysOf_8 rfl (lv_at hl 0 rfl) ?_
  refine va_get (D := G) (ci := 9) (v := .ref a_t_bent) (C := RX9) (T := TX9) (N := 26) hx hb hg inX9 hown hKT hP 0 rfl rfl 8 (by decide) (hg _ gF_X9_29) (fun _ h9 => h9) rfl dX9_saysOf_9 ?_
  refine lv_iload_n hx hb dX9_saysOf_12 rfl (lv_at hl 1 rfl) ?_
  obtain ⟨h_2, hB⟩ := ifS hB
  refine va_iald hx hb hKT hP 3 0 rfl rfl h_2 dX9_saysOf_13 ?_
  refine lv_iadd hx hb dX9_saysOf_14 ?_
  refine lv_aload_n hx hb dX9_saysOf_15 rfl (lv_at hl 0 rfl) ?_
  refine va_get (D := G) (ci := 9) (v := .ref a_t_opinions) (C := RX9) (T := TX9) (N := 26) hx hb hg inX9 hown hKT hP 0 rfl rfl 3 (by decide) (hg _ gF_X9_13) (fun _ h9 => h9) rfl dX9_saysOf_16 ?_
  refine lv_iconst (v := 0) hx hb dX9_saysOf_19 (by decide) ?_
  refine va_iald hx hb hKT hP 1 0 rfl rfl (vinC (by decide)) dX9_saysOf_20 ?_
  obtain ⟨h_3, hB⟩ := ifS hB
  refine lj_irem hx hb dX9_saysOf_21 h_3 ?_
  have hK := leafK hB hK
  have hK : (jrem (((g_t_turn p1.toNatClampNeg) * p2) + (g_t_bent p1.toNatClampNeg)) (g_t_opinions (0 : Int32).toNatClampNeg)) = R0 := hK
  subst hK
  exact W.iret (v := jrem (((g_t_turn p1.toNatClampNeg) * p2) + (g_t_bent p1.toNatClampNeg)) (g_t_opinions (0 : Int32).toNatClampNeg)) hx hb hr (fun t ht hW => ⟨_, rfl, rfl, ht⟩) (fun _ h => by cases h) dX9_saysOf_22
def wd_X9_copyOf (cs : Nat → ClassId) (a_t a_t_text a_t_opinions a_t_lines a_t_draftBook a_t_scribes a_t_turn a_t_bent a_t_need a_t_now a_t_isKept a_t_far a_t_marginOf a_t_marginSays : Nat) (v_t_trace : Int64) (v_t_typed : Int32) (v_t_needTold : Int32) (v_t_at : Int32) (v_t_start : Int32) (v_t_sort : Int32) (v_t_value : Int32) (v_t_fault : Int32) (v_t_target : Int32) (v_t_went : Int32) (v_t_ender : Int32) (v_t_had : Int32) (v_t_margins : Int32) (g_t_opinions : Nat → Int32) (g_t_lines : Nat → Int32) (g_t_turn : Nat → Int32) (g_t_bent : Nat → Int32) : va_W := [(a_t, .inr (9, [.long v_t_trace, .ref a_t_text, .int v_t_typed, .ref a_t_opinions, .ref a_t_lines, .ref a_t_draftBook, .ref a_t_scribes, .ref a_t_turn, .ref a_t_bent, .ref a_t_need, .int v_t_needTold, .int v_t_at, .int v_t_start, .int v_t_sort, .int v_t_value, .int v_t_fault, .ref a_t_now, .ref a_t_isKept, .int v_t_target, .int v_t_went, .int v_t_ender, .int v_t_had, .ref a_t_far, .ref a_t_marginOf, .ref a_t_marginSays, .int v_t_margins])), (a_t_opinions, .inl (cs 0, 2, .inl g_t_opinions)), (a_t_lines, .inl (cs 0, 2, .inl g_t_lines)), (a_t_turn, .inl (cs 0, 12, .inl g_t_turn)), (a_t_bent, .inl (cs 0, 12, .inl g_t_bent))]
def rm_X9_copyOf : Room := { frames := 1, cells := 0, slots := 0, locals := 24 }
theorem mI_X9_copyOf : MI yX9_copyOf RX9 cX9_copyOf 5 (some .int) 2 := ⟨gI_X9_copyOf, gE_X9_copyOf, gN_X9, gC_X9_copyOf, by decide +kernel⟩
set_option maxHeartbeats 4000000 in
set_option maxRecDepth 100000 in
theorem k_X9_copyOf (l : Launch) (G : va_G) (cs : Nat → ClassId) (a_t a_t_text a_t_opinions a_t_lines a_t_draftBook a_t_scribes a_t_turn a_t_bent a_t_need a_t_now a_t_isKept a_t_far a_t_marginOf a_t_marginSays : Nat) (v_t_trace : Int64) (v_t_typed : Int32) (v_t_needTold : Int32) (v_t_at : Int32) (v_t_start : Int32) (v_t_sort : Int32) (v_t_value : Int32) (v_t_fault : Int32) (v_t_target : Int32) (v_t_went : Int32) (v_t_ender : Int32) (v_t_had : Int32) (v_t_margins : Int32) (g_t_opinions : Nat → Int32) (g_t_lines : Nat → Int32) (g_t_turn : Nat → Int32) (g_t_bent : Nat → Int32) (p1 p2 : Int32) (R0 : Int32) (hB : f_X9_copyOf g_t_opinions g_t_lines g_t_turn g_t_bent p1 p2 = some R0) : Met l yX9_copyOf (.code yX9_copyOf cX9_copyOf 5 (some .int) :: GW) rm_X9_copyOf (PcR G cs [.ref a_t, .int p1, .int p2] (wd_X9_copyOf cs a_t a_t_text a_t_opinions a_t_lines a_t_draftBook a_t_scribes a_t_turn a_t_bent a_t_need a_t_now a_t_isKept a_t_far a_t_marginOf a_t_marginSays v_t_trace v_t_typed v_t_needTold v_t_at v_t_start v_t_sort v_t_value v_t_fault v_t_target v_t_went v_t_ender v_t_had v_t_margins g_t_opinions g_t_lines g_t_turn g_t_bent)) (vp_Si (fun r => r = R0)) 0 0 (fun _ => False) := by
  refine Met.ofW (cc := cX9_copyOf) (maxL := 5) (ret := (some .int)) (by decide) rfl ?_
  intro p e s m args below meth c s₁ B hml hv
  obtain ⟨rfl, hP, hK, hN⟩ := hv
  have hx := B.exec
  have hb := B.bytes
  have hr := B.returns
  have hts := atoms_spec (ws := .code yX9_copyOf cX9_copyOf 5 (some .int) :: GW) B.pre
  have hg : ∀ w ∈ GW, w.before _ s = true := fun w h => hts w (List.mem_cons_of_mem _ h)
  have hown : s.vm.findClass RX9 = some m.cls := findClass_of_methodNamed B.named
  have hlocks := B.notSynchronized
  have hl := lv_entry ([.ref a_t, .int p1, .int p2]) (n := 5) (Nat.le_of_ble_eq_true rfl)
  rw [lg_entry_eq]
  generalize (lg_sl ([.ref a_t, .int p1, .int p2]) ++ List.replicate (5 - (lg_sl ([.ref a_t, .int p1, .int p2])).length) Slot.unset).toArray = ls at hl ⊢
  have hl : lv_has ls 5 [(0, .ref a_t), (1, .int p1), (2, .int p2)] := hl
  obtain ⟨y, hB, hK0⟩ : ∃ y, f_X9_copyOf g_t_opinions g_t_lines g_t_turn g_t_bent p1 p2 = some y ∧ KEnd R0 y := ⟨R0, hB, rfl⟩
  have hKT := hK
  have hK := hK0
  show W p l e rm_X9_copyOf s m ([.ref a_t, .int p1, .int p2] : List Value).toArray below meth c s.heap [] 0 0 (MQ below (vp_Si (fun r => r = R0)) ([.ref a_t, .int p1, .int p2] : List Value).toArray s 0 0 (fun _ => False)) (F0 m 0 ls [])
  refine lv_iconst (v := 0) hx hb dX9_copyOf_0 (by decide) ?_
  refine lv_istore_n (lv' := [(3, .int (0 : Int32)), (0, .ref a_t), (1, .int p1), (2, .int p2)]) hx hb dX9_copyOf_1 rfl hl (by decide) rfl (fun ls hl => ?_)
  refine lv_iconst (v := 0) hx hb dX9_copyOf_2 (by decide) ?_
  refine lv_istore (lv' := [(4, .int (0 : Int32)), (3, .int (0 : Int32)), (0, .ref a_t), (1, .int p1), (2, .int p2)]) hx hb dX9_copyOf_3 hl (by decide) rfl (fun ls hl => ?_)
  refine lp_ind (Wh := fun (z1 : Int32 × Int32) => ∀ (ls : Array Slot), lv_has ls 5 [(0, .ref a_t), (1, .int p1), (2, .int p2), (3, .int z1.1), (4, .int z1.2)] → W p l e rm_X9_copyOf s m ([.ref a_t, .int p1, .int p2] : List Value).toArray below meth c s.heap [] 0 0 (MQ below (vp_Si (fun r => r = R0)) ([.ref a_t, .int p1, .int p2] : List Value).toArray s 0 0 (fun _ => False)) (F0 m 5 ls [])) ?_ FU _ _ hB hK ls (lv_sub hl [2, 3, 4, 1, 0] rfl)
  rintro ⟨z1_0, z1_1⟩ y hB hK ls hl
  have hl : lv_has ls 5 [(0, .ref a_t), (1, .int p1), (2, .int p2), (3, .int z1_0), (4, .int z1_1)] := hl
  refine lv_iload hx hb dX9_copyOf_5 (lv_at hl 4 rfl) ?_
  refine lv_aload_n hx hb dX9_copyOf_7 rfl (lv_at hl 0 rfl) ?_
  refine va_get (D := G) (ci := 9) (v := .ref a_t_lines) (C := RX9) (T := TX9) (N := 26) hx hb hg inX9 hown hKT hP 0 rfl rfl 4 (by decide) (hg _ gF_X9_17) (fun _ h9 => h9) rfl dX9_copyOf_8 ?_
  refine lv_iconst (v := 0) hx hb dX9_copyOf_11 (by decide) ?_
  refine va_iald hx hb hKT hP 2 0 rfl rfl (vinC (by decide)) dX9_copyOf_12 ?_
  refine lv_icmp_ge (tgt := 44) hx hb dX9_copyOf_13 (by decide) (fun c_2 => ?_) (fun c_2 => ?_)
  · have hB := ifP c_2 hB
    refine lv_iload_n hx hb dX9_copyOf_44 rfl (lv_at hl 3 rfl) ?_
    have hK := leafK hB hK
    have hK := elimR hK
    have hK : z1_0 = R0 := hK
    subst hK
    exact W.iret (v := z1_0) hx hb hr (fun t ht hW => ⟨_, rfl, rfl, ht⟩) (fun _ h => by cases h) dX9_copyOf_45
  · have hB := ifN c_2 hB
    refine lv_iload_n hx hb dX9_copyOf_16 rfl (lv_at hl 3 rfl) ?_
    refine lv_aload_n hx hb dX9_copyOf_17 rfl (lv_at hl 0 rfl) ?_
    refine va_get (D := G) (ci := 9) (v := .ref a_t_opinions) (C := RX9) (T := TX9) (N := 26) hx hb hg inX9 hown hKT hP 0 rfl rfl 3 (by decide) (hg _ gF_X9_13) (fun _ h9 => h9) rfl dX9_copyOf_18 ?_
    refine lv_iconst (v := 0) hx hb dX9_copyOf_21 (by decide) ?_
    refine va_iald hx hb hKT hP 1 0 rfl rfl (vinC (by decide)) dX9_copyOf_22 ?_
    refine lv_imul hx hb dX9_copyOf_23 ?_
    refine lv_aload_n hx hb dX9_copyOf_24 rfl (lv_at hl 0 rfl) ?_
    refine lv_iload_n hx hb dX9_copyOf_25 rfl (lv_at hl 1 rfl) ?_
    refine lv_aload_n hx hb dX9_copyOf_26 rfl (lv_at hl 0 rfl) ?_
    refine lv_iload_n hx hb dX9_copyOf_27 rfl (lv_at hl 2 rfl) ?_
    refine lv_iload hx hb dX9_copyOf_28 (lv_at hl 4 rfl) ?_
    obtain ⟨q3, hq3, hB⟩ := bnd hB
    refine kr_V (WC := wd_X9_lineOf cs a_t a_t_text a_t_opinions a_t_lines a_t_draftBook a_t_scribes a_t_turn a_t_bent a_t_need a_t_now a_t_isKept a_t_far a_t_marginOf a_t_marginSays v_t_trace v_t_typed v_t_needTold v_t_at v_t_start v_t_sort v_t_value v_t_fault v_t_target v_t_went v_t_ender v_t_had v_t_margins g_t_opinions g_t_lines) (As := [.int p2, .int z1_1]) (rest := [.int p1, .ref a_t, .int (z1_0 * (g_t_opinions (0 : Int32).toNatClampNeg))]) (r0 := q3) ⟨hx, hb, hml, hown, hg⟩ (k_X9_lineOf l G cs a_t a_t_text a_t_opinions a_t_lines a_t_draftBook a_t_scribes a_t_turn a_t_bent a_t_need a_t_now a_t_isKept a_t_far a_t_marginOf a_t_marginSays v_t_trace v_t_typed v_t_needTold v_t_at v_t_start v_t_sort v_t_value v_t_fault v_t_target v_t_went v_t_ender v_t_had v_t_margins g_t_opinions g_t_lines p2 z1_1 q3 hq3) gM_X9_113 mI_X9_lineOf (rmk rfl) hP hKT hN 0 rfl rfl [0, 1, 2] rfl rfl hl.1 rfl (Nat.le_of_ble_eq_true rfl) dX9_copyOf_30 ?_
    obtain ⟨q4, hq4, hB⟩ := bnd hB
    refine kr_V (WC := wd_X9_saysOf cs a_t a_t_text a_t_opinions a_t_lines a_t_draftBook a_t_scribes a_t_turn a_t_bent a_t_need a_t_now a_t_isKept a_t_far a_t_marginOf a_t_marginSays v_t_trace v_t_typed v_t_needTold v_t_at v_t_start v_t_sort v_t_value v_t_fault v_t_target v_t_went v_t_ender v_t_had v_t_margins g_t_opinions g_t_turn g_t_bent) (As := [.int p1, .int q3]) (rest := [.int (z1_0 * (g_t_opinions (0 : Int32).toNatClampNeg))]) (r0 := q4) ⟨hx, hb, hml, hown, hg⟩ (k_X9_saysOf l G cs a_t a_t_text a_t_opinions a_t_lines a_t_draftBook a_t_scribes a_t_turn a_t_bent a_t_need a_t_now a_t_isKept a_t_far a_t_marginOf a_t_marginSays v_t_trace v_t_typed v_t_needTold v_t_at v_t_start v_t_sort v_t_value v_t_fault v_t_target v_t_went v_t_ender v_t_had v_t_margins g_t_opinions g_t_turn g_t_bent p1 q3 q4 hq4) gM_X9_116 mI_X9_saysOf (rmk rfl) hP hKT hN 0 rfl rfl [0, 1, 3, 4] rfl rfl hl.1 rfl (Nat.le_of_ble_eq_true rfl) dX9_copyOf_33 ?_
    refine lv_iadd hx hb dX9_copyOf_36 ?_
    refine lv_istore_n (lv' := [(3, .int ((z1_0 * (g_t_opinions (0 : Int32).toNatClampNeg)) + q4)), (0, .ref a_t), (1, .int p1), (2, .int p2), (4, .int z1_1)]) hx hb dX9_copyOf_37 rfl hl (by decide) rfl (fun ls hl => ?_)
    refine lv_iinc (v := z1_1 + (1 : Int32)) (lv' := [(4, .int (z1_1 + (1 : Int32))), (3, .int ((z1_0 * (g_t_opinions (0 : Int32).toNatClampNeg)) + q4)), (0, .ref a_t), (1, .int p1), (2, .int p2)]) hx hb dX9_copyOf_38 hl (k := 4) rfl (inc_ok (by decide)) (by decide) rfl (fun ls hl => ?_)
    refine lv_goto (tgt := 5) hx hb dX9_copyOf_41 (by decide) ?_
    have hK := leafK hB hK
    have hK := elimL hK
    exact hK ls (lv_sub hl [2, 3, 4, 1, 0] rfl)
def wd_X9_disagrees (cs : Nat → ClassId) (a_t a_t_text a_t_opinions a_t_lines a_t_draftBook a_t_scribes a_t_turn a_t_bent a_t_need a_t_now a_t_isKept a_t_far a_t_marginOf a_t_marginSays : Nat) (v_t_trace : Int64) (v_t_typed : Int32) (v_t_needTold : Int32) (v_t_at : Int32) (v_t_start : Int32) (v_t_sort : Int32) (v_t_value : Int32) (v_t_fault : Int32) (v_t_target : Int32) (v_t_went : Int32) (v_t_ender : Int32) (v_t_had : Int32) (v_t_margins : Int32) (g_t_opinions : Nat → Int32) (g_t_lines : Nat → Int32) (g_t_turn : Nat → Int32) (g_t_bent : Nat → Int32) : va_W := [(a_t, .inr (9, [.long v_t_trace, .ref a_t_text, .int v_t_typed, .ref a_t_opinions, .ref a_t_lines, .ref a_t_draftBook, .ref a_t_scribes, .ref a_t_turn, .ref a_t_bent, .ref a_t_need, .int v_t_needTold, .int v_t_at, .int v_t_start, .int v_t_sort, .int v_t_value, .int v_t_fault, .ref a_t_now, .ref a_t_isKept, .int v_t_target, .int v_t_went, .int v_t_ender, .int v_t_had, .ref a_t_far, .ref a_t_marginOf, .ref a_t_marginSays, .int v_t_margins])), (a_t_opinions, .inl (cs 0, 2, .inl g_t_opinions)), (a_t_lines, .inl (cs 0, 2, .inl g_t_lines)), (a_t_turn, .inl (cs 0, 12, .inl g_t_turn)), (a_t_bent, .inl (cs 0, 12, .inl g_t_bent))]
def rm_X9_disagrees : Room := { frames := 1, cells := 0, slots := 0, locals := 24 }
theorem mI_X9_disagrees : MI yX9_disagrees RX9 cX9_disagrees 5 (some .int) 2 := ⟨gI_X9_disagrees, gE_X9_disagrees, gN_X9, gC_X9_disagrees, by decide +kernel⟩
set_option maxHeartbeats 4000000 in
set_option maxRecDepth 100000 in
theorem k_X9_disagrees (l : Launch) (G : va_G) (cs : Nat → ClassId) (a_t a_t_text a_t_opinions a_t_lines a_t_draftBook a_t_scribes a_t_turn a_t_bent a_t_need a_t_now a_t_isKept a_t_far a_t_marginOf a_t_marginSays : Nat) (v_t_trace : Int64) (v_t_typed : Int32) (v_t_needTold : Int32) (v_t_at : Int32) (v_t_start : Int32) (v_t_sort : Int32) (v_t_value : Int32) (v_t_fault : Int32) (v_t_target : Int32) (v_t_went : Int32) (v_t_ender : Int32) (v_t_had : Int32) (v_t_margins : Int32) (g_t_opinions : Nat → Int32) (g_t_lines : Nat → Int32) (g_t_turn : Nat → Int32) (g_t_bent : Nat → Int32) (p1 p2 : Int32) (R0 : Int32) (hB : f_X9_disagrees g_t_opinions g_t_lines g_t_turn g_t_bent p1 p2 = some R0) : Met l yX9_disagrees (.code yX9_disagrees cX9_disagrees 5 (some .int) :: GW) rm_X9_disagrees (PcR G cs [.ref a_t, .int p1, .int p2] (wd_X9_disagrees cs a_t a_t_text a_t_opinions a_t_lines a_t_draftBook a_t_scribes a_t_turn a_t_bent a_t_need a_t_now a_t_isKept a_t_far a_t_marginOf a_t_marginSays v_t_trace v_t_typed v_t_needTold v_t_at v_t_start v_t_sort v_t_value v_t_fault v_t_target v_t_went v_t_ender v_t_had v_t_margins g_t_opinions g_t_lines g_t_turn g_t_bent)) (vp_Si (fun r => r = R0)) 0 0 (fun _ => False) := by
  refine Met.ofW (cc := cX9_disagrees) (maxL := 5) (ret := (some .int)) (by decide) rfl ?_
  intro p e s m args below meth c s₁ B hml hv
  obtain ⟨rfl, hP, hK, hN⟩ := hv
  have hx := B.exec
  have hb := B.bytes
  have hr := B.returns
  have hts := atoms_spec (ws := .code yX9_disagrees cX9_disagrees 5 (some .int) :: GW) B.pre
  have hg : ∀ w ∈ GW, w.before _ s = true := fun w h => hts w (List.mem_cons_of_mem _ h)
  have hown : s.vm.findClass RX9 = some m.cls := findClass_of_methodNamed B.named
  have hlocks := B.notSynchronized
  have hl := lv_entry ([.ref a_t, .int p1, .int p2]) (n := 5) (Nat.le_of_ble_eq_true rfl)
  rw [lg_entry_eq]
  generalize (lg_sl ([.ref a_t, .int p1, .int p2]) ++ List.replicate (5 - (lg_sl ([.ref a_t, .int p1, .int p2])).length) Slot.unset).toArray = ls at hl ⊢
  have hl : lv_has ls 5 [(0, .ref a_t), (1, .int p1), (2, .int p2)] := hl
  obtain ⟨y, hB, hK0⟩ : ∃ y, f_X9_disagrees g_t_opinions g_t_lines g_t_turn g_t_bent p1 p2 = some y ∧ KEnd R0 y := ⟨R0, hB, rfl⟩
  have hKT := hK
  have hK := hK0
  show W p l e rm_X9_disagrees s m ([.ref a_t, .int p1, .int p2] : List Value).toArray below meth c s.heap [] 0 0 (MQ below (vp_Si (fun r => r = R0)) ([.ref a_t, .int p1, .int p2] : List Value).toArray s 0 0 (fun _ => False)) (F0 m 0 ls [])
  refine lv_iconst (v := 0) hx hb dX9_disagrees_0 (by decide) ?_
  refine lv_istore_n (lv' := [(3, .int (0 : Int32)), (0, .ref a_t), (1, .int p1), (2, .int p2)]) hx hb dX9_disagrees_1 rfl hl (by decide) rfl (fun ls hl => ?_)
  refine lv_iconst (v := 0) hx hb dX9_disagrees_2 (by decide) ?_
  refine lv_istore (lv' := [(4, .int (0 : Int32)), (3, .int (0 : Int32)), (0, .ref a_t), (1, .int p1), (2, .int p2)]) hx hb dX9_disagrees_3 hl (by decide) rfl (fun ls hl => ?_)
  refine lp_ind (Wh := fun (z1 : Int32 × Int32) => ∀ (ls : Array Slot), lv_has ls 5 [(0, .ref a_t), (1, .int p1), (2, .int p2), (3, .int z1.1), (4, .int z1.2)] → W p l e rm_X9_disagrees s m ([.ref a_t, .int p1, .int p2] : List Value).toArray below meth c s.heap [] 0 0 (MQ below (vp_Si (fun r => r = R0)) ([.ref a_t, .int p1, .int p2] : List Value).toArray s 0 0 (fun _ => False)) (F0 m 5 ls [])) ?_ FU _ _ hB hK ls (lv_sub hl [2, 3, 4, 1, 0] rfl)
  rintro ⟨z1_0, z1_1⟩ y hB hK ls hl
  have hl : lv_has ls 5 [(0, .ref a_t), (1, .int p1), (2, .int p2), (3, .int z1_0), (4, .int z1_1)] := hl
  refine lv_iload hx hb dX9_disagrees_5 (lv_at hl 4 rfl) ?_
  refine lv_aload_n hx hb dX9_disagrees_7 rfl (lv_at hl 0 rfl) ?_
  refine va_get (D := G) (ci := 9) (v := .ref a_t_lines) (C := RX9) (T := TX9) (N := 26) hx hb hg inX9 hown hKT hP 0 rfl rfl 4 (by decide) (hg _ gF_X9_17) (fun _ h9 => h9) rfl dX9_disagrees_8 ?_
  refine lv_iconst (v := 0) hx hb dX9_disagrees_11 (by decide) ?_
  refine va_iald hx hb hKT hP 2 0 rfl rfl (vinC (by decide)) dX9_disagrees_12 ?_
  refine lv_icmp_ge (tgt := 55) hx hb dX9_disagrees_13 (by decide) (fun c_2 => ?_) (fun c_2 => ?_)
  · have hB := ifP c_2 hB
    refine lv_iload_n hx hb dX9_disagrees_55 rfl (lv_at hl 3 rfl) ?_
    have hK := leafK hB hK
    have hK := elimR hK
    have hK : z1_0 = R0 := hK
    subst hK
    exact W.iret (v := z1_0) hx hb hr (fun t ht hW => ⟨_, rfl, rfl, ht⟩) (fun _ h => by cases h) dX9_disagrees_56
  · have hB := ifN c_2 hB
    refine lv_iload_n hx hb dX9_disagrees_16 rfl (lv_at hl 3 rfl) ?_
    refine lv_aload_n hx hb dX9_disagrees_17 rfl (lv_at hl 0 rfl) ?_
    refine lv_iload_n hx hb dX9_disagrees_18 rfl (lv_at hl 1 rfl) ?_
    refine lv_aload_n hx hb dX9_disagrees_19 rfl (lv_at hl 0 rfl) ?_
    refine lv_iload_n hx hb dX9_disagrees_20 rfl (lv_at hl 2 rfl) ?_
    refine lv_iload hx hb dX9_disagrees_21 (lv_at hl 4 rfl) ?_
    obtain ⟨q3, hq3, hB⟩ := bnd hB
    refine kr_V (WC := wd_X9_lineOf cs a_t a_t_text a_t_opinions a_t_lines a_t_draftBook a_t_scribes a_t_turn a_t_bent a_t_need a_t_now a_t_isKept a_t_far a_t_marginOf a_t_marginSays v_t_trace v_t_typed v_t_needTold v_t_at v_t_start v_t_sort v_t_value v_t_fault v_t_target v_t_went v_t_ender v_t_had v_t_margins g_t_opinions g_t_lines) (As := [.int p2, .int z1_1]) (rest := [.int p1, .ref a_t, .int z1_0]) (r0 := q3) ⟨hx, hb, hml, hown, hg⟩ (k_X9_lineOf l G cs a_t a_t_text a_t_opinions a_t_lines a_t_draftBook a_t_scribes a_t_turn a_t_bent a_t_need a_t_now a_t_isKept a_t_far a_t_marginOf a_t_marginSays v_t_trace v_t_typed v_t_needTold v_t_at v_t_start v_t_sort v_t_value v_t_fault v_t_target v_t_went v_t_ender v_t_had v_t_margins g_t_opinions g_t_lines p2 z1_1 q3 hq3) gM_X9_113 mI_X9_lineOf (rmk rfl) hP hKT hN 0 rfl rfl [0, 1, 2] rfl rfl hl.1 rfl (Nat.le_of_ble_eq_true rfl) dX9_disagrees_23 ?_
    obtain ⟨q4, hq4, hB⟩ := bnd hB
    refine kr_V (WC := wd_X9_saysOf cs a_t a_t_text a_t_opinions a_t_lines a_t_draftBook a_t_scribes a_t_turn a_t_bent a_t_need a_t_now a_t_isKept a_t_far a_t_marginOf a_t_marginSays v_t_trace v_t_typed v_t_needTold v_t_at v_t_start v_t_sort v_t_value v_t_fault v_t_target v_t_went v_t_ender v_t_had v_t_margins g_t_opinions g_t_turn g_t_bent) (As := [.int p1, .int q3]) (rest := [.int z1_0]) (r0 := q4) ⟨hx, hb, hml, hown, hg⟩ (k_X9_saysOf l G cs a_t a_t_text a_t_opinions a_t_lines a_t_draftBook a_t_scribes a_t_turn a_t_bent a_t_need a_t_now a_t_isKept a_t_far a_t_marginOf a_t_marginSays v_t_trace v_t_typed v_t_needTold v_t_at v_t_start v_t_sort v_t_value v_t_fault v_t_target v_t_went v_t_ender v_t_had v_t_margins g_t_opinions g_t_turn g_t_bent p1 q3 q4 hq4) gM_X9_116 mI_X9_saysOf (rmk rfl) hP hKT hN 0 rfl rfl [0, 1, 3, 4] rfl rfl hl.1 rfl (Nat.le_of_ble_eq_true rfl) dX9_disagrees_26 ?_
    refine lv_aload_n hx hb dX9_disagrees_29 rfl (lv_at hl 0 rfl) ?_
    refine lv_iload_n hx hb dX9_disagrees_30 rfl (lv_at hl 2 rfl) ?_
    refine lv_iload hx hb dX9_disagrees_31 (lv_at hl 4 rfl) ?_
    obtain ⟨q5, hq5, hB⟩ := bnd hB
    refine kr_V (WC := wd_X9_lineOf cs a_t a_t_text a_t_opinions a_t_lines a_t_draftBook a_t_scribes a_t_turn a_t_bent a_t_need a_t_now a_t_isKept a_t_far a_t_marginOf a_t_marginSays v_t_trace v_t_typed v_t_needTold v_t_at v_t_start v_t_sort v_t_value v_t_fault v_t_target v_t_went v_t_ender v_t_had v_t_margins g_t_opinions g_t_lines) (As := [.int p2, .int z1_1]) (rest := [.int q4, .int z1_0]) (r0 := q5) ⟨hx, hb, hml, hown, hg⟩ (k_X9_lineOf l G cs a_t a_t_text a_t_opinions a_t_lines a_t_draftBook a_t_scribes a_t_turn a_t_bent a_t_need a_t_now a_t_isKept a_t_far a_t_marginOf a_t_marginSays v_t_trace v_t_typed v_t_needTold v_t_at v_t_start v_t_sort v_t_value v_t_fault v_t_target v_t_went v_t_ender v_t_had v_t_margins g_t_opinions g_t_lines p2 z1_1 q5 hq5) gM_X9_113 mI_X9_lineOf (rmk rfl) hP hKT hN 0 rfl rfl [0, 1, 2] rfl rfl hl.1 rfl (Nat.le_of_ble_eq_true rfl) dX9_disagrees_33 ?_
    refine lv_icmp_ne (tgt := 43) hx hb dX9_disagrees_36 (by decide) (fun c_6 => ?_) (fun c_6 => ?_)
    · have hB := ifN c_6 hB
      refine lv_iconst (v := 1) hx hb dX9_disagrees_43 (by decide) ?_
      refine lv_iload hx hb dX9_disagrees_44 (lv_at hl 4 rfl) ?_
      refine lj_ishl hx hb dX9_disagrees_46 ?_
      refine lv_ior hx hb dX9_disagrees_47 ?_
      refine lv_istore_n (lv' := [(3, .int (z1_0 ||| (jshl (1 : Int32) z1_1))), (0, .ref a_t), (1, .int p1), (2, .int p2), (4, .int z1_1)]) hx hb dX9_disagrees_48 rfl hl (by decide) rfl (fun ls hl => ?_)
      refine lv_iinc (v := z1_1 + (1 : Int32)) (lv' := [(4, .int (z1_1 + (1 : Int32))), (3, .int (z1_0 ||| (jshl (1 : Int32) z1_1))), (0, .ref a_t), (1, .int p1), (2, .int p2)]) hx hb dX9_disagrees_49 hl (k := 4) rfl (inc_ok (by decide)) (by decide) rfl (fun ls hl => ?_)
      refine lv_goto (tgt := 5) hx hb dX9_disagrees_52 (by decide) ?_
      have hK := leafK hB hK
      have hK := elimL hK
      exact hK ls (lv_sub hl [2, 3, 4, 1, 0] rfl)
    · have hB := ifP c_6 hB
      refine lv_iconst (v := 0) hx hb dX9_disagrees_39 (by decide) ?_
      refine lv_goto (tgt := 47) hx hb dX9_disagrees_40 (by decide) ?_
      refine lv_ior hx hb dX9_disagrees_47 ?_
      refine lv_istore_n (lv' := [(3, .int (z1_0 ||| (0 : Int32))), (0, .ref a_t), (1, .int p1), (2, .int p2), (4, .int z1_1)]) hx hb dX9_disagrees_48 rfl hl (by decide) rfl (fun ls hl => ?_)
      refine lv_iinc (v := z1_1 + (1 : Int32)) (lv' := [(4, .int (z1_1 + (1 : Int32))), (3, .int (z1_0 ||| (0 : Int32))), (0, .ref a_t), (1, .int p1), (2, .int p2)]) hx hb dX9_disagrees_49 hl (k := 4) rfl (inc_ok (by decide)) (by decide) rfl (fun ls hl => ?_)
      refine lv_goto (tgt := 5) hx hb dX9_disagrees_52 (by decide) ?_
      have hK := leafK hB hK
      have hK := elimL hK
      exact hK ls (lv_sub hl [2, 3, 4, 1, 0] rfl)
def wd_X9_manyOf (cs : Nat → ClassId) : va_W := []
def rm_X9_manyOf : Room := { frames := 0, cells := 0, slots := 0, locals := 0 }
theorem mS_X9_manyOf : MS yX9_manyOf cX9_manyOf 3 (some .int) 1 := ⟨gS_X9_manyOf, gN_X9, gC_X9_manyOf, by decide +kernel⟩
set_option maxHeartbeats 4000000 in
set_option maxRecDepth 100000 in
theorem k_X9_manyOf (l : Launch) (G : va_G) (cs : Nat → ClassId) (p0 : Int32) (R0 : Int32) (hB : f_X9_manyOf p0 = some R0) : Met l yX9_manyOf (.code yX9_manyOf cX9_manyOf 3 (some .int) :: GW) rm_X9_manyOf (PcR G cs [.int p0] (wd_X9_manyOf cs )) (vp_Si (fun r => r = R0)) 0 0 (fun _ => False) := by
  refine Met.ofW (cc := cX9_manyOf) (maxL := 3) (ret := (some .int)) (by decide) rfl ?_
  intro p e s m args below meth c s₁ B hml hv
  obtain ⟨rfl, hP, hK, hN⟩ := hv
  have hx := B.exec
  have hb := B.bytes
  have hr := B.returns
  have hts := atoms_spec (ws := .code yX9_manyOf cX9_manyOf 3 (some .int) :: GW) B.pre
  have hg : ∀ w ∈ GW, w.before _ s = true := fun w h => hts w (List.mem_cons_of_mem _ h)
  have hown : s.vm.findClass RX9 = some m.cls := findClass_of_methodNamed B.named
  have hlocks := B.notSynchronized
  have hl := lv_entry ([.int p0]) (n := 3) (Nat.le_of_ble_eq_true rfl)
  rw [lg_entry_eq]
  generalize (lg_sl ([.int p0]) ++ List.replicate (3 - (lg_sl ([.int p0])).length) Slot.unset).toArray = ls at hl ⊢
  have hl : lv_has ls 3 [(0, .int p0)] := hl
  obtain ⟨y, hB, hK0⟩ : ∃ y, f_X9_manyOf p0 = some y ∧ KEnd R0 y := ⟨R0, hB, rfl⟩
  have hKT := hK
  have hK := hK0
  show W p l e rm_X9_manyOf s m ([.int p0] : List Value).toArray below meth c s.heap [] 0 0 (MQ below (vp_Si (fun r => r = R0)) ([.int p0] : List Value).toArray s 0 0 (fun _ => False)) (F0 m 0 ls [])
  refine lv_iconst (v := 0) hx hb dX9_manyOf_0 (by decide) ?_
  refine lv_istore_n (lv' := [(1, .int (0 : Int32)), (0, .int p0)]) hx hb dX9_manyOf_1 rfl hl (by decide) rfl (fun ls hl => ?_)
  refine lv_iconst (v := 0) hx hb dX9_manyOf_2 (by decide) ?_
  refine lv_istore_n (lv' := [(2, .int (0 : Int32)), (1, .int (0 : Int32)), (0, .int p0)]) hx hb dX9_manyOf_3 rfl hl (by decide) rfl (fun ls hl => ?_)
  refine lp_ind (Wh := fun (z1 : Int32 × Int32) => ∀ (ls : Array Slot), lv_has ls 3 [(0, .int p0), (1, .int z1.1), (2, .int z1.2)] → W p l e rm_X9_manyOf s m ([.int p0] : List Value).toArray below meth c s.heap [] 0 0 (MQ below (vp_Si (fun r => r = R0)) ([.int p0] : List Value).toArray s 0 0 (fun _ => False)) (F0 m 4 ls [])) ?_ FU _ _ hB hK ls (lv_sub hl [2, 1, 0] rfl)
  rintro ⟨z1_0, z1_1⟩ y hB hK ls hl
  have hl : lv_has ls 3 [(0, .int p0), (1, .int z1_0), (2, .int z1_1)] := hl
  refine lv_iload_n hx hb dX9_manyOf_4 rfl (lv_at hl 2 rfl) ?_
  refine lv_bipush (v := 6) hx hb dX9_manyOf_5 (by decide) ?_
  refine lv_icmp_ge (tgt := 24) hx hb dX9_manyOf_7 (by decide) (fun c_2 => ?_) (fun c_2 => ?_)
  · have hB := ifP c_2 hB
    refine lv_iload_n hx hb dX9_manyOf_24 rfl (lv_at hl 1 rfl) ?_
    have hK := leafK hB hK
    have hK := elimR hK
    have hK : z1_0 = R0 := hK
    subst hK
    exact W.iret (v := z1_0) hx hb hr (fun t ht hW => ⟨_, rfl, rfl, ht⟩) (fun _ h => by cases h) dX9_manyOf_25
  · have hB := ifN c_2 hB
    refine lv_iload_n hx hb dX9_manyOf_10 rfl (lv_at hl 1 rfl) ?_
    refine lv_iload_n hx hb dX9_manyOf_11 rfl (lv_at hl 0 rfl) ?_
    refine lv_iload_n hx hb dX9_manyOf_12 rfl (lv_at hl 2 rfl) ?_
    refine lj_ishr hx hb dX9_manyOf_13 ?_
    refine lv_iconst (v := 1) hx hb dX9_manyOf_14 (by decide) ?_
    refine lv_iand hx hb dX9_manyOf_15 ?_
    refine lv_iadd hx hb dX9_manyOf_16 ?_
    refine lv_istore_n (lv' := [(1, .int (z1_0 + ((jshr p0 z1_1) &&& (1 : Int32)))), (0, .int p0), (2, .int z1_1)]) hx hb dX9_manyOf_17 rfl hl (by decide) rfl (fun ls hl => ?_)
    refine lv_iinc (v := z1_1 + (1 : Int32)) (lv' := [(2, .int (z1_1 + (1 : Int32))), (1, .int (z1_0 + ((jshr p0 z1_1) &&& (1 : Int32)))), (0, .int p0)]) hx hb dX9_manyOf_18 hl (k := 2) rfl (inc_ok (by decide)) (by decide) rfl (fun ls hl => ?_)
    refine lv_goto (tgt := 4) hx hb dX9_manyOf_21 (by decide) ?_
    have hK := leafK hB hK
    have hK := elimL hK
    exact hK ls (lv_sub hl [2, 1, 0] rfl)
def wd_X9_isConvinced (cs : Nat → ClassId) (a_t a_t_text a_t_opinions a_t_lines a_t_draftBook a_t_scribes a_t_turn a_t_bent a_t_need a_t_now a_t_isKept a_t_far a_t_marginOf a_t_marginSays : Nat) (v_t_trace : Int64) (v_t_typed : Int32) (v_t_needTold : Int32) (v_t_at : Int32) (v_t_start : Int32) (v_t_sort : Int32) (v_t_value : Int32) (v_t_fault : Int32) (v_t_target : Int32) (v_t_went : Int32) (v_t_ender : Int32) (v_t_had : Int32) (v_t_margins : Int32) (g_t_opinions : Nat → Int32) (g_t_lines : Nat → Int32) (g_t_turn : Nat → Int32) (g_t_bent : Nat → Int32) (g_t_need : Nat → Int32) : va_W := [(a_t, .inr (9, [.long v_t_trace, .ref a_t_text, .int v_t_typed, .ref a_t_opinions, .ref a_t_lines, .ref a_t_draftBook, .ref a_t_scribes, .ref a_t_turn, .ref a_t_bent, .ref a_t_need, .int v_t_needTold, .int v_t_at, .int v_t_start, .int v_t_sort, .int v_t_value, .int v_t_fault, .ref a_t_now, .ref a_t_isKept, .int v_t_target, .int v_t_went, .int v_t_ender, .int v_t_had, .ref a_t_far, .ref a_t_marginOf, .ref a_t_marginSays, .int v_t_margins])), (a_t_opinions, .inl (cs 0, 2, .inl g_t_opinions)), (a_t_lines, .inl (cs 0, 2, .inl g_t_lines)), (a_t_turn, .inl (cs 0, 12, .inl g_t_turn)), (a_t_bent, .inl (cs 0, 12, .inl g_t_bent)), (a_t_need, .inl (cs 0, 2, .inl g_t_need))]
def rm_X9_isConvinced : Room := { frames := 2, cells := 0, slots := 0, locals := 48 }
theorem mI_X9_isConvinced : MI yX9_isConvinced RX9 cX9_isConvinced 3 (some .boolean) 2 := ⟨gI_X9_isConvinced, gE_X9_isConvinced, gN_X9, gC_X9_isConvinced, by decide +kernel⟩
set_option maxHeartbeats 4000000 in
set_option maxRecDepth 100000 in
theorem k_X9_isConvinced (l : Launch) (G : va_G) (cs : Nat → ClassId) (a_t a_t_text a_t_opinions a_t_lines a_t_draftBook a_t_scribes a_t_turn a_t_bent a_t_need a_t_now a_t_isKept a_t_far a_t_marginOf a_t_marginSays : Nat) (v_t_trace : Int64) (v_t_typed : Int32) (v_t_needTold : Int32) (v_t_at : Int32) (v_t_start : Int32) (v_t_sort : Int32) (v_t_value : Int32) (v_t_fault : Int32) (v_t_target : Int32) (v_t_went : Int32) (v_t_ender : Int32) (v_t_had : Int32) (v_t_margins : Int32) (g_t_opinions : Nat → Int32) (g_t_lines : Nat → Int32) (g_t_turn : Nat → Int32) (g_t_bent : Nat → Int32) (g_t_need : Nat → Int32) (p1 p2 : Int32) (R0 : Int32) (hB : f_X9_isConvinced g_t_opinions g_t_lines g_t_turn g_t_bent g_t_need p1 p2 = some R0) : Met l yX9_isConvinced (.code yX9_isConvinced cX9_isConvinced 3 (some .boolean) :: GW) rm_X9_isConvinced (PcR G cs [.ref a_t, .int p1, .int p2] (wd_X9_isConvinced cs a_t a_t_text a_t_opinions a_t_lines a_t_draftBook a_t_scribes a_t_turn a_t_bent a_t_need a_t_now a_t_isKept a_t_far a_t_marginOf a_t_marginSays v_t_trace v_t_typed v_t_needTold v_t_at v_t_start v_t_sort v_t_value v_t_fault v_t_target v_t_went v_t_ender v_t_had v_t_margins g_t_opinions g_t_lines g_t_turn g_t_bent g_t_need)) (vp_Si (fun r => r = R0)) 0 0 (fun _ => False) := by
  refine Met.ofW (cc := cX9_isConvinced) (maxL := 3) (ret := (some .boolean)) (by decide) rfl ?_
  intro p e s m args below meth c s₁ B hml hv
  obtain ⟨rfl, hP, hK, hN⟩ := hv
  have hx := B.exec
  have hb := B.bytes
  have hr := B.returns
  have hts := atoms_spec (ws := .code yX9_isConvinced cX9_isConvinced 3 (some .boolean) :: GW) B.pre
  have hg : ∀ w ∈ GW, w.before _ s = true := fun w h => hts w (List.mem_cons_of_mem _ h)
  have hown : s.vm.findClass RX9 = some m.cls := findClass_of_methodNamed B.named
  have hlocks := B.notSynchronized
  have hl := lv_entry ([.ref a_t, .int p1, .int p2]) (n := 3) (Nat.le_of_ble_eq_true rfl)
  rw [lg_entry_eq]
  generalize (lg_sl ([.ref a_t, .int p1, .int p2]) ++ List.replicate (3 - (lg_sl ([.ref a_t, .int p1, .int p2])).length) Slot.unset).toArray = ls at hl ⊢
  have hl : lv_has ls 3 [(0, .ref a_t), (1, .int p1), (2, .int p2)] := hl
  obtain ⟨y, hB, hK0⟩ : ∃ y, f_X9_isConvinced g_t_opinions g_t_lines g_t_turn g_t_bent g_t_need p1 p2 = some y ∧ KEnd R0 y := ⟨R0, hB, rfl⟩
  have hKT := hK
  have hK := hK0
  show W p l e rm_X9_isConvinced s m ([.ref a_t, .int p1, .int p2] : List Value).toArray below meth c s.heap [] 0 0 (MQ below (vp_Si (fun r => r = R0)) ([.ref a_t, .int p1, .int p2] : List Value).toArray s 0 0 (fun _ => False)) (F0 m 0 ls [])
  refine lv_aload_n hx hb dX9_isConvinced_0 rfl (lv_at hl 0 rfl) ?_
  refine lv_iload_n hx hb dX9_isConvinced_1 rfl (lv_at hl 1 rfl) ?_
  refine lv_iload_n hx hb dX9_isConvinced_2 rfl (lv_at hl 2 rfl) ?_
  obtain ⟨q1, hq1, hB⟩ := bnd hB
  refine kr_V (WC := wd_X9_disagrees cs a_t a_t_text a_t_opinions a_t_lines a_t_draftBook a_t_scribes a_t_turn a_t_bent a_t_need a_t_now a_t_isKept a_t_far a_t_marginOf a_t_marginSays v_t_trace v_t_typed v_t_needTold v_t_at v_t_start v_t_sort v_t_value v_t_fault v_t_target v_t_went v_t_ender v_t_had v_t_margins g_t_opinions g_t_lines g_t_turn g_t_bent) (As := [.int p1, .int p2]) (rest := []) (r0 := q1) ⟨hx, hb, hml, hown, hg⟩ (k_X9_disagrees l G cs a_t a_t_text a_t_opinions a_t_lines a_t_draftBook a_t_scribes a_t_turn a_t_bent a_t_need a_t_now a_t_isKept a_t_far a_t_marginOf a_t_marginSays v_t_trace v_t_typed v_t_needTold v_t_at v_t_start v_t_sort v_t_value v_t_fault v_t_target v_t_went v_t_ender v_t_had v_t_margins g_t_opinions g_t_lines g_t_turn g_t_bent p1 p2 q1 hq1) gM_X9_119 mI_X9_disagrees (rmk rfl) hP hKT hN 0 rfl rfl [0, 1, 2, 3, 4] rfl rfl hl.1 rfl (Nat.le_of_ble_eq_true rfl) dX9_isConvinced_3 ?_
  obtain ⟨q2, hq2, hB⟩ := bnd hB
  refine kr_S (WC := wd_X9_manyOf cs ) (As := [.int q1]) (rest := []) (r0 := q2) ⟨hx, hb, hml, hown, hg⟩ (k_X9_manyOf l G cs q1 q2 hq2) gM_X9_122 mS_X9_manyOf (rmk rfl) hP hKT hN [] rfl rfl hl.1 rfl (Nat.le_of_ble_eq_true rfl) dX9_isConvinced_6 ?_
  refine lv_aload_n hx hb dX9_isConvinced_9 rfl (lv_at hl 0 rfl) ?_
  refine va_get (D := G) (ci := 9) (v := .ref a_t_need) (C := RX9) (T := TX9) (N := 26) hx hb hg inX9 hown hKT hP 0 rfl rfl 9 (by decide) (hg _ gF_X9_32) (fun _ h9 => h9) rfl dX9_isConvinced_10 ?_
  refine lv_iconst (v := 0) hx hb dX9_isConvinced_13 (by decide) ?_
  refine va_iald hx hb hKT hP 5 0 rfl rfl (vinC (by decide)) dX9_isConvinced_14 ?_
  refine lv_icmp_ge (tgt := 22) hx hb dX9_isConvinced_15 (by decide) (fun c_3 => ?_) (fun c_3 => ?_)
  · have hB := ifP c_3 hB
    refine lv_iconst (v := 0) hx hb dX9_isConvinced_22 (by decide) ?_
    have hK := leafK hB hK
    have hK : (0 : Int32) = R0 := hK
    subst hK
    exact W.zret (v := (0 : Int32)) (ty := .boolean) hx hb hr rfl (fun t ht hW => ⟨_, rfl, rfl, ht⟩) (fun _ h => by cases h) dX9_isConvinced_23
  · have hB := ifN c_3 hB
    refine lv_iconst (v := 1) hx hb dX9_isConvinced_18 (by decide) ?_
    refine lv_goto (tgt := 23) hx hb dX9_isConvinced_19 (by decide) ?_
    have hK := leafK hB hK
    have hK : (1 : Int32) = R0 := hK
    subst hK
    exact W.zret (v := (1 : Int32)) (ty := .boolean) hx hb hr rfl (fun t ht hW => ⟨_, rfl, rfl, ht⟩) (fun _ h => by cases h) dX9_isConvinced_23
def wd_X9_comes (cs : Nat → ClassId) (a_t a_t_text a_t_opinions a_t_lines a_t_draftBook a_t_scribes a_t_turn a_t_bent a_t_need a_t_now a_t_isKept a_t_far a_t_marginOf a_t_marginSays : Nat) (v_t_trace : Int64) (v_t_typed : Int32) (v_t_needTold : Int32) (v_t_at : Int32) (v_t_start : Int32) (v_t_sort : Int32) (v_t_value : Int32) (v_t_fault : Int32) (v_t_target : Int32) (v_t_went : Int32) (v_t_ender : Int32) (v_t_had : Int32) (v_t_margins : Int32) (g_t_opinions : Nat → Int32) (g_t_lines : Nat → Int32) (g_t_turn : Nat → Int32) (g_t_bent : Nat → Int32) (g_t_now : Nat → Int32) : va_W := [(a_t, .inr (9, [.long v_t_trace, .ref a_t_text, .int v_t_typed, .ref a_t_opinions, .ref a_t_lines, .ref a_t_draftBook, .ref a_t_scribes, .ref a_t_turn, .ref a_t_bent, .ref a_t_need, .int v_t_needTold, .int v_t_at, .int v_t_start, .int v_t_sort, .int v_t_value, .int v_t_fault, .ref a_t_now, .ref a_t_isKept, .int v_t_target, .int v_t_went, .int v_t_ender, .int v_t_had, .ref a_t_far, .ref a_t_marginOf, .ref a_t_marginSays, .int v_t_margins])), (a_t_opinions, .inl (cs 0, 2, .inl g_t_opinions)), (a_t_lines, .inl (cs 0, 2, .inl g_t_lines)), (a_t_turn, .inl (cs 0, 12, .inl g_t_turn)), (a_t_bent, .inl (cs 0, 12, .inl g_t_bent)), (a_t_now, .inl (cs 0, 300, .inl g_t_now))]
def rm_X9_comes : Room := { frames := 2, cells := 0, slots := 0, locals := 48 }
theorem mI_X9_comes : MI yX9_comes RX9 cX9_comes 4 (some .int) 1 := ⟨gI_X9_comes, gE_X9_comes, gN_X9, gC_X9_comes, by decide +kernel⟩
set_option maxHeartbeats 4000000 in
set_option maxRecDepth 100000 in
theorem k_X9_comes (l : Launch) (G : va_G) (cs : Nat → ClassId) (a_t a_t_text a_t_opinions a_t_lines a_t_draftBook a_t_scribes a_t_turn a_t_bent a_t_need a_t_now a_t_isKept a_t_far a_t_marginOf a_t_marginSays : Nat) (v_t_trace : Int64) (v_t_typed : Int32) (v_t_needTold : Int32) (v_t_at : Int32) (v_t_start : Int32) (v_t_sort : Int32) (v_t_value : Int32) (v_t_fault : Int32) (v_t_target : Int32) (v_t_went : Int32) (v_t_ender : Int32) (v_t_had : Int32) (v_t_margins : Int32) (g_t_opinions : Nat → Int32) (g_t_lines : Nat → Int32) (g_t_turn : Nat → Int32) (g_t_bent : Nat → Int32) (g_t_now : Nat → Int32) (p1 : Int32) (R0 : Int32) (hB : f_X9_comes g_t_opinions g_t_lines g_t_turn g_t_bent g_t_now p1 = some R0) : Met l yX9_comes (.code yX9_comes cX9_comes 4 (some .int) :: GW) rm_X9_comes (PcR G cs [.ref a_t, .int p1] (wd_X9_comes cs a_t a_t_text a_t_opinions a_t_lines a_t_draftBook a_t_scribes a_t_turn a_t_bent a_t_need a_t_now a_t_isKept a_t_far a_t_marginOf a_t_marginSays v_t_trace v_t_typed v_t_needTold v_t_at v_t_start v_t_sort v_t_value v_t_fault v_t_target v_t_went v_t_ender v_t_had v_t_margins g_t_opinions g_t_lines g_t_turn g_t_bent g_t_now)) (vp_Si (fun r => r = R0)) 0 0 (fun _ => False) := by
  refine Met.ofW (cc := cX9_comes) (maxL := 4) (ret := (some .int)) (by decide) rfl ?_
  intro p e s m args below meth c s₁ B hml hv
  obtain ⟨rfl, hP, hK, hN⟩ := hv
  have hx := B.exec
  have hb := B.bytes
  have hr := B.returns
  have hts := atoms_spec (ws := .code yX9_comes cX9_comes 4 (some .int) :: GW) B.pre
  have hg : ∀ w ∈ GW, w.before _ s = true := fun w h => hts w (List.mem_cons_of_mem _ h)
  have hown : s.vm.findClass RX9 = some m.cls := findClass_of_methodNamed B.named
  have hlocks := B.notSynchronized
  have hl := lv_entry ([.ref a_t, .int p1]) (n := 4) (Nat.le_of_ble_eq_true rfl)
  rw [lg_entry_eq]
  generalize (lg_sl ([.ref a_t, .int p1]) ++ List.replicate (4 - (lg_sl ([.ref a_t, .int p1])).length) Slot.unset).toArray = ls at hl ⊢
  have hl : lv_has ls 4 [(0, .ref a_t), (1, .int p1)] := hl
  obtain ⟨y, hB, hK0⟩ : ∃ y, f_X9_comes g_t_opinions g_t_lines g_t_turn g_t_bent g_t_now p1 = some y ∧ KEnd R0 y := ⟨R0, hB, rfl⟩
  have hKT := hK
  have hK := hK0
  show W p l e rm_X9_comes s m ([.ref a_t, .int p1] : List Value).toArray below meth c s.heap [] 0 0 (MQ below (vp_Si (fun r => r = R0)) ([.ref a_t, .int p1] : List Value).toArray s 0 0 (fun _ => False)) (F0 m 0 ls [])
  refine lv_aload_n hx hb dX9_comes_0 rfl (lv_at hl 0 rfl) ?_
  refine va_get (D := G) (ci := 9) (v := .ref a_t_now) (C := RX9) (T := TX9) (N := 26) hx hb hg inX9 hown hKT hP 0 rfl rfl 16 (by decide) (hg _ gF_X9_35) (fun _ h9 => h9) rfl dX9_comes_1 ?_
  refine lv_iconst (v := 0) hx hb dX9_comes_4 (by decide) ?_
  refine va_iald hx hb hKT hP 5 0 rfl rfl (vinC (by decide)) dX9_comes_5 ?_
  refine lv_istore_n (lv' := [(2, .int (g_t_now (0 : Int32).toNatClampNeg)), (0, .ref a_t), (1, .int p1)]) hx hb dX9_comes_6 rfl hl (by decide) rfl (fun ls hl => ?_)
  refine lv_iconst (v := 1) hx hb dX9_comes_7 (by decide) ?_
  refine lv_istore_n (lv' := [(3, .int (1 : Int32)), (2, .int (g_t_now (0 : Int32).toNatClampNeg)), (0, .ref a_t), (1, .int p1)]) hx hb dX9_comes_8 rfl hl (by decide) rfl (fun ls hl => ?_)
  refine lp_ind (Wh := fun (z1 : Int32 × Int32) => ∀ (ls : Array Slot), lv_has ls 4 [(0, .ref a_t), (1, .int p1), (2, .int z1.1), (3, .int z1.2)] → W p l e rm_X9_comes s m ([.ref a_t, .int p1] : List Value).toArray below meth c s.heap [] 0 0 (MQ below (vp_Si (fun r => r = R0)) ([.ref a_t, .int p1] : List Value).toArray s 0 0 (fun _ => False)) (F0 m 9 ls [])) ?_ FU _ _ hB hK ls (lv_sub hl [2, 3, 1, 0] rfl)
  rintro ⟨z1_0, z1_1⟩ y hB hK ls hl
  have hl : lv_has ls 4 [(0, .ref a_t), (1, .int p1), (2, .int z1_0), (3, .int z1_1)] := hl
  refine lv_iload_n hx hb dX9_comes_9 rfl (lv_at hl 3 rfl) ?_
  refine lv_sipush (v := 4000) hx hb dX9_comes_10 (by decide) ?_
  refine lv_icmp_gt (tgt := 41) hx hb dX9_comes_13 (by decide) (fun c_2 => ?_) (fun c_2 => ?_)
  · have hB := ifP c_2 hB
    refine lv_bipush (v := -9) hx hb dX9_comes_41 (by decide) ?_
    have hK := leafK hB hK
    have hK := elimR hK
    have hK : (-9 : Int32) = R0 := hK
    subst hK
    exact W.iret (v := (-9 : Int32)) hx hb hr (fun t ht hW => ⟨_, rfl, rfl, ht⟩) (fun _ h => by cases h) dX9_comes_43
  · have hB := ifN c_2 hB
    refine lv_aload_n hx hb dX9_comes_16 rfl (lv_at hl 0 rfl) ?_
    refine lv_iload_n hx hb dX9_comes_17 rfl (lv_at hl 1 rfl) ?_
    refine lv_iload_n hx hb dX9_comes_18 rfl (lv_at hl 2 rfl) ?_
    obtain ⟨q3, hq3, hB⟩ := bnd hB
    refine kr_V (WC := wd_X9_copyOf cs a_t a_t_text a_t_opinions a_t_lines a_t_draftBook a_t_scribes a_t_turn a_t_bent a_t_need a_t_now a_t_isKept a_t_far a_t_marginOf a_t_marginSays v_t_trace v_t_typed v_t_needTold v_t_at v_t_start v_t_sort v_t_value v_t_fault v_t_target v_t_went v_t_ender v_t_had v_t_margins g_t_opinions g_t_lines g_t_turn g_t_bent) (As := [.int p1, .int z1_0]) (rest := []) (r0 := q3) ⟨hx, hb, hml, hown, hg⟩ (k_X9_copyOf l G cs a_t a_t_text a_t_opinions a_t_lines a_t_draftBook a_t_scribes a_t_turn a_t_bent a_t_need a_t_now a_t_isKept a_t_far a_t_marginOf a_t_marginSays v_t_trace v_t_typed v_t_needTold v_t_at v_t_start v_t_sort v_t_value v_t_fault v_t_target v_t_went v_t_ender v_t_had v_t_margins g_t_opinions g_t_lines g_t_turn g_t_bent p1 z1_0 q3 hq3) gM_X9_126 mI_X9_copyOf (rmk rfl) hP hKT hN 0 rfl rfl [0, 1, 2, 3, 4] rfl rfl hl.1 rfl (Nat.le_of_ble_eq_true rfl) dX9_comes_19 ?_
    refine lv_istore_n (lv' := [(2, .int q3), (0, .ref a_t), (1, .int p1), (3, .int z1_1)]) hx hb dX9_comes_22 rfl hl (by decide) rfl (fun ls hl => ?_)
    refine lv_iload_n hx hb dX9_comes_23 rfl (lv_at hl 0 rfl) ?_
    refine lv_aload_n hx hb dX9_comes_24 rfl (lv_at hl 1 rfl) ?_
    refine va_get (D := G) (ci := 9) (v := .ref a_t_now) (C := RX9) (T := TX9) (N := 26) hx hb hg inX9 hown hKT hP 0 rfl rfl 16 (by decide) (hg _ gF_X9_35) (fun _ h9 => h9) rfl dX9_comes_25 ?_
    refine lv_iconst (v := 0) hx hb dX9_comes_28 (by decide) ?_
    refine va_iald hx hb hKT hP 5 0 rfl rfl (vinC (by decide)) dX9_comes_29 ?_
    refine lv_icmp_ne (tgt := 35) hx hb dX9_comes_30 (by decide) (fun c_4 => ?_) (fun c_4 => ?_)
    · have hB := ifN c_4 hB
      refine lv_iinc (v := z1_1 + (1 : Int32)) (lv' := [(3, .int (z1_1 + (1 : Int32))), (2, .int q3), (0, .ref a_t), (1, .int p1)]) hx hb dX9_comes_35 hl (k := 3) rfl (inc_ok (by decide)) (by decide) rfl (fun ls hl => ?_)
      refine lv_goto (tgt := 9) hx hb dX9_comes_38 (by decide) ?_
      have hK := leafK hB hK
      have hK := elimL hK
      exact hK ls (lv_sub hl [2, 3, 1, 0] rfl)
    · have hB := ifP c_4 hB
      refine lv_iload_n hx hb dX9_comes_33 rfl (lv_at hl 3 rfl) ?_
      have hK := leafK hB hK
      have hK := elimR hK
      have hK : z1_1 = R0 := hK
      subst hK
      exact W.iret (v := z1_1) hx hb hr (fun t ht hW => ⟨_, rfl, rfl, ht⟩) (fun _ h => by cases h) dX9_comes_34
def wd_X9_line (cs : Nat → ClassId) (a_t a_t_text a_t_opinions a_t_lines a_t_draftBook a_t_scribes a_t_turn a_t_bent a_t_need a_t_now a_t_isKept a_t_far a_t_marginOf a_t_marginSays : Nat) (v_t_trace : Int64) (v_t_typed : Int32) (v_t_needTold : Int32) (v_t_at : Int32) (v_t_start : Int32) (v_t_sort : Int32) (v_t_value : Int32) (v_t_fault : Int32) (v_t_target : Int32) (v_t_went : Int32) (v_t_ender : Int32) (v_t_had : Int32) (v_t_margins : Int32) (g_t_opinions : Nat → Int32) (g_t_lines : Nat → Int32) (g_t_now : Nat → Int32) : va_W := [(a_t, .inr (9, [.long v_t_trace, .ref a_t_text, .int v_t_typed, .ref a_t_opinions, .ref a_t_lines, .ref a_t_draftBook, .ref a_t_scribes, .ref a_t_turn, .ref a_t_bent, .ref a_t_need, .int v_t_needTold, .int v_t_at, .int v_t_start, .int v_t_sort, .int v_t_value, .int v_t_fault, .ref a_t_now, .ref a_t_isKept, .int v_t_target, .int v_t_went, .int v_t_ender, .int v_t_had, .ref a_t_far, .ref a_t_marginOf, .ref a_t_marginSays, .int v_t_margins])), (a_t_opinions, .inl (cs 0, 2, .inl g_t_opinions)), (a_t_lines, .inl (cs 0, 2, .inl g_t_lines)), (a_t_now, .inl (cs 0, 300, .inl g_t_now))]
def rm_X9_line : Room := { frames := 2, cells := 0, slots := 0, locals := 43 }
theorem mI_X9_line : MI yX9_line RX9 cX9_line 3 (some .int) 2 := ⟨gI_X9_line, gE_X9_line, gN_X9, gC_X9_line, by decide +kernel⟩
set_option maxHeartbeats 4000000 in
set_option maxRecDepth 100000 in
theorem k_X9_line (l : Launch) (G : va_G) (cs : Nat → ClassId) (a_t a_t_text a_t_opinions a_t_lines a_t_draftBook a_t_scribes a_t_turn a_t_bent a_t_need a_t_now a_t_isKept a_t_far a_t_marginOf a_t_marginSays : Nat) (v_t_trace : Int64) (v_t_typed : Int32) (v_t_needTold : Int32) (v_t_at : Int32) (v_t_start : Int32) (v_t_sort : Int32) (v_t_value : Int32) (v_t_fault : Int32) (v_t_target : Int32) (v_t_went : Int32) (v_t_ender : Int32) (v_t_had : Int32) (v_t_margins : Int32) (g_t_opinions : Nat → Int32) (g_t_lines : Nat → Int32) (g_t_now : Nat → Int32) (p1 p2 : Int32) (R0 : Int32) (hB : f_X9_line v_t_target g_t_opinions g_t_lines g_t_now p1 p2 = some R0) : Met l yX9_line (.code yX9_line cX9_line 3 (some .int) :: GW) rm_X9_line (PcR G cs [.ref a_t, .int p1, .int p2] (wd_X9_line cs a_t a_t_text a_t_opinions a_t_lines a_t_draftBook a_t_scribes a_t_turn a_t_bent a_t_need a_t_now a_t_isKept a_t_far a_t_marginOf a_t_marginSays v_t_trace v_t_typed v_t_needTold v_t_at v_t_start v_t_sort v_t_value v_t_fault v_t_target v_t_went v_t_ender v_t_had v_t_margins g_t_opinions g_t_lines g_t_now)) (vp_Si (fun r => r = R0)) 0 0 (fun _ => False) := by
  refine Met.ofW (cc := cX9_line) (maxL := 3) (ret := (some .int)) (by decide) rfl ?_
  intro p e s m args below meth c s₁ B hml hv
  obtain ⟨rfl, hP, hK, hN⟩ := hv
  have hx := B.exec
  have hb := B.bytes
  have hr := B.returns
  have hts := atoms_spec (ws := .code yX9_line cX9_line 3 (some .int) :: GW) B.pre
  have hg : ∀ w ∈ GW, w.before _ s = true := fun w h => hts w (List.mem_cons_of_mem _ h)
  have hown : s.vm.findClass RX9 = some m.cls := findClass_of_methodNamed B.named
  have hlocks := B.notSynchronized
  have hl := lv_entry ([.ref a_t, .int p1, .int p2]) (n := 3) (Nat.le_of_ble_eq_true rfl)
  rw [lg_entry_eq]
  generalize (lg_sl ([.ref a_t, .int p1, .int p2]) ++ List.replicate (3 - (lg_sl ([.ref a_t, .int p1, .int p2])).length) Slot.unset).toArray = ls at hl ⊢
  have hl : lv_has ls 3 [(0, .ref a_t), (1, .int p1), (2, .int p2)] := hl
  obtain ⟨y, hB, hK0⟩ : ∃ y, f_X9_line v_t_target g_t_opinions g_t_lines g_t_now p1 p2 = some y ∧ KEnd R0 y := ⟨R0, hB, rfl⟩
  have hKT := hK
  have hK := hK0
  show W p l e rm_X9_line s m ([.ref a_t, .int p1, .int p2] : List Value).toArray below meth c s.heap [] 0 0 (MQ below (vp_Si (fun r => r = R0)) ([.ref a_t, .int p1, .int p2] : List Value).toArray s 0 0 (fun _ => False)) (F0 m 0 ls [])
  refine lv_aload_n hx hb dX9_line_0 rfl (lv_at hl 0 rfl) ?_
  refine lv_iload_n hx hb dX9_line_1 rfl (lv_at hl 1 rfl) ?_
  obtain ⟨q1, hq1, hB⟩ := bnd hB
  refine kr_V (WC := wd_X9_isLine cs a_t a_t_text a_t_opinions a_t_lines a_t_draftBook a_t_scribes a_t_turn a_t_bent a_t_need a_t_now a_t_isKept a_t_far a_t_marginOf a_t_marginSays v_t_trace v_t_typed v_t_needTold v_t_at v_t_start v_t_sort v_t_value v_t_fault v_t_target v_t_went v_t_ender v_t_had v_t_margins g_t_lines) (As := [.int p1]) (rest := []) (r0 := q1) ⟨hx, hb, hml, hown, hg⟩ (k_X9_isLine l G cs a_t a_t_text a_t_opinions a_t_lines a_t_draftBook a_t_scribes a_t_turn a_t_bent a_t_need a_t_now a_t_isKept a_t_far a_t_marginOf a_t_marginSays v_t_trace v_t_typed v_t_needTold v_t_at v_t_start v_t_sort v_t_value v_t_fault v_t_target v_t_went v_t_ender v_t_had v_t_margins g_t_lines p1 q1 hq1) gM_X9_129 mI_X9_isLine (rmk rfl) hP hKT hN 0 rfl rfl [0, 2] rfl rfl hl.1 rfl (Nat.le_of_ble_eq_true rfl) dX9_line_2 ?_
  refine lv_if_eq (tgt := 17) hx hb dX9_line_5 (by decide) (fun c_2 => ?_) (fun c_2 => ?_)
  · have hB := ifP c_2 hB
    refine lv_iconst (v := -1) hx hb dX9_line_17 (by decide) ?_
    have hK := leafK hB hK
    have hK : (-1 : Int32) = R0 := hK
    subst hK
    exact W.iret (v := (-1 : Int32)) hx hb hr (fun t ht hW => ⟨_, rfl, rfl, ht⟩) (fun _ h => by cases h) dX9_line_18
  · have hB := ifN c_2 hB
    refine lv_iload_n hx hb dX9_line_8 rfl (lv_at hl 2 rfl) ?_
    refine lv_iconst (v := 0) hx hb dX9_line_9 (by decide) ?_
    refine lv_iconst (v := 1) hx hb dX9_line_10 (by decide) ?_
    obtain ⟨q3, hq3, hB⟩ := bnd hB
    refine kr_S (WC := wd_X9_in cs ) (As := [.int p2, .int (0 : Int32), .int (1 : Int32)]) (rest := []) (r0 := q3) ⟨hx, hb, hml, hown, hg⟩ (k_X9_in l G cs p2 (0 : Int32) (1 : Int32) q3 hq3) gM_X9_57 mS_X9_in (rmk rfl) hP hKT hN [] rfl rfl hl.1 rfl (Nat.le_of_ble_eq_true rfl) dX9_line_11 ?_
    refine lv_if_ne (tgt := 19) hx hb dX9_line_14 (by decide) (fun c_4 => ?_) (fun c_4 => ?_)
    · have hB := ifN c_4 hB
      refine lv_aload_n hx hb dX9_line_19 rfl (lv_at hl 0 rfl) ?_
      refine lv_iload_n hx hb dX9_line_20 rfl (lv_at hl 2 rfl) ?_
      refine lv_if_ne (tgt := 33) hx hb dX9_line_21 (by decide) (fun c_5 => ?_) (fun c_5 => ?_)
      · have hB := ifN c_5 hB
        refine lv_aload_n hx hb dX9_line_33 rfl (lv_at hl 0 rfl) ?_
        refine va_get (D := G) (ci := 9) (v := .int v_t_target) (C := RX9) (T := TX9) (N := 26) hx hb hg inX9 hown hKT hP 0 rfl rfl 18 (by decide) (hg _ gF_X9_99) (fun _ h9 => h9) rfl dX9_line_34 ?_
        refine lv_iload_n hx hb dX9_line_37 rfl (lv_at hl 1 rfl) ?_
        obtain ⟨q6, hq6, hB⟩ := bnd hB
        refine kr_V (WC := wd_X9_lineOf cs a_t a_t_text a_t_opinions a_t_lines a_t_draftBook a_t_scribes a_t_turn a_t_bent a_t_need a_t_now a_t_isKept a_t_far a_t_marginOf a_t_marginSays v_t_trace v_t_typed v_t_needTold v_t_at v_t_start v_t_sort v_t_value v_t_fault v_t_target v_t_went v_t_ender v_t_had v_t_margins g_t_opinions g_t_lines) (As := [.int v_t_target, .int p1]) (rest := []) (r0 := q6) ⟨hx, hb, hml, hown, hg⟩ (k_X9_lineOf l G cs a_t a_t_text a_t_opinions a_t_lines a_t_draftBook a_t_scribes a_t_turn a_t_bent a_t_need a_t_now a_t_isKept a_t_far a_t_marginOf a_t_marginSays v_t_trace v_t_typed v_t_needTold v_t_at v_t_start v_t_sort v_t_value v_t_fault v_t_target v_t_went v_t_ender v_t_had v_t_margins g_t_opinions g_t_lines v_t_target p1 q6 hq6) gM_X9_113 mI_X9_lineOf (rmk rfl) hP hKT hN 0 rfl rfl [0, 1, 2] rfl rfl hl.1 rfl (Nat.le_of_ble_eq_true rfl) dX9_line_38 ?_
        have hK := leafK hB hK
        have hK : q6 = R0 := hK
        subst hK
        exact W.iret (v := q6) hx hb hr (fun t ht hW => ⟨_, rfl, rfl, ht⟩) (fun _ h => by cases h) dX9_line_41
      · have hB := ifP c_5 hB
        refine lv_aload_n hx hb dX9_line_24 rfl (lv_at hl 0 rfl) ?_
        refine va_get (D := G) (ci := 9) (v := .ref a_t_now) (C := RX9) (T := TX9) (N := 26) hx hb hg inX9 hown hKT hP 0 rfl rfl 16 (by decide) (hg _ gF_X9_35) (fun _ h9 => h9) rfl dX9_line_25 ?_
        refine lv_iconst (v := 0) hx hb dX9_line_28 (by decide) ?_
        refine va_iald hx hb hKT hP 3 0 rfl rfl (vinC (by decide)) dX9_line_29 ?_
        refine lv_goto (tgt := 37) hx hb dX9_line_30 (by decide) ?_
        refine lv_iload_n hx hb dX9_line_37 rfl (lv_at hl 1 rfl) ?_
        obtain ⟨q7, hq7, hB⟩ := bnd hB
        refine kr_V (WC := wd_X9_lineOf cs a_t a_t_text a_t_opinions a_t_lines a_t_draftBook a_t_scribes a_t_turn a_t_bent a_t_need a_t_now a_t_isKept a_t_far a_t_marginOf a_t_marginSays v_t_trace v_t_typed v_t_needTold v_t_at v_t_start v_t_sort v_t_value v_t_fault v_t_target v_t_went v_t_ender v_t_had v_t_margins g_t_opinions g_t_lines) (As := [.int (g_t_now (0 : Int32).toNatClampNeg), .int p1]) (rest := []) (r0 := q7) ⟨hx, hb, hml, hown, hg⟩ (k_X9_lineOf l G cs a_t a_t_text a_t_opinions a_t_lines a_t_draftBook a_t_scribes a_t_turn a_t_bent a_t_need a_t_now a_t_isKept a_t_far a_t_marginOf a_t_marginSays v_t_trace v_t_typed v_t_needTold v_t_at v_t_start v_t_sort v_t_value v_t_fault v_t_target v_t_went v_t_ender v_t_had v_t_margins g_t_opinions g_t_lines (g_t_now (0 : Int32).toNatClampNeg) p1 q7 hq7) gM_X9_113 mI_X9_lineOf (rmk rfl) hP hKT hN 0 rfl rfl [0, 1, 2] rfl rfl hl.1 rfl (Nat.le_of_ble_eq_true rfl) dX9_line_38 ?_
        have hK := leafK hB hK
        have hK : q7 = R0 := hK
        subst hK
        exact W.iret (v := q7) hx hb hr (fun t ht hW => ⟨_, rfl, rfl, ht⟩) (fun _ h => by cases h) dX9_line_41
    · have hB := ifP c_4 hB
      refine lv_iconst (v := -1) hx hb dX9_line_17 (by decide) ?_
      have hK := leafK hB hK
      have hK : (-1 : Int32) = R0 := hK
      subst hK
      exact W.iret (v := (-1 : Int32)) hx hb hr (fun t ht hW => ⟨_, rfl, rfl, ht⟩) (fun _ h => by cases h) dX9_line_18
def wd_X9_scribe (cs : Nat → ClassId) (a_t a_t_text a_t_opinions a_t_lines a_t_draftBook a_t_scribes a_t_turn a_t_bent a_t_need a_t_now a_t_isKept a_t_far a_t_marginOf a_t_marginSays : Nat) (v_t_trace : Int64) (v_t_typed : Int32) (v_t_needTold : Int32) (v_t_at : Int32) (v_t_start : Int32) (v_t_sort : Int32) (v_t_value : Int32) (v_t_fault : Int32) (v_t_target : Int32) (v_t_went : Int32) (v_t_ender : Int32) (v_t_had : Int32) (v_t_margins : Int32) (g_t_opinions : Nat → Int32) (g_t_lines : Nat → Int32) (g_t_scribes : Nat → Int32) (g_t_turn : Nat → Int32) (g_t_bent : Nat → Int32) (g_t_need : Nat → Int32) (g_t_now : Nat → Int32) : va_W := [(a_t, .inr (9, [.long v_t_trace, .ref a_t_text, .int v_t_typed, .ref a_t_opinions, .ref a_t_lines, .ref a_t_draftBook, .ref a_t_scribes, .ref a_t_turn, .ref a_t_bent, .ref a_t_need, .int v_t_needTold, .int v_t_at, .int v_t_start, .int v_t_sort, .int v_t_value, .int v_t_fault, .ref a_t_now, .ref a_t_isKept, .int v_t_target, .int v_t_went, .int v_t_ender, .int v_t_had, .ref a_t_far, .ref a_t_marginOf, .ref a_t_marginSays, .int v_t_margins])), (a_t_opinions, .inl (cs 0, 2, .inl g_t_opinions)), (a_t_lines, .inl (cs 0, 2, .inl g_t_lines)), (a_t_scribes, .inl (cs 0, 2, .inl g_t_scribes)), (a_t_turn, .inl (cs 0, 12, .inl g_t_turn)), (a_t_bent, .inl (cs 0, 12, .inl g_t_bent)), (a_t_need, .inl (cs 0, 2, .inl g_t_need)), (a_t_now, .inl (cs 0, 300, .inl g_t_now))]
def rm_X9_scribe : Room := { frames := 3, cells := 0, slots := 0, locals := 71 }
theorem mI_X9_scribe : MI yX9_scribe RX9 cX9_scribe 3 (some .int) 2 := ⟨gI_X9_scribe, gE_X9_scribe, gN_X9, gC_X9_scribe, by decide +kernel⟩
set_option maxHeartbeats 4000000 in
set_option maxRecDepth 100000 in
theorem k_X9_scribe (l : Launch) (G : va_G) (cs : Nat → ClassId) (a_t a_t_text a_t_opinions a_t_lines a_t_draftBook a_t_scribes a_t_turn a_t_bent a_t_need a_t_now a_t_isKept a_t_far a_t_marginOf a_t_marginSays : Nat) (v_t_trace : Int64) (v_t_typed : Int32) (v_t_needTold : Int32) (v_t_at : Int32) (v_t_start : Int32) (v_t_sort : Int32) (v_t_value : Int32) (v_t_fault : Int32) (v_t_target : Int32) (v_t_went : Int32) (v_t_ender : Int32) (v_t_had : Int32) (v_t_margins : Int32) (g_t_opinions : Nat → Int32) (g_t_lines : Nat → Int32) (g_t_scribes : Nat → Int32) (g_t_turn : Nat → Int32) (g_t_bent : Nat → Int32) (g_t_need : Nat → Int32) (g_t_now : Nat → Int32) (p1 p2 : Int32) (R0 : Int32) (hB : f_X9_scribe g_t_opinions g_t_lines g_t_scribes g_t_turn g_t_bent g_t_need g_t_now p1 p2 = some R0) : Met l yX9_scribe (.code yX9_scribe cX9_scribe 3 (some .int) :: GW) rm_X9_scribe (PcR G cs [.ref a_t, .int p1, .int p2] (wd_X9_scribe cs a_t a_t_text a_t_opinions a_t_lines a_t_draftBook a_t_scribes a_t_turn a_t_bent a_t_need a_t_now a_t_isKept a_t_far a_t_marginOf a_t_marginSays v_t_trace v_t_typed v_t_needTold v_t_at v_t_start v_t_sort v_t_value v_t_fault v_t_target v_t_went v_t_ender v_t_had v_t_margins g_t_opinions g_t_lines g_t_scribes g_t_turn g_t_bent g_t_need g_t_now)) (vp_Si (fun r => r = R0)) 0 0 (fun _ => False) := by
  refine Met.ofW (cc := cX9_scribe) (maxL := 3) (ret := (some .int)) (by decide) rfl ?_
  intro p e s m args below meth c s₁ B hml hv
  obtain ⟨rfl, hP, hK, hN⟩ := hv
  have hx := B.exec
  have hb := B.bytes
  have hr := B.returns
  have hts := atoms_spec (ws := .code yX9_scribe cX9_scribe 3 (some .int) :: GW) B.pre
  have hg : ∀ w ∈ GW, w.before _ s = true := fun w h => hts w (List.mem_cons_of_mem _ h)
  have hown : s.vm.findClass RX9 = some m.cls := findClass_of_methodNamed B.named
  have hlocks := B.notSynchronized
  have hl := lv_entry ([.ref a_t, .int p1, .int p2]) (n := 3) (Nat.le_of_ble_eq_true rfl)
  rw [lg_entry_eq]
  generalize (lg_sl ([.ref a_t, .int p1, .int p2]) ++ List.replicate (3 - (lg_sl ([.ref a_t, .int p1, .int p2])).length) Slot.unset).toArray = ls at hl ⊢
  have hl : lv_has ls 3 [(0, .ref a_t), (1, .int p1), (2, .int p2)] := hl
  obtain ⟨y, hB, hK0⟩ : ∃ y, f_X9_scribe g_t_opinions g_t_lines g_t_scribes g_t_turn g_t_bent g_t_need g_t_now p1 p2 = some y ∧ KEnd R0 y := ⟨R0, hB, rfl⟩
  have hKT := hK
  have hK := hK0
  show W p l e rm_X9_scribe s m ([.ref a_t, .int p1, .int p2] : List Value).toArray below meth c s.heap [] 0 0 (MQ below (vp_Si (fun r => r = R0)) ([.ref a_t, .int p1, .int p2] : List Value).toArray s 0 0 (fun _ => False)) (F0 m 0 ls [])
  refine lv_aload_n hx hb dX9_scribe_0 rfl (lv_at hl 0 rfl) ?_
  refine lv_iload_n hx hb dX9_scribe_1 rfl (lv_at hl 1 rfl) ?_
  obtain ⟨q1, hq1, hB⟩ := bnd hB
  refine kr_V (WC := wd_X9_isScribe cs a_t a_t_text a_t_opinions a_t_lines a_t_draftBook a_t_scribes a_t_turn a_t_bent a_t_need a_t_now a_t_isKept a_t_far a_t_marginOf a_t_marginSays v_t_trace v_t_typed v_t_needTold v_t_at v_t_start v_t_sort v_t_value v_t_fault v_t_target v_t_went v_t_ender v_t_had v_t_margins g_t_scribes) (As := [.int p1]) (rest := []) (r0 := q1) ⟨hx, hb, hml, hown, hg⟩ (k_X9_isScribe l G cs a_t a_t_text a_t_opinions a_t_lines a_t_draftBook a_t_scribes a_t_turn a_t_bent a_t_need a_t_now a_t_isKept a_t_far a_t_marginOf a_t_marginSays v_t_trace v_t_typed v_t_needTold v_t_at v_t_start v_t_sort v_t_value v_t_fault v_t_target v_t_went v_t_ender v_t_had v_t_margins g_t_scribes p1 q1 hq1) gM_X9_133 mI_X9_isScribe (rmk rfl) hP hKT hN 0 rfl rfl [0, 3] rfl rfl hl.1 rfl (Nat.le_of_ble_eq_true rfl) dX9_scribe_2 ?_
  refine lv_if_ne (tgt := 10) hx hb dX9_scribe_5 (by decide) (fun c_2 => ?_) (fun c_2 => ?_)
  · have hB := ifN c_2 hB
    refine lv_iload_n hx hb dX9_scribe_10 rfl (lv_at hl 2 rfl) ?_
    by_cases c_10_0 : p2 = 0
    · have hB := ifP c_10_0 hB
      refine lv_tableIn (off := 41) (tgt := 52) hx hb dX9_scribe_11 (by rw [c_10_0]; decide) (by rw [c_10_0]; decide) (by rw [c_10_0]; decide) (by decide) ?_
      refine lv_aload_n hx hb dX9_scribe_52 rfl (lv_at hl 0 rfl) ?_
      refine va_get (D := G) (ci := 9) (v := .ref a_t_turn) (C := RX9) (T := TX9) (N := 26) hx hb hg inX9 hown hKT hP 0 rfl rfl 7 (by decide) (hg _ gF_X9_26) (fun _ h9 => h9) rfl dX9_scribe_53 ?_
      refine lv_iload_n hx hb dX9_scribe_56 rfl (lv_at hl 1 rfl) ?_
      obtain ⟨h_3, hB⟩ := ifS hB
      refine va_iald hx hb hKT hP 4 0 rfl rfl h_3 dX9_scribe_57 ?_
      have hK := leafK hB hK
      have hK : (g_t_turn p1.toNatClampNeg) = R0 := hK
      subst hK
      exact W.iret (v := g_t_turn p1.toNatClampNeg) hx hb hr (fun t ht hW => ⟨_, rfl, rfl, ht⟩) (fun _ h => by cases h) dX9_scribe_58
    have hB := ifN c_10_0 hB
    by_cases c_10_1 : p2 = 1
    · have hB := ifP c_10_1 hB
      refine lv_tableIn (off := 48) (tgt := 59) hx hb dX9_scribe_11 (by rw [c_10_1]; decide) (by rw [c_10_1]; decide) (by rw [c_10_1]; decide) (by decide) ?_
      refine lv_aload_n hx hb dX9_scribe_59 rfl (lv_at hl 0 rfl) ?_
      refine va_get (D := G) (ci := 9) (v := .ref a_t_bent) (C := RX9) (T := TX9) (N := 26) hx hb hg inX9 hown hKT hP 0 rfl rfl 8 (by decide) (hg _ gF_X9_29) (fun _ h9 => h9) rfl dX9_scribe_60 ?_
      refine lv_iload_n hx hb dX9_scribe_63 rfl (lv_at hl 1 rfl) ?_
      obtain ⟨h_4, hB⟩ := ifS hB
      refine va_iald hx hb hKT hP 5 0 rfl rfl h_4 dX9_scribe_64 ?_
      have hK := leafK hB hK
      have hK : (g_t_bent p1.toNatClampNeg) = R0 := hK
      subst hK
      exact W.iret (v := g_t_bent p1.toNatClampNeg) hx hb hr (fun t ht hW => ⟨_, rfl, rfl, ht⟩) (fun _ h => by cases h) dX9_scribe_65
    have hB := ifN c_10_1 hB
    by_cases c_10_2 : p2 = 2
    · have hB := ifP c_10_2 hB
      refine lv_tableIn (off := 55) (tgt := 66) hx hb dX9_scribe_11 (by rw [c_10_2]; decide) (by rw [c_10_2]; decide) (by rw [c_10_2]; decide) (by decide) ?_
      refine lv_aload_n hx hb dX9_scribe_66 rfl (lv_at hl 0 rfl) ?_
      refine va_get (D := G) (ci := 9) (v := .ref a_t_now) (C := RX9) (T := TX9) (N := 26) hx hb hg inX9 hown hKT hP 0 rfl rfl 16 (by decide) (hg _ gF_X9_35) (fun _ h9 => h9) rfl dX9_scribe_67 ?_
      refine lv_bipush (v := 8) hx hb dX9_scribe_70 (by decide) ?_
      refine va_iald hx hb hKT hP 7 0 rfl rfl (vinC (by decide)) dX9_scribe_72 ?_
      refine lv_iload_n hx hb dX9_scribe_73 rfl (lv_at hl 1 rfl) ?_
      refine lj_ishr hx hb dX9_scribe_74 ?_
      refine lv_iconst (v := 1) hx hb dX9_scribe_75 (by decide) ?_
      refine lv_iand hx hb dX9_scribe_76 ?_
      have hK := leafK hB hK
      have hK : ((jshr (g_t_now (8 : Int32).toNatClampNeg) p1) &&& (1 : Int32)) = R0 := hK
      subst hK
      exact W.iret (v := (jshr (g_t_now (8 : Int32).toNatClampNeg) p1) &&& (1 : Int32)) hx hb hr (fun t ht hW => ⟨_, rfl, rfl, ht⟩) (fun _ h => by cases h) dX9_scribe_77
    have hB := ifN c_10_2 hB
    by_cases c_10_3 : p2 = 3
    · have hB := ifP c_10_3 hB
      refine lv_tableIn (off := 67) (tgt := 78) hx hb dX9_scribe_11 (by rw [c_10_3]; decide) (by rw [c_10_3]; decide) (by rw [c_10_3]; decide) (by decide) ?_
      refine lv_aload_n hx hb dX9_scribe_78 rfl (lv_at hl 0 rfl) ?_
      refine va_get (D := G) (ci := 9) (v := .ref a_t_now) (C := RX9) (T := TX9) (N := 26) hx hb hg inX9 hown hKT hP 0 rfl rfl 16 (by decide) (hg _ gF_X9_35) (fun _ h9 => h9) rfl dX9_scribe_79 ?_
      refine lv_iconst (v := 2) hx hb dX9_scribe_82 (by decide) ?_
      refine lv_iload_n hx hb dX9_scribe_83 rfl (lv_at hl 1 rfl) ?_
      refine lv_iadd hx hb dX9_scribe_84 ?_
      obtain ⟨h_5, hB⟩ := ifS hB
      refine va_iald hx hb hKT hP 7 0 rfl rfl h_5 dX9_scribe_85 ?_
      have hK := leafK hB hK
      have hK : (g_t_now ((2 : Int32) + p1).toNatClampNeg) = R0 := hK
      subst hK
      exact W.iret (v := g_t_now ((2 : Int32) + p1).toNatClampNeg) hx hb hr (fun t ht hW => ⟨_, rfl, rfl, ht⟩) (fun _ h => by cases h) dX9_scribe_86
    have hB := ifN c_10_3 hB
    by_cases c_10_4 : p2 = 4
    · have hB := ifP c_10_4 hB
      refine lv_tableIn (off := 76) (tgt := 87) hx hb dX9_scribe_11 (by rw [c_10_4]; decide) (by rw [c_10_4]; decide) (by rw [c_10_4]; decide) (by decide) ?_
      refine lv_aload_n hx hb dX9_scribe_87 rfl (lv_at hl 0 rfl) ?_
      refine lv_iload_n hx hb dX9_scribe_88 rfl (lv_at hl 1 rfl) ?_
      refine lv_aload_n hx hb dX9_scribe_89 rfl (lv_at hl 0 rfl) ?_
      refine va_get (D := G) (ci := 9) (v := .ref a_t_now) (C := RX9) (T := TX9) (N := 26) hx hb hg inX9 hown hKT hP 0 rfl rfl 16 (by decide) (hg _ gF_X9_35) (fun _ h9 => h9) rfl dX9_scribe_90 ?_
      refine lv_iconst (v := 0) hx hb dX9_scribe_93 (by decide) ?_
      refine va_iald hx hb hKT hP 7 0 rfl rfl (vinC (by decide)) dX9_scribe_94 ?_
      obtain ⟨q6, hq6, hB⟩ := bnd hB
      refine kr_V (WC := wd_X9_disagrees cs a_t a_t_text a_t_opinions a_t_lines a_t_draftBook a_t_scribes a_t_turn a_t_bent a_t_need a_t_now a_t_isKept a_t_far a_t_marginOf a_t_marginSays v_t_trace v_t_typed v_t_needTold v_t_at v_t_start v_t_sort v_t_value v_t_fault v_t_target v_t_went v_t_ender v_t_had v_t_margins g_t_opinions g_t_lines g_t_turn g_t_bent) (As := [.int p1, .int (g_t_now (0 : Int32).toNatClampNeg)]) (rest := []) (r0 := q6) ⟨hx, hb, hml, hown, hg⟩ (k_X9_disagrees l G cs a_t a_t_text a_t_opinions a_t_lines a_t_draftBook a_t_scribes a_t_turn a_t_bent a_t_need a_t_now a_t_isKept a_t_far a_t_marginOf a_t_marginSays v_t_trace v_t_typed v_t_needTold v_t_at v_t_start v_t_sort v_t_value v_t_fault v_t_target v_t_went v_t_ender v_t_had v_t_margins g_t_opinions g_t_lines g_t_turn g_t_bent p1 (g_t_now (0 : Int32).toNatClampNeg) q6 hq6) gM_X9_119 mI_X9_disagrees (rmk rfl) hP hKT hN 0 rfl rfl [0, 1, 2, 4, 5] rfl rfl hl.1 rfl (Nat.le_of_ble_eq_true rfl) dX9_scribe_95 ?_
      have hK := leafK hB hK
      have hK : q6 = R0 := hK
      subst hK
      exact W.iret (v := q6) hx hb hr (fun t ht hW => ⟨_, rfl, rfl, ht⟩) (fun _ h => by cases h) dX9_scribe_98
    have hB := ifN c_10_4 hB
    by_cases c_10_5 : p2 = 5
    · have hB := ifP c_10_5 hB
      refine lv_tableIn (off := 88) (tgt := 99) hx hb dX9_scribe_11 (by rw [c_10_5]; decide) (by rw [c_10_5]; decide) (by rw [c_10_5]; decide) (by decide) ?_
      refine lv_aload_n hx hb dX9_scribe_99 rfl (lv_at hl 0 rfl) ?_
      refine lv_iload_n hx hb dX9_scribe_100 rfl (lv_at hl 1 rfl) ?_
      refine lv_aload_n hx hb dX9_scribe_101 rfl (lv_at hl 0 rfl) ?_
      refine va_get (D := G) (ci := 9) (v := .ref a_t_now) (C := RX9) (T := TX9) (N := 26) hx hb hg inX9 hown hKT hP 0 rfl rfl 16 (by decide) (hg _ gF_X9_35) (fun _ h9 => h9) rfl dX9_scribe_102 ?_
      refine lv_iconst (v := 0) hx hb dX9_scribe_105 (by decide) ?_
      refine va_iald hx hb hKT hP 7 0 rfl rfl (vinC (by decide)) dX9_scribe_106 ?_
      obtain ⟨q7, hq7, hB⟩ := bnd hB
      refine kr_V (WC := wd_X9_isConvinced cs a_t a_t_text a_t_opinions a_t_lines a_t_draftBook a_t_scribes a_t_turn a_t_bent a_t_need a_t_now a_t_isKept a_t_far a_t_marginOf a_t_marginSays v_t_trace v_t_typed v_t_needTold v_t_at v_t_start v_t_sort v_t_value v_t_fault v_t_target v_t_went v_t_ender v_t_had v_t_margins g_t_opinions g_t_lines g_t_turn g_t_bent g_t_need) (As := [.int p1, .int (g_t_now (0 : Int32).toNatClampNeg)]) (rest := []) (r0 := q7) ⟨hx, hb, hml, hown, hg⟩ (k_X9_isConvinced l G cs a_t a_t_text a_t_opinions a_t_lines a_t_draftBook a_t_scribes a_t_turn a_t_bent a_t_need a_t_now a_t_isKept a_t_far a_t_marginOf a_t_marginSays v_t_trace v_t_typed v_t_needTold v_t_at v_t_start v_t_sort v_t_value v_t_fault v_t_target v_t_went v_t_ender v_t_had v_t_margins g_t_opinions g_t_lines g_t_turn g_t_bent g_t_need p1 (g_t_now (0 : Int32).toNatClampNeg) q7 hq7) gM_X9_136 mI_X9_isConvinced (rmk rfl) hP hKT hN 0 rfl rfl [0, 1, 2, 4, 5, 6] rfl rfl hl.1 rfl (Nat.le_of_ble_eq_true rfl) dX9_scribe_107 ?_
      refine lv_if_eq (tgt := 117) hx hb dX9_scribe_110 (by decide) (fun c_8 => ?_) (fun c_8 => ?_)
      · have hB := ifP c_8 hB
        refine lv_iconst (v := 0) hx hb dX9_scribe_117 (by decide) ?_
        have hK := leafK hB hK
        have hK : (0 : Int32) = R0 := hK
        subst hK
        exact W.iret (v := (0 : Int32)) hx hb hr (fun t ht hW => ⟨_, rfl, rfl, ht⟩) (fun _ h => by cases h) dX9_scribe_118
      · have hB := ifN c_8 hB
        refine lv_iconst (v := 1) hx hb dX9_scribe_113 (by decide) ?_
        refine lv_goto (tgt := 118) hx hb dX9_scribe_114 (by decide) ?_
        have hK := leafK hB hK
        have hK : (1 : Int32) = R0 := hK
        subst hK
        exact W.iret (v := (1 : Int32)) hx hb hr (fun t ht hW => ⟨_, rfl, rfl, ht⟩) (fun _ h => by cases h) dX9_scribe_118
    have hB := ifN c_10_5 hB
    by_cases c_10_6 : p2 = 6
    · have hB := ifP c_10_6 hB
      refine lv_tableIn (off := 108) (tgt := 119) hx hb dX9_scribe_11 (by rw [c_10_6]; decide) (by rw [c_10_6]; decide) (by rw [c_10_6]; decide) (by decide) ?_
      refine lv_aload_n hx hb dX9_scribe_119 rfl (lv_at hl 0 rfl) ?_
      refine lv_iload_n hx hb dX9_scribe_120 rfl (lv_at hl 1 rfl) ?_
      obtain ⟨q9, hq9, hB⟩ := bnd hB
      refine kr_V (WC := wd_X9_comes cs a_t a_t_text a_t_opinions a_t_lines a_t_draftBook a_t_scribes a_t_turn a_t_bent a_t_need a_t_now a_t_isKept a_t_far a_t_marginOf a_t_marginSays v_t_trace v_t_typed v_t_needTold v_t_at v_t_start v_t_sort v_t_value v_t_fault v_t_target v_t_went v_t_ender v_t_had v_t_margins g_t_opinions g_t_lines g_t_turn g_t_bent g_t_now) (As := [.int p1]) (rest := []) (r0 := q9) ⟨hx, hb, hml, hown, hg⟩ (k_X9_comes l G cs a_t a_t_text a_t_opinions a_t_lines a_t_draftBook a_t_scribes a_t_turn a_t_bent a_t_need a_t_now a_t_isKept a_t_far a_t_marginOf a_t_marginSays v_t_trace v_t_typed v_t_needTold v_t_at v_t_start v_t_sort v_t_value v_t_fault v_t_target v_t_went v_t_ender v_t_had v_t_margins g_t_opinions g_t_lines g_t_turn g_t_bent g_t_now p1 q9 hq9) gM_X9_139 mI_X9_comes (rmk rfl) hP hKT hN 0 rfl rfl [0, 1, 2, 4, 5, 7] rfl rfl hl.1 rfl (Nat.le_of_ble_eq_true rfl) dX9_scribe_121 ?_
      have hK := leafK hB hK
      have hK : q9 = R0 := hK
      subst hK
      exact W.iret (v := q9) hx hb hr (fun t ht hW => ⟨_, rfl, rfl, ht⟩) (fun _ h => by cases h) dX9_scribe_124
    have hB := ifN c_10_6 hB
    have c_10_0t := lv_neT (a := 0) c_10_0 rfl
    have c_10_1t := lv_neT (a := 1) c_10_1 rfl
    have c_10_2t := lv_neT (a := 2) c_10_2 rfl
    have c_10_3t := lv_neT (a := 3) c_10_3 rfl
    have c_10_4t := lv_neT (a := 4) c_10_4 rfl
    have c_10_5t := lv_neT (a := 5) c_10_5 rfl
    have c_10_6t := lv_neT (a := 6) c_10_6 rfl
    refine lv_tableOut (tgt := 125) hx hb dX9_scribe_11 (by omega) (by decide) ?_
    refine lv_iconst (v := -1) hx hb dX9_scribe_125 (by decide) ?_
    have hK := leafK hB hK
    have hK : (-1 : Int32) = R0 := hK
    subst hK
    exact W.iret (v := (-1 : Int32)) hx hb hr (fun t ht hW => ⟨_, rfl, rfl, ht⟩) (fun _ h => by cases h) dX9_scribe_126
  · have hB := ifP c_2 hB
    refine lv_iconst (v := -1) hx hb dX9_scribe_8 (by decide) ?_
    have hK := leafK hB hK
    have hK : (-1 : Int32) = R0 := hK
    subst hK
    exact W.iret (v := (-1 : Int32)) hx hb hr (fun t ht hW => ⟨_, rfl, rfl, ht⟩) (fun _ h => by cases h) dX9_scribe_9
def wd_X9_says (cs : Nat → ClassId) (a_t a_t_text a_t_opinions a_t_lines a_t_draftBook a_t_scribes a_t_turn a_t_bent a_t_need a_t_now a_t_isKept a_t_far a_t_marginOf a_t_marginSays : Nat) (v_t_trace : Int64) (v_t_typed : Int32) (v_t_needTold : Int32) (v_t_at : Int32) (v_t_start : Int32) (v_t_sort : Int32) (v_t_value : Int32) (v_t_fault : Int32) (v_t_target : Int32) (v_t_went : Int32) (v_t_ender : Int32) (v_t_had : Int32) (v_t_margins : Int32) (g_t_opinions : Nat → Int32) (g_t_scribes : Nat → Int32) (g_t_turn : Nat → Int32) (g_t_bent : Nat → Int32) : va_W := [(a_t, .inr (9, [.long v_t_trace, .ref a_t_text, .int v_t_typed, .ref a_t_opinions, .ref a_t_lines, .ref a_t_draftBook, .ref a_t_scribes, .ref a_t_turn, .ref a_t_bent, .ref a_t_need, .int v_t_needTold, .int v_t_at, .int v_t_start, .int v_t_sort, .int v_t_value, .int v_t_fault, .ref a_t_now, .ref a_t_isKept, .int v_t_target, .int v_t_went, .int v_t_ender, .int v_t_had, .ref a_t_far, .ref a_t_marginOf, .ref a_t_marginSays, .int v_t_margins])), (a_t_opinions, .inl (cs 0, 2, .inl g_t_opinions)), (a_t_scribes, .inl (cs 0, 2, .inl g_t_scribes)), (a_t_turn, .inl (cs 0, 12, .inl g_t_turn)), (a_t_bent, .inl (cs 0, 12, .inl g_t_bent))]
def rm_X9_says : Room := { frames := 2, cells := 0, slots := 0, locals := 43 }
theorem mI_X9_says : MI yX9_says RX9 cX9_says 3 (some .int) 2 := ⟨gI_X9_says, gE_X9_says, gN_X9, gC_X9_says, by decide +kernel⟩
set_option maxHeartbeats 4000000 in
set_option maxRecDepth 100000 in
theorem k_X9_says (l : Launch) (G : va_G) (cs : Nat → ClassId) (a_t a_t_text a_t_opinions a_t_lines a_t_draftBook a_t_scribes a_t_turn a_t_bent a_t_need a_t_now a_t_isKept a_t_far a_t_marginOf a_t_marginSays : Nat) (v_t_trace : Int64) (v_t_typed : Int32) (v_t_needTold : Int32) (v_t_at : Int32) (v_t_start : Int32) (v_t_sort : Int32) (v_t_value : Int32) (v_t_fault : Int32) (v_t_target : Int32) (v_t_went : Int32) (v_t_ender : Int32) (v_t_had : Int32) (v_t_margins : Int32) (g_t_opinions : Nat → Int32) (g_t_scribes : Nat → Int32) (g_t_turn : Nat → Int32) (g_t_bent : Nat → Int32) (p1 p2 : Int32) (R0 : Int32) (hB : f_X9_says g_t_opinions g_t_scribes g_t_turn g_t_bent p1 p2 = some R0) : Met l yX9_says (.code yX9_says cX9_says 3 (some .int) :: GW) rm_X9_says (PcR G cs [.ref a_t, .int p1, .int p2] (wd_X9_says cs a_t a_t_text a_t_opinions a_t_lines a_t_draftBook a_t_scribes a_t_turn a_t_bent a_t_need a_t_now a_t_isKept a_t_far a_t_marginOf a_t_marginSays v_t_trace v_t_typed v_t_needTold v_t_at v_t_start v_t_sort v_t_value v_t_fault v_t_target v_t_went v_t_ender v_t_had v_t_margins g_t_opinions g_t_scribes g_t_turn g_t_bent)) (vp_Si (fun r => r = R0)) 0 0 (fun _ => False) := by
  refine Met.ofW (cc := cX9_says) (maxL := 3) (ret := (some .int)) (by decide) rfl ?_
  intro p e s m args below meth c s₁ B hml hv
  obtain ⟨rfl, hP, hK, hN⟩ := hv
  have hx := B.exec
  have hb := B.bytes
  have hr := B.returns
  have hts := atoms_spec (ws := .code yX9_says cX9_says 3 (some .int) :: GW) B.pre
  have hg : ∀ w ∈ GW, w.before _ s = true := fun w h => hts w (List.mem_cons_of_mem _ h)
  have hown : s.vm.findClass RX9 = some m.cls := findClass_of_methodNamed B.named
  have hlocks := B.notSynchronized
  have hl := lv_entry ([.ref a_t, .int p1, .int p2]) (n := 3) (Nat.le_of_ble_eq_true rfl)
  rw [lg_entry_eq]
  generalize (lg_sl ([.ref a_t, .int p1, .int p2]) ++ List.replicate (3 - (lg_sl ([.ref a_t, .int p1, .int p2])).length) Slot.unset).toArray = ls at hl ⊢
  have hl : lv_has ls 3 [(0, .ref a_t), (1, .int p1), (2, .int p2)] := hl
  obtain ⟨y, hB, hK0⟩ : ∃ y, f_X9_says g_t_opinions g_t_scribes g_t_turn g_t_bent p1 p2 = some y ∧ KEnd R0 y := ⟨R0, hB, rfl⟩
  have hKT := hK
  have hK := hK0
  show W p l e rm_X9_says s m ([.ref a_t, .int p1, .int p2] : List Value).toArray below meth c s.heap [] 0 0 (MQ below (vp_Si (fun r => r = R0)) ([.ref a_t, .int p1, .int p2] : List Value).toArray s 0 0 (fun _ => False)) (F0 m 0 ls [])
  refine lv_aload_n hx hb dX9_says_0 rfl (lv_at hl 0 rfl) ?_
  refine lv_iload_n hx hb dX9_says_1 rfl (lv_at hl 1 rfl) ?_
  obtain ⟨q1, hq1, hB⟩ := bnd hB
  refine kr_V (WC := wd_X9_isScribe cs a_t a_t_text a_t_opinions a_t_lines a_t_draftBook a_t_scribes a_t_turn a_t_bent a_t_need a_t_now a_t_isKept a_t_far a_t_marginOf a_t_marginSays v_t_trace v_t_typed v_t_needTold v_t_at v_t_start v_t_sort v_t_value v_t_fault v_t_target v_t_went v_t_ender v_t_had v_t_margins g_t_scribes) (As := [.int p1]) (rest := []) (r0 := q1) ⟨hx, hb, hml, hown, hg⟩ (k_X9_isScribe l G cs a_t a_t_text a_t_opinions a_t_lines a_t_draftBook a_t_scribes a_t_turn a_t_bent a_t_need a_t_now a_t_isKept a_t_far a_t_marginOf a_t_marginSays v_t_trace v_t_typed v_t_needTold v_t_at v_t_start v_t_sort v_t_value v_t_fault v_t_target v_t_went v_t_ender v_t_had v_t_margins g_t_scribes p1 q1 hq1) gM_X9_133 mI_X9_isScribe (rmk rfl) hP hKT hN 0 rfl rfl [0, 2] rfl rfl hl.1 rfl (Nat.le_of_ble_eq_true rfl) dX9_says_2 ?_
  refine lv_if_eq (tgt := 25) hx hb dX9_says_5 (by decide) (fun c_2 => ?_) (fun c_2 => ?_)
  · have hB := ifP c_2 hB
    refine lv_iconst (v := -1) hx hb dX9_says_25 (by decide) ?_
    have hK := leafK hB hK
    have hK : (-1 : Int32) = R0 := hK
    subst hK
    exact W.iret (v := (-1 : Int32)) hx hb hr (fun t ht hW => ⟨_, rfl, rfl, ht⟩) (fun _ h => by cases h) dX9_says_26
  · have hB := ifN c_2 hB
    refine lv_aload_n hx hb dX9_says_8 rfl (lv_at hl 0 rfl) ?_
    refine lv_iload_n hx hb dX9_says_9 rfl (lv_at hl 2 rfl) ?_
    obtain ⟨q3, hq3, hB⟩ := bnd hB
    refine kr_V (WC := wd_X9_isOpinion cs a_t a_t_text a_t_opinions a_t_lines a_t_draftBook a_t_scribes a_t_turn a_t_bent a_t_need a_t_now a_t_isKept a_t_far a_t_marginOf a_t_marginSays v_t_trace v_t_typed v_t_needTold v_t_at v_t_start v_t_sort v_t_value v_t_fault v_t_target v_t_went v_t_ender v_t_had v_t_margins g_t_opinions) (As := [.int p2]) (rest := []) (r0 := q3) ⟨hx, hb, hml, hown, hg⟩ (k_X9_isOpinion l G cs a_t a_t_text a_t_opinions a_t_lines a_t_draftBook a_t_scribes a_t_turn a_t_bent a_t_need a_t_now a_t_isKept a_t_far a_t_marginOf a_t_marginSays v_t_trace v_t_typed v_t_needTold v_t_at v_t_start v_t_sort v_t_value v_t_fault v_t_target v_t_went v_t_ender v_t_had v_t_margins g_t_opinions p2 q3 hq3) gM_X9_142 mI_X9_isOpinion (rmk rfl) hP hKT hN 0 rfl rfl [0, 1] rfl rfl hl.1 rfl (Nat.le_of_ble_eq_true rfl) dX9_says_10 ?_
    refine lv_if_eq (tgt := 25) hx hb dX9_says_13 (by decide) (fun c_4 => ?_) (fun c_4 => ?_)
    · have hB := ifP c_4 hB
      refine lv_iconst (v := -1) hx hb dX9_says_25 (by decide) ?_
      have hK := leafK hB hK
      have hK : (-1 : Int32) = R0 := hK
      subst hK
      exact W.iret (v := (-1 : Int32)) hx hb hr (fun t ht hW => ⟨_, rfl, rfl, ht⟩) (fun _ h => by cases h) dX9_says_26
    · have hB := ifN c_4 hB
      refine lv_aload_n hx hb dX9_says_16 rfl (lv_at hl 0 rfl) ?_
      refine lv_iload_n hx hb dX9_says_17 rfl (lv_at hl 1 rfl) ?_
      refine lv_iload_n hx hb dX9_says_18 rfl (lv_at hl 2 rfl) ?_
      obtain ⟨q5, hq5, hB⟩ := bnd hB
      refine kr_V (WC := wd_X9_saysOf cs a_t a_t_text a_t_opinions a_t_lines a_t_draftBook a_t_scribes a_t_turn a_t_bent a_t_need a_t_now a_t_isKept a_t_far a_t_marginOf a_t_marginSays v_t_trace v_t_typed v_t_needTold v_t_at v_t_start v_t_sort v_t_value v_t_fault v_t_target v_t_went v_t_ender v_t_had v_t_margins g_t_opinions g_t_turn g_t_bent) (As := [.int p1, .int p2]) (rest := []) (r0 := q5) ⟨hx, hb, hml, hown, hg⟩ (k_X9_saysOf l G cs a_t a_t_text a_t_opinions a_t_lines a_t_draftBook a_t_scribes a_t_turn a_t_bent a_t_need a_t_now a_t_isKept a_t_far a_t_marginOf a_t_marginSays v_t_trace v_t_typed v_t_needTold v_t_at v_t_start v_t_sort v_t_value v_t_fault v_t_target v_t_went v_t_ender v_t_had v_t_margins g_t_opinions g_t_turn g_t_bent p1 p2 q5 hq5) gM_X9_116 mI_X9_saysOf (rmk rfl) hP hKT hN 0 rfl rfl [0, 1, 3, 4] rfl rfl hl.1 rfl (Nat.le_of_ble_eq_true rfl) dX9_says_19 ?_
      refine lv_goto (tgt := 26) hx hb dX9_says_22 (by decide) ?_
      have hK := leafK hB hK
      have hK : q5 = R0 := hK
      subst hK
      exact W.iret (v := q5) hx hb hr (fun t ht hW => ⟨_, rfl, rfl, ht⟩) (fun _ h => by cases h) dX9_says_26
def wd_X9_know (cs : Nat → ClassId) (a_t a_t_text a_t_opinions a_t_lines a_t_draftBook a_t_scribes a_t_turn a_t_bent a_t_need a_t_now a_t_isKept a_t_far a_t_marginOf a_t_marginSays : Nat) (v_t_trace : Int64) (v_t_typed : Int32) (v_t_needTold : Int32) (v_t_at : Int32) (v_t_start : Int32) (v_t_sort : Int32) (v_t_value : Int32) (v_t_fault : Int32) (v_t_target : Int32) (v_t_went : Int32) (v_t_ender : Int32) (v_t_had : Int32) (v_t_margins : Int32) (g_t_now : Nat → Int32) : va_W := [(a_t, .inr (9, [.long v_t_trace, .ref a_t_text, .int v_t_typed, .ref a_t_opinions, .ref a_t_lines, .ref a_t_draftBook, .ref a_t_scribes, .ref a_t_turn, .ref a_t_bent, .ref a_t_need, .int v_t_needTold, .int v_t_at, .int v_t_start, .int v_t_sort, .int v_t_value, .int v_t_fault, .ref a_t_now, .ref a_t_isKept, .int v_t_target, .int v_t_went, .int v_t_ender, .int v_t_had, .ref a_t_far, .ref a_t_marginOf, .ref a_t_marginSays, .int v_t_margins])), (a_t_now, .inl (cs 0, 300, .inl g_t_now))]
def rm_X9_know : Room := { frames := 0, cells := 0, slots := 0, locals := 0 }
theorem mI_X9_know : MI yX9_know RX9 cX9_know 2 none 0 := ⟨gI_X9_know, gE_X9_know, gN_X9, gC_X9_know, by decide +kernel⟩
set_option maxHeartbeats 4000000 in
set_option maxRecDepth 100000 in
theorem k_X9_know (l : Launch) (G : va_G) (cs : Nat → ClassId) (a_t a_t_text a_t_opinions a_t_lines a_t_draftBook a_t_scribes a_t_turn a_t_bent a_t_need a_t_now a_t_isKept a_t_far a_t_marginOf a_t_marginSays : Nat) (v_t_trace : Int64) (v_t_typed : Int32) (v_t_needTold : Int32) (v_t_at : Int32) (v_t_start : Int32) (v_t_sort : Int32) (v_t_value : Int32) (v_t_fault : Int32) (v_t_target : Int32) (v_t_went : Int32) (v_t_ender : Int32) (v_t_had : Int32) (v_t_margins : Int32) (g_t_now : Nat → Int32) (sz : Nat) (R0 : (Nat → Int32)) (hB : f_X9_know g_t_now = some R0) : Met l yX9_know (.code yX9_know cX9_know 2 none :: GW) rm_X9_know (PcW G cs [.ref a_t] (wd_X9_know cs a_t a_t_text a_t_opinions a_t_lines a_t_draftBook a_t_scribes a_t_turn a_t_bent a_t_need a_t_now a_t_isKept a_t_far a_t_marginOf a_t_marginSays v_t_trace v_t_typed v_t_needTold v_t_at v_t_start v_t_sort v_t_value v_t_fault v_t_target v_t_went v_t_ender v_t_had v_t_margins g_t_now) sz) (QcV G (va_A (wd_X9_know cs a_t a_t_text a_t_opinions a_t_lines a_t_draftBook a_t_scribes a_t_turn a_t_bent a_t_need a_t_now a_t_isKept a_t_far a_t_marginOf a_t_marginSays v_t_trace v_t_typed v_t_needTold v_t_at v_t_start v_t_sort v_t_value v_t_fault v_t_target v_t_went v_t_ender v_t_had v_t_margins g_t_now) sz) (wd_X9_know cs a_t a_t_text a_t_opinions a_t_lines a_t_draftBook a_t_scribes a_t_turn a_t_bent a_t_need a_t_now a_t_isKept a_t_far a_t_marginOf a_t_marginSays v_t_trace v_t_typed v_t_needTold v_t_at v_t_start v_t_sort v_t_value v_t_fault v_t_target v_t_went v_t_ender v_t_had v_t_margins R0)) 0 0 (va_A (wd_X9_know cs a_t a_t_text a_t_opinions a_t_lines a_t_draftBook a_t_scribes a_t_turn a_t_bent a_t_need a_t_now a_t_isKept a_t_far a_t_marginOf a_t_marginSays v_t_trace v_t_typed v_t_needTold v_t_at v_t_start v_t_sort v_t_value v_t_fault v_t_target v_t_went v_t_ender v_t_had v_t_margins g_t_now) sz) := by
  refine Met.ofW (cc := cX9_know) (maxL := 2) (ret := none) (by decide) rfl ?_
  intro p e s m args below meth c s₁ B hml hv
  obtain ⟨rfl, hsz, hP, hD0, hK, hN⟩ := hv
  have hx := B.exec
  have hb := B.bytes
  have hr := B.returns
  have hts := atoms_spec (ws := .code yX9_know cX9_know 2 none :: GW) B.pre
  have hg : ∀ w ∈ GW, w.before _ s = true := fun w h => hts w (List.mem_cons_of_mem _ h)
  have hown : s.vm.findClass RX9 = some m.cls := findClass_of_methodNamed B.named
  have hlocks := B.notSynchronized
  subst hsz
  have hD := hD0.self (sz := s.heap.size)
  generalize hAe : va_A (wd_X9_know cs a_t a_t_text a_t_opinions a_t_lines a_t_draftBook a_t_scribes a_t_turn a_t_bent a_t_need a_t_now a_t_isKept a_t_far a_t_marginOf a_t_marginSays v_t_trace v_t_typed v_t_needTold v_t_at v_t_start v_t_sort v_t_value v_t_fault v_t_target v_t_went v_t_ender v_t_had v_t_margins g_t_now) s.heap.size = A at hD ⊢
  have hA : ∀ q : Nat, s.heap.size ≤ q → A q := fun q h => by rw [← hAe]; exact Or.inr h
  have hS : va_S A s.heap s.heap [] := va_S.rf
  have hl := lv_entry ([.ref a_t]) (n := 2) (Nat.le_of_ble_eq_true rfl)
  rw [lg_entry_eq]
  generalize (lg_sl ([.ref a_t]) ++ List.replicate (2 - (lg_sl ([.ref a_t])).length) Slot.unset).toArray = ls at hl ⊢
  have hl : lv_has ls 2 [(0, .ref a_t)] := hl
  obtain ⟨y, hB, hK0⟩ : ∃ y, f_X9_know g_t_now = some y ∧ KEnd R0 y := ⟨R0, hB, rfl⟩
  have hKT := hK
  have hK := hK0
  obtain ⟨H, hHe⟩ : ∃ H, H = s.heap := ⟨_, rfl⟩
  obtain ⟨locs, hLe⟩ : ∃ L : List Loc, L = [] := ⟨_, rfl⟩
  rw [← hHe] at hP
  have hS : va_S A s.heap H locs := by rw [hHe, hLe]; exact hS
  show W p l e rm_X9_know s m ([.ref a_t] : List Value).toArray below meth c s.heap [] 0 0 _ _
  suffices hgo : W p l e rm_X9_know s m ([.ref a_t] : List Value).toArray below meth c H locs 0 0 (MQ below (QcV G A (wd_X9_know cs a_t a_t_text a_t_opinions a_t_lines a_t_draftBook a_t_scribes a_t_turn a_t_bent a_t_need a_t_now a_t_isKept a_t_far a_t_marginOf a_t_marginSays v_t_trace v_t_typed v_t_needTold v_t_at v_t_start v_t_sort v_t_value v_t_fault v_t_target v_t_went v_t_ender v_t_had v_t_margins R0)) ([.ref a_t] : List Value).toArray s 0 0 A) (F0 m 0 ls []) by rw [hHe, hLe] at hgo; exact hgo
  refine lv_aload_n hx hb dX9_know_0 rfl (lv_at hl 0 rfl) ?_
  refine va_get (D := G) (ci := 9) (v := .ref a_t_now) (C := RX9) (T := TX9) (N := 26) hx hb hg inX9 hown hKT hP 0 rfl rfl 16 (by decide) (hg _ gF_X9_35) (fun _ h9 => h9) rfl dX9_know_1 ?_
  refine lv_bipush (v := 9) hx hb dX9_know_4 (by decide) ?_
  refine va_iald hx hb hKT hP 1 0 rfl rfl (vinC (by decide)) dX9_know_6 ?_
  refine lv_bipush (v := 10) hx hb dX9_know_7 (by decide) ?_
  refine lv_icmp_ne (tgt := 55) hx hb dX9_know_9 (by decide) (fun c_1 => ?_) (fun c_1 => ?_)
  · have hB := ifN c_1 hB
    refine lv_iconst (v := 0) hx hb dX9_know_55 (by decide) ?_
    refine lv_istore_n (lv' := [(1, .int (0 : Int32)), (0, .ref a_t)]) hx hb dX9_know_56 rfl hl (by decide) rfl (fun ls hl => ?_)
    refine lp_ind (Wh := fun (z2 : Int32 × (Nat → Int32)) => ∀ (H : Heap) (locs : List Loc), va_P G vwCl (wd_X9_know cs a_t a_t_text a_t_opinions a_t_lines a_t_draftBook a_t_scribes a_t_turn a_t_bent a_t_need a_t_now a_t_isKept a_t_far a_t_marginOf a_t_marginSays v_t_trace v_t_typed v_t_needTold v_t_at v_t_start v_t_sort v_t_value v_t_fault v_t_target v_t_went v_t_ender v_t_had v_t_margins z2.2) H → va_D A (wd_X9_know cs a_t a_t_text a_t_opinions a_t_lines a_t_draftBook a_t_scribes a_t_turn a_t_bent a_t_need a_t_now a_t_isKept a_t_far a_t_marginOf a_t_marginSays v_t_trace v_t_typed v_t_needTold v_t_at v_t_start v_t_sort v_t_value v_t_fault v_t_target v_t_went v_t_ender v_t_had v_t_margins z2.2) → va_S A s.heap H locs → ∀ (ls : Array Slot), lv_has ls 2 [(0, .ref a_t), (1, .int z2.1)] → W p l e rm_X9_know s m ([.ref a_t] : List Value).toArray below meth c H locs 0 0 (MQ below (QcV G A (wd_X9_know cs a_t a_t_text a_t_opinions a_t_lines a_t_draftBook a_t_scribes a_t_turn a_t_bent a_t_need a_t_now a_t_isKept a_t_far a_t_marginOf a_t_marginSays v_t_trace v_t_typed v_t_needTold v_t_at v_t_start v_t_sort v_t_value v_t_fault v_t_target v_t_went v_t_ender v_t_had v_t_margins R0)) ([.ref a_t] : List Value).toArray s 0 0 A) (F0 m 57 ls [])) ?_ FU _ _ hB hK H locs hP hD hS ls (lv_sub hl [1, 0] rfl)
    rintro ⟨z2_0, z2_1⟩ y hB hK H locs hP hD hS ls hl
    have hl : lv_has ls 2 [(0, .ref a_t), (1, .int z2_0)] := hl
    have hP : va_P G vwCl (wd_X9_know cs a_t a_t_text a_t_opinions a_t_lines a_t_draftBook a_t_scribes a_t_turn a_t_bent a_t_need a_t_now a_t_isKept a_t_far a_t_marginOf a_t_marginSays v_t_trace v_t_typed v_t_needTold v_t_at v_t_start v_t_sort v_t_value v_t_fault v_t_target v_t_went v_t_ender v_t_had v_t_margins z2_1) H := hP
    have hD : va_D A (wd_X9_know cs a_t a_t_text a_t_opinions a_t_lines a_t_draftBook a_t_scribes a_t_turn a_t_bent a_t_need a_t_now a_t_isKept a_t_far a_t_marginOf a_t_marginSays v_t_trace v_t_typed v_t_needTold v_t_at v_t_start v_t_sort v_t_value v_t_fault v_t_target v_t_went v_t_ender v_t_had v_t_margins z2_1) := hD
    refine lv_iload_n hx hb dX9_know_57 rfl (lv_at hl 1 rfl) ?_
    refine lv_bipush (v := 9) hx hb dX9_know_58 (by decide) ?_
    refine lv_icmp_ge (tgt := 95) hx hb dX9_know_60 (by decide) (fun c_3 => ?_) (fun c_3 => ?_)
    · have hB := ifP c_3 hB
      refine lv_aload_n hx hb dX9_know_95 rfl (lv_at hl 0 rfl) ?_
      refine va_get (D := G) (ci := 9) (v := .ref a_t_now) (C := RX9) (T := TX9) (N := 26) hx hb hg inX9 hown hKT hP 0 rfl rfl 16 (by decide) (hg _ gF_X9_35) (fun _ h9 => h9) rfl dX9_know_96 ?_
      refine lv_bipush (v := 9) hx hb dX9_know_99 (by decide) ?_
      refine lv_dup2_11 hx hb dX9_know_101 rfl rfl ?_
      refine va_iald hx hb hKT hP 1 0 rfl rfl (vinC (by decide)) dX9_know_102 ?_
      refine lv_iconst (v := 1) hx hb dX9_know_103 (by decide) ?_
      refine lv_iadd hx hb dX9_know_104 ?_
      refine va_iast hx hb hKT hP hD hS 1 0 rfl rfl (vinC (by decide)) dX9_know_105 (fun H locs hP hD hS => ?_)
      have hP : va_P G vwCl (wd_X9_know cs a_t a_t_text a_t_opinions a_t_lines a_t_draftBook a_t_scribes a_t_turn a_t_bent a_t_need a_t_now a_t_isKept a_t_far a_t_marginOf a_t_marginSays v_t_trace v_t_typed v_t_needTold v_t_at v_t_start v_t_sort v_t_value v_t_fault v_t_target v_t_went v_t_ender v_t_had v_t_margins (upd z2_1 (9 : Int32).toNatClampNeg ((z2_1 (9 : Int32).toNatClampNeg) + (1 : Int32)))) H := hP
      have hD : va_D A (wd_X9_know cs a_t a_t_text a_t_opinions a_t_lines a_t_draftBook a_t_scribes a_t_turn a_t_bent a_t_need a_t_now a_t_isKept a_t_far a_t_marginOf a_t_marginSays v_t_trace v_t_typed v_t_needTold v_t_at v_t_start v_t_sort v_t_value v_t_fault v_t_target v_t_went v_t_ender v_t_had v_t_margins (upd z2_1 (9 : Int32).toNatClampNeg ((z2_1 (9 : Int32).toNatClampNeg) + (1 : Int32)))) := hD
      have hK := leafK hB hK
      have hK := elimR hK
      have hK : (upd z2_1 (9 : Int32).toNatClampNeg ((z2_1 (9 : Int32).toNatClampNeg) + (1 : Int32))) = R0 := hK
      subst hK
      exact W.vret hx hb hr (fun t ht hW => ⟨⟨(), rfl, trivial, by rw [ht]; exact hP, hD⟩, hS.F ht⟩) hS.2.2 dX9_know_106
    · have hB := ifN c_3 hB
      refine lv_aload_n hx hb dX9_know_63 rfl (lv_at hl 0 rfl) ?_
      refine va_get (D := G) (ci := 9) (v := .ref a_t_now) (C := RX9) (T := TX9) (N := 26) hx hb hg inX9 hown hKT hP 0 rfl rfl 16 (by decide) (hg _ gF_X9_35) (fun _ h9 => h9) rfl dX9_know_64 ?_
      refine lv_bipush (v := 10) hx hb dX9_know_67 (by decide) ?_
      refine lv_bipush (v := 9) hx hb dX9_know_69 (by decide) ?_
      refine lv_aload_n hx hb dX9_know_71 rfl (lv_at hl 0 rfl) ?_
      refine va_get (D := G) (ci := 9) (v := .ref a_t_now) (C := RX9) (T := TX9) (N := 26) hx hb hg inX9 hown hKT hP 0 rfl rfl 16 (by decide) (hg _ gF_X9_35) (fun _ h9 => h9) rfl dX9_know_72 ?_
      refine lv_bipush (v := 9) hx hb dX9_know_75 (by decide) ?_
      refine va_iald hx hb hKT hP 1 0 rfl rfl (vinC (by decide)) dX9_know_77 ?_
      refine lv_imul hx hb dX9_know_78 ?_
      refine lv_iadd hx hb dX9_know_79 ?_
      refine lv_iload_n hx hb dX9_know_80 rfl (lv_at hl 1 rfl) ?_
      refine lv_iadd hx hb dX9_know_81 ?_
      refine lv_aload_n hx hb dX9_know_82 rfl (lv_at hl 0 rfl) ?_
      refine va_get (D := G) (ci := 9) (v := .ref a_t_now) (C := RX9) (T := TX9) (N := 26) hx hb hg inX9 hown hKT hP 0 rfl rfl 16 (by decide) (hg _ gF_X9_35) (fun _ h9 => h9) rfl dX9_know_83 ?_
      refine lv_iload_n hx hb dX9_know_86 rfl (lv_at hl 1 rfl) ?_
      obtain ⟨h_4, hB⟩ := ifS hB
      refine va_iald hx hb hKT hP 1 0 rfl rfl h_4 dX9_know_87 ?_
      obtain ⟨h_5, hB⟩ := ifS hB
      refine va_iast hx hb hKT hP hD hS 1 0 rfl rfl h_5 dX9_know_88 (fun H locs hP hD hS => ?_)
      have hP : va_P G vwCl (wd_X9_know cs a_t a_t_text a_t_opinions a_t_lines a_t_draftBook a_t_scribes a_t_turn a_t_bent a_t_need a_t_now a_t_isKept a_t_far a_t_marginOf a_t_marginSays v_t_trace v_t_typed v_t_needTold v_t_at v_t_start v_t_sort v_t_value v_t_fault v_t_target v_t_went v_t_ender v_t_had v_t_margins (upd z2_1 (((10 : Int32) + ((9 : Int32) * (z2_1 (9 : Int32).toNatClampNeg))) + z2_0).toNatClampNeg (z2_1 z2_0.toNatClampNeg))) H := hP
      have hD : va_D A (wd_X9_know cs a_t a_t_text a_t_opinions a_t_lines a_t_draftBook a_t_scribes a_t_turn a_t_bent a_t_need a_t_now a_t_isKept a_t_far a_t_marginOf a_t_marginSays v_t_trace v_t_typed v_t_needTold v_t_at v_t_start v_t_sort v_t_value v_t_fault v_t_target v_t_went v_t_ender v_t_had v_t_margins (upd z2_1 (((10 : Int32) + ((9 : Int32) * (z2_1 (9 : Int32).toNatClampNeg))) + z2_0).toNatClampNeg (z2_1 z2_0.toNatClampNeg))) := hD
      refine lv_iinc (v := z2_0 + (1 : Int32)) (lv' := [(1, .int (z2_0 + (1 : Int32))), (0, .ref a_t)]) hx hb dX9_know_89 hl (k := 1) rfl (inc_ok (by decide)) (by decide) rfl (fun ls hl => ?_)
      refine lv_goto (tgt := 57) hx hb dX9_know_92 (by decide) ?_
      have hK := leafK hB hK
      have hK := elimL hK
      exact hK H locs hP hD hS ls (lv_sub hl [1, 0] rfl)
  · have hB := ifP c_1 hB
    refine lv_iconst (v := 0) hx hb dX9_know_12 (by decide) ?_
    refine lv_istore_n (lv' := [(1, .int (0 : Int32)), (0, .ref a_t)]) hx hb dX9_know_13 rfl hl (by decide) rfl (fun ls hl => ?_)
    refine lp_ind (Wh := fun (z6 : Int32 × (Nat → Int32)) => ∀ (H : Heap) (locs : List Loc), va_P G vwCl (wd_X9_know cs a_t a_t_text a_t_opinions a_t_lines a_t_draftBook a_t_scribes a_t_turn a_t_bent a_t_need a_t_now a_t_isKept a_t_far a_t_marginOf a_t_marginSays v_t_trace v_t_typed v_t_needTold v_t_at v_t_start v_t_sort v_t_value v_t_fault v_t_target v_t_went v_t_ender v_t_had v_t_margins z6.2) H → va_D A (wd_X9_know cs a_t a_t_text a_t_opinions a_t_lines a_t_draftBook a_t_scribes a_t_turn a_t_bent a_t_need a_t_now a_t_isKept a_t_far a_t_marginOf a_t_marginSays v_t_trace v_t_typed v_t_needTold v_t_at v_t_start v_t_sort v_t_value v_t_fault v_t_target v_t_went v_t_ender v_t_had v_t_margins z6.2) → va_S A s.heap H locs → ∀ (ls : Array Slot), lv_has ls 2 [(0, .ref a_t), (1, .int z6.1)] → W p l e rm_X9_know s m ([.ref a_t] : List Value).toArray below meth c H locs 0 0 (MQ below (QcV G A (wd_X9_know cs a_t a_t_text a_t_opinions a_t_lines a_t_draftBook a_t_scribes a_t_turn a_t_bent a_t_need a_t_now a_t_isKept a_t_far a_t_marginOf a_t_marginSays v_t_trace v_t_typed v_t_needTold v_t_at v_t_start v_t_sort v_t_value v_t_fault v_t_target v_t_went v_t_ender v_t_had v_t_margins R0)) ([.ref a_t] : List Value).toArray s 0 0 A) (F0 m 14 ls [])) ?_ FU _ _ hB hK H locs hP hD hS ls (lv_sub hl [1, 0] rfl)
    rintro ⟨z6_0, z6_1⟩ y hB hK H locs hP hD hS ls hl
    have hl : lv_has ls 2 [(0, .ref a_t), (1, .int z6_0)] := hl
    have hP : va_P G vwCl (wd_X9_know cs a_t a_t_text a_t_opinions a_t_lines a_t_draftBook a_t_scribes a_t_turn a_t_bent a_t_need a_t_now a_t_isKept a_t_far a_t_marginOf a_t_marginSays v_t_trace v_t_typed v_t_needTold v_t_at v_t_start v_t_sort v_t_value v_t_fault v_t_target v_t_went v_t_ender v_t_had v_t_margins z6_1) H := hP
    have hD : va_D A (wd_X9_know cs a_t a_t_text a_t_opinions a_t_lines a_t_draftBook a_t_scribes a_t_turn a_t_bent a_t_need a_t_now a_t_isKept a_t_far a_t_marginOf a_t_marginSays v_t_trace v_t_typed v_t_needTold v_t_at v_t_start v_t_sort v_t_value v_t_fault v_t_target v_t_went v_t_ender v_t_had v_t_margins z6_1) := hD
    refine lv_iload_n hx hb dX9_know_14 rfl (lv_at hl 1 rfl) ?_
    refine lv_bipush (v := 81) hx hb dX9_know_15 (by decide) ?_
    refine lv_icmp_ge (tgt := 44) hx hb dX9_know_17 (by decide) (fun c_7 => ?_) (fun c_7 => ?_)
    · have hB := ifP c_7 hB
      refine lv_aload_n hx hb dX9_know_44 rfl (lv_at hl 0 rfl) ?_
      refine va_get (D := G) (ci := 9) (v := .ref a_t_now) (C := RX9) (T := TX9) (N := 26) hx hb hg inX9 hown hKT hP 0 rfl rfl 16 (by decide) (hg _ gF_X9_35) (fun _ h9 => h9) rfl dX9_know_45 ?_
      refine lv_bipush (v := 9) hx hb dX9_know_48 (by decide) ?_
      refine lv_dup2_11 hx hb dX9_know_50 rfl rfl ?_
      refine va_iald hx hb hKT hP 1 0 rfl rfl (vinC (by decide)) dX9_know_51 ?_
      refine lv_iconst (v := 1) hx hb dX9_know_52 (by decide) ?_
      refine lv_isub hx hb dX9_know_53 ?_
      refine va_iast hx hb hKT hP hD hS 1 0 rfl rfl (vinC (by decide)) dX9_know_54 (fun H locs hP hD hS => ?_)
      have hP : va_P G vwCl (wd_X9_know cs a_t a_t_text a_t_opinions a_t_lines a_t_draftBook a_t_scribes a_t_turn a_t_bent a_t_need a_t_now a_t_isKept a_t_far a_t_marginOf a_t_marginSays v_t_trace v_t_typed v_t_needTold v_t_at v_t_start v_t_sort v_t_value v_t_fault v_t_target v_t_went v_t_ender v_t_had v_t_margins (upd z6_1 (9 : Int32).toNatClampNeg ((z6_1 (9 : Int32).toNatClampNeg) - (1 : Int32)))) H := hP
      have hD : va_D A (wd_X9_know cs a_t a_t_text a_t_opinions a_t_lines a_t_draftBook a_t_scribes a_t_turn a_t_bent a_t_need a_t_now a_t_isKept a_t_far a_t_marginOf a_t_marginSays v_t_trace v_t_typed v_t_needTold v_t_at v_t_start v_t_sort v_t_value v_t_fault v_t_target v_t_went v_t_ender v_t_had v_t_margins (upd z6_1 (9 : Int32).toNatClampNeg ((z6_1 (9 : Int32).toNatClampNeg) - (1 : Int32)))) := hD
      refine lv_iconst (v := 0) hx hb dX9_know_55 (by decide) ?_
      refine lv_istore_n (lv' := [(1, .int (0 : Int32)), (0, .ref a_t)]) hx hb dX9_know_56 rfl hl (by decide) rfl (fun ls hl => ?_)
      obtain ⟨y8, hB, hy8⟩ := bnd hB
      have hK := leafK hy8 hK
      have hK := elimR hK
      refine lp_ind (Wh := fun (z9 : Int32 × (Nat → Int32)) => ∀ (H : Heap) (locs : List Loc), va_P G vwCl (wd_X9_know cs a_t a_t_text a_t_opinions a_t_lines a_t_draftBook a_t_scribes a_t_turn a_t_bent a_t_need a_t_now a_t_isKept a_t_far a_t_marginOf a_t_marginSays v_t_trace v_t_typed v_t_needTold v_t_at v_t_start v_t_sort v_t_value v_t_fault v_t_target v_t_went v_t_ender v_t_had v_t_margins z9.2) H → va_D A (wd_X9_know cs a_t a_t_text a_t_opinions a_t_lines a_t_draftBook a_t_scribes a_t_turn a_t_bent a_t_need a_t_now a_t_isKept a_t_far a_t_marginOf a_t_marginSays v_t_trace v_t_typed v_t_needTold v_t_at v_t_start v_t_sort v_t_value v_t_fault v_t_target v_t_went v_t_ender v_t_had v_t_margins z9.2) → va_S A s.heap H locs → ∀ (ls : Array Slot), lv_has ls 2 [(0, .ref a_t), (1, .int z9.1)] → W p l e rm_X9_know s m ([.ref a_t] : List Value).toArray below meth c H locs 0 0 (MQ below (QcV G A (wd_X9_know cs a_t a_t_text a_t_opinions a_t_lines a_t_draftBook a_t_scribes a_t_turn a_t_bent a_t_need a_t_now a_t_isKept a_t_far a_t_marginOf a_t_marginSays v_t_trace v_t_typed v_t_needTold v_t_at v_t_start v_t_sort v_t_value v_t_fault v_t_target v_t_went v_t_ender v_t_had v_t_margins R0)) ([.ref a_t] : List Value).toArray s 0 0 A) (F0 m 57 ls [])) ?_ FU _ _ hB hK H locs hP hD hS ls (lv_sub hl [1, 0] rfl)
      rintro ⟨z9_0, z9_1⟩ y hB hK H locs hP hD hS ls hl
      have hl : lv_has ls 2 [(0, .ref a_t), (1, .int z9_0)] := hl
      have hP : va_P G vwCl (wd_X9_know cs a_t a_t_text a_t_opinions a_t_lines a_t_draftBook a_t_scribes a_t_turn a_t_bent a_t_need a_t_now a_t_isKept a_t_far a_t_marginOf a_t_marginSays v_t_trace v_t_typed v_t_needTold v_t_at v_t_start v_t_sort v_t_value v_t_fault v_t_target v_t_went v_t_ender v_t_had v_t_margins z9_1) H := hP
      have hD : va_D A (wd_X9_know cs a_t a_t_text a_t_opinions a_t_lines a_t_draftBook a_t_scribes a_t_turn a_t_bent a_t_need a_t_now a_t_isKept a_t_far a_t_marginOf a_t_marginSays v_t_trace v_t_typed v_t_needTold v_t_at v_t_start v_t_sort v_t_value v_t_fault v_t_target v_t_went v_t_ender v_t_had v_t_margins z9_1) := hD
      refine lv_iload_n hx hb dX9_know_57 rfl (lv_at hl 1 rfl) ?_
      refine lv_bipush (v := 9) hx hb dX9_know_58 (by decide) ?_
      refine lv_icmp_ge (tgt := 95) hx hb dX9_know_60 (by decide) (fun c_10 => ?_) (fun c_10 => ?_)
      · have hB := ifP c_10 hB
        refine lv_aload_n hx hb dX9_know_95 rfl (lv_at hl 0 rfl) ?_
        refine va_get (D := G) (ci := 9) (v := .ref a_t_now) (C := RX9) (T := TX9) (N := 26) hx hb hg inX9 hown hKT hP 0 rfl rfl 16 (by decide) (hg _ gF_X9_35) (fun _ h9 => h9) rfl dX9_know_96 ?_
        refine lv_bipush (v := 9) hx hb dX9_know_99 (by decide) ?_
        refine lv_dup2_11 hx hb dX9_know_101 rfl rfl ?_
        refine va_iald hx hb hKT hP 1 0 rfl rfl (vinC (by decide)) dX9_know_102 ?_
        refine lv_iconst (v := 1) hx hb dX9_know_103 (by decide) ?_
        refine lv_iadd hx hb dX9_know_104 ?_
        refine va_iast hx hb hKT hP hD hS 1 0 rfl rfl (vinC (by decide)) dX9_know_105 (fun H locs hP hD hS => ?_)
        have hP : va_P G vwCl (wd_X9_know cs a_t a_t_text a_t_opinions a_t_lines a_t_draftBook a_t_scribes a_t_turn a_t_bent a_t_need a_t_now a_t_isKept a_t_far a_t_marginOf a_t_marginSays v_t_trace v_t_typed v_t_needTold v_t_at v_t_start v_t_sort v_t_value v_t_fault v_t_target v_t_went v_t_ender v_t_had v_t_margins (upd z9_1 (9 : Int32).toNatClampNeg ((z9_1 (9 : Int32).toNatClampNeg) + (1 : Int32)))) H := hP
        have hD : va_D A (wd_X9_know cs a_t a_t_text a_t_opinions a_t_lines a_t_draftBook a_t_scribes a_t_turn a_t_bent a_t_need a_t_now a_t_isKept a_t_far a_t_marginOf a_t_marginSays v_t_trace v_t_typed v_t_needTold v_t_at v_t_start v_t_sort v_t_value v_t_fault v_t_target v_t_went v_t_ender v_t_had v_t_margins (upd z9_1 (9 : Int32).toNatClampNeg ((z9_1 (9 : Int32).toNatClampNeg) + (1 : Int32)))) := hD
        have hK := leafK hB hK
        have hK := elimR hK
        have hK : (upd z9_1 (9 : Int32).toNatClampNeg ((z9_1 (9 : Int32).toNatClampNeg) + (1 : Int32))) = R0 := hK
        subst hK
        exact W.vret hx hb hr (fun t ht hW => ⟨⟨(), rfl, trivial, by rw [ht]; exact hP, hD⟩, hS.F ht⟩) hS.2.2 dX9_know_106
      · have hB := ifN c_10 hB
        refine lv_aload_n hx hb dX9_know_63 rfl (lv_at hl 0 rfl) ?_
        refine va_get (D := G) (ci := 9) (v := .ref a_t_now) (C := RX9) (T := TX9) (N := 26) hx hb hg inX9 hown hKT hP 0 rfl rfl 16 (by decide) (hg _ gF_X9_35) (fun _ h9 => h9) rfl dX9_know_64 ?_
        refine lv_bipush (v := 10) hx hb dX9_know_67 (by decide) ?_
        refine lv_bipush (v := 9) hx hb dX9_know_69 (by decide) ?_
        refine lv_aload_n hx hb dX9_know_71 rfl (lv_at hl 0 rfl) ?_
        refine va_get (D := G) (ci := 9) (v := .ref a_t_now) (C := RX9) (T := TX9) (N := 26) hx hb hg inX9 hown hKT hP 0 rfl rfl 16 (by decide) (hg _ gF_X9_35) (fun _ h9 => h9) rfl dX9_know_72 ?_
        refine lv_bipush (v := 9) hx hb dX9_know_75 (by decide) ?_
        refine va_iald hx hb hKT hP 1 0 rfl rfl (vinC (by decide)) dX9_know_77 ?_
        refine lv_imul hx hb dX9_know_78 ?_
        refine lv_iadd hx hb dX9_know_79 ?_
        refine lv_iload_n hx hb dX9_know_80 rfl (lv_at hl 1 rfl) ?_
        refine lv_iadd hx hb dX9_know_81 ?_
        refine lv_aload_n hx hb dX9_know_82 rfl (lv_at hl 0 rfl) ?_
        refine va_get (D := G) (ci := 9) (v := .ref a_t_now) (C := RX9) (T := TX9) (N := 26) hx hb hg inX9 hown hKT hP 0 rfl rfl 16 (by decide) (hg _ gF_X9_35) (fun _ h9 => h9) rfl dX9_know_83 ?_
        refine lv_iload_n hx hb dX9_know_86 rfl (lv_at hl 1 rfl) ?_
        obtain ⟨h_11, hB⟩ := ifS hB
        refine va_iald hx hb hKT hP 1 0 rfl rfl h_11 dX9_know_87 ?_
        obtain ⟨h_12, hB⟩ := ifS hB
        refine va_iast hx hb hKT hP hD hS 1 0 rfl rfl h_12 dX9_know_88 (fun H locs hP hD hS => ?_)
        have hP : va_P G vwCl (wd_X9_know cs a_t a_t_text a_t_opinions a_t_lines a_t_draftBook a_t_scribes a_t_turn a_t_bent a_t_need a_t_now a_t_isKept a_t_far a_t_marginOf a_t_marginSays v_t_trace v_t_typed v_t_needTold v_t_at v_t_start v_t_sort v_t_value v_t_fault v_t_target v_t_went v_t_ender v_t_had v_t_margins (upd z9_1 (((10 : Int32) + ((9 : Int32) * (z9_1 (9 : Int32).toNatClampNeg))) + z9_0).toNatClampNeg (z9_1 z9_0.toNatClampNeg))) H := hP
        have hD : va_D A (wd_X9_know cs a_t a_t_text a_t_opinions a_t_lines a_t_draftBook a_t_scribes a_t_turn a_t_bent a_t_need a_t_now a_t_isKept a_t_far a_t_marginOf a_t_marginSays v_t_trace v_t_typed v_t_needTold v_t_at v_t_start v_t_sort v_t_value v_t_fault v_t_target v_t_went v_t_ender v_t_had v_t_margins (upd z9_1 (((10 : Int32) + ((9 : Int32) * (z9_1 (9 : Int32).toNatClampNeg))) + z9_0).toNatClampNeg (z9_1 z9_0.toNatClampNeg))) := hD
        refine lv_iinc (v := z9_0 + (1 : Int32)) (lv' := [(1, .int (z9_0 + (1 : Int32))), (0, .ref a_t)]) hx hb dX9_know_89 hl (k := 1) rfl (inc_ok (by decide)) (by decide) rfl (fun ls hl => ?_)
        refine lv_goto (tgt := 57) hx hb dX9_know_92 (by decide) ?_
        have hK := leafK hB hK
        have hK := elimL hK
        exact hK H locs hP hD hS ls (lv_sub hl [1, 0] rfl)
    · have hB := ifN c_7 hB
      refine lv_aload_n hx hb dX9_know_20 rfl (lv_at hl 0 rfl) ?_
      refine va_get (D := G) (ci := 9) (v := .ref a_t_now) (C := RX9) (T := TX9) (N := 26) hx hb hg inX9 hown hKT hP 0 rfl rfl 16 (by decide) (hg _ gF_X9_35) (fun _ h9 => h9) rfl dX9_know_21 ?_
      refine lv_bipush (v := 10) hx hb dX9_know_24 (by decide) ?_
      refine lv_iload_n hx hb dX9_know_26 rfl (lv_at hl 1 rfl) ?_
      refine lv_iadd hx hb dX9_know_27 ?_
      refine lv_aload_n hx hb dX9_know_28 rfl (lv_at hl 0 rfl) ?_
      refine va_get (D := G) (ci := 9) (v := .ref a_t_now) (C := RX9) (T := TX9) (N := 26) hx hb hg inX9 hown hKT hP 0 rfl rfl 16 (by decide) (hg _ gF_X9_35) (fun _ h9 => h9) rfl dX9_know_29 ?_
      refine lv_bipush (v := 19) hx hb dX9_know_32 (by decide) ?_
      refine lv_iload_n hx hb dX9_know_34 rfl (lv_at hl 1 rfl) ?_
      refine lv_iadd hx hb dX9_know_35 ?_
      obtain ⟨h_13, hB⟩ := ifS hB
      refine va_iald hx hb hKT hP 1 0 rfl rfl h_13 dX9_know_36 ?_
      obtain ⟨h_14, hB⟩ := ifS hB
      refine va_iast hx hb hKT hP hD hS 1 0 rfl rfl h_14 dX9_know_37 (fun H locs hP hD hS => ?_)
      have hP : va_P G vwCl (wd_X9_know cs a_t a_t_text a_t_opinions a_t_lines a_t_draftBook a_t_scribes a_t_turn a_t_bent a_t_need a_t_now a_t_isKept a_t_far a_t_marginOf a_t_marginSays v_t_trace v_t_typed v_t_needTold v_t_at v_t_start v_t_sort v_t_value v_t_fault v_t_target v_t_went v_t_ender v_t_had v_t_margins (upd z6_1 ((10 : Int32) + z6_0).toNatClampNeg (z6_1 ((19 : Int32) + z6_0).toNatClampNeg))) H := hP
      have hD : va_D A (wd_X9_know cs a_t a_t_text a_t_opinions a_t_lines a_t_draftBook a_t_scribes a_t_turn a_t_bent a_t_need a_t_now a_t_isKept a_t_far a_t_marginOf a_t_marginSays v_t_trace v_t_typed v_t_needTold v_t_at v_t_start v_t_sort v_t_value v_t_fault v_t_target v_t_went v_t_ender v_t_had v_t_margins (upd z6_1 ((10 : Int32) + z6_0).toNatClampNeg (z6_1 ((19 : Int32) + z6_0).toNatClampNeg))) := hD
      refine lv_iinc (v := z6_0 + (1 : Int32)) (lv' := [(1, .int (z6_0 + (1 : Int32))), (0, .ref a_t)]) hx hb dX9_know_38 hl (k := 1) rfl (inc_ok (by decide)) (by decide) rfl (fun ls hl => ?_)
      refine lv_goto (tgt := 14) hx hb dX9_know_41 (by decide) ?_
      have hK := leafK hB hK
      have hK := elimL hK
      exact hK H locs hP hD hS ls (lv_sub hl [1, 0] rfl)
def wd_X9_copies (cs : Nat → ClassId) (a_t a_t_text a_t_opinions a_t_lines a_t_draftBook a_t_scribes a_t_turn a_t_bent a_t_need a_t_now a_t_isKept a_t_far a_t_marginOf a_t_marginSays : Nat) (v_t_trace : Int64) (v_t_typed : Int32) (v_t_needTold : Int32) (v_t_at : Int32) (v_t_start : Int32) (v_t_sort : Int32) (v_t_value : Int32) (v_t_fault : Int32) (v_t_target : Int32) (v_t_went : Int32) (v_t_ender : Int32) (v_t_had : Int32) (v_t_margins : Int32) (g_t_opinions : Nat → Int32) (g_t_lines : Nat → Int32) (g_t_scribes : Nat → Int32) (g_t_turn : Nat → Int32) (g_t_bent : Nat → Int32) (g_t_need : Nat → Int32) (g_t_now : Nat → Int32) : va_W := [(a_t, .inr (9, [.long v_t_trace, .ref a_t_text, .int v_t_typed, .ref a_t_opinions, .ref a_t_lines, .ref a_t_draftBook, .ref a_t_scribes, .ref a_t_turn, .ref a_t_bent, .ref a_t_need, .int v_t_needTold, .int v_t_at, .int v_t_start, .int v_t_sort, .int v_t_value, .int v_t_fault, .ref a_t_now, .ref a_t_isKept, .int v_t_target, .int v_t_went, .int v_t_ender, .int v_t_had, .ref a_t_far, .ref a_t_marginOf, .ref a_t_marginSays, .int v_t_margins])), (a_t_opinions, .inl (cs 0, 2, .inl g_t_opinions)), (a_t_lines, .inl (cs 0, 2, .inl g_t_lines)), (a_t_scribes, .inl (cs 0, 2, .inl g_t_scribes)), (a_t_turn, .inl (cs 0, 12, .inl g_t_turn)), (a_t_bent, .inl (cs 0, 12, .inl g_t_bent)), (a_t_need, .inl (cs 0, 2, .inl g_t_need)), (a_t_now, .inl (cs 0, 300, .inl g_t_now))]
def rm_X9_copies : Room := { frames := 3, cells := 0, slots := 0, locals := 70 }
theorem mI_X9_copies : MI yX9_copies RX9 cX9_copies 2 (some .int) 1 := ⟨gI_X9_copies, gE_X9_copies, gN_X9, gC_X9_copies, by decide +kernel⟩
set_option maxHeartbeats 4000000 in
set_option maxRecDepth 100000 in
theorem k_X9_copies (l : Launch) (G : va_G) (cs : Nat → ClassId) (a_t a_t_text a_t_opinions a_t_lines a_t_draftBook a_t_scribes a_t_turn a_t_bent a_t_need a_t_now a_t_isKept a_t_far a_t_marginOf a_t_marginSays : Nat) (v_t_trace : Int64) (v_t_typed : Int32) (v_t_needTold : Int32) (v_t_at : Int32) (v_t_start : Int32) (v_t_sort : Int32) (v_t_value : Int32) (v_t_fault : Int32) (v_t_target : Int32) (v_t_went : Int32) (v_t_ender : Int32) (v_t_had : Int32) (v_t_margins : Int32) (g_t_opinions : Nat → Int32) (g_t_lines : Nat → Int32) (g_t_scribes : Nat → Int32) (g_t_turn : Nat → Int32) (g_t_bent : Nat → Int32) (g_t_need : Nat → Int32) (g_t_now : Nat → Int32) (p1 : Int32) (sz : Nat) (R0 : Int32 × (Nat → Int32)) (hB : f_X9_copies g_t_opinions g_t_lines g_t_scribes g_t_turn g_t_bent g_t_need g_t_now p1 = some R0) : Met l yX9_copies (.code yX9_copies cX9_copies 2 (some .int) :: GW) rm_X9_copies (PcW G cs [.ref a_t, .int p1] (wd_X9_copies cs a_t a_t_text a_t_opinions a_t_lines a_t_draftBook a_t_scribes a_t_turn a_t_bent a_t_need a_t_now a_t_isKept a_t_far a_t_marginOf a_t_marginSays v_t_trace v_t_typed v_t_needTold v_t_at v_t_start v_t_sort v_t_value v_t_fault v_t_target v_t_went v_t_ender v_t_had v_t_margins g_t_opinions g_t_lines g_t_scribes g_t_turn g_t_bent g_t_need g_t_now) sz) (QcI G (va_A (wd_X9_copies cs a_t a_t_text a_t_opinions a_t_lines a_t_draftBook a_t_scribes a_t_turn a_t_bent a_t_need a_t_now a_t_isKept a_t_far a_t_marginOf a_t_marginSays v_t_trace v_t_typed v_t_needTold v_t_at v_t_start v_t_sort v_t_value v_t_fault v_t_target v_t_went v_t_ender v_t_had v_t_margins g_t_opinions g_t_lines g_t_scribes g_t_turn g_t_bent g_t_need g_t_now) sz) (wd_X9_copies cs a_t a_t_text a_t_opinions a_t_lines a_t_draftBook a_t_scribes a_t_turn a_t_bent a_t_need a_t_now a_t_isKept a_t_far a_t_marginOf a_t_marginSays v_t_trace v_t_typed v_t_needTold v_t_at v_t_start v_t_sort v_t_value v_t_fault v_t_target v_t_went v_t_ender v_t_had v_t_margins g_t_opinions g_t_lines g_t_scribes g_t_turn g_t_bent g_t_need R0.2) R0.1) 0 0 (va_A (wd_X9_copies cs a_t a_t_text a_t_opinions a_t_lines a_t_draftBook a_t_scribes a_t_turn a_t_bent a_t_need a_t_now a_t_isKept a_t_far a_t_marginOf a_t_marginSays v_t_trace v_t_typed v_t_needTold v_t_at v_t_start v_t_sort v_t_value v_t_fault v_t_target v_t_went v_t_ender v_t_had v_t_margins g_t_opinions g_t_lines g_t_scribes g_t_turn g_t_bent g_t_need g_t_now) sz) := by
  refine Met.ofW (cc := cX9_copies) (maxL := 2) (ret := (some .int)) (by decide) rfl ?_
  intro p e s m args below meth c s₁ B hml hv
  obtain ⟨rfl, hsz, hP, hD0, hK, hN⟩ := hv
  have hx := B.exec
  have hb := B.bytes
  have hr := B.returns
  have hts := atoms_spec (ws := .code yX9_copies cX9_copies 2 (some .int) :: GW) B.pre
  have hg : ∀ w ∈ GW, w.before _ s = true := fun w h => hts w (List.mem_cons_of_mem _ h)
  have hown : s.vm.findClass RX9 = some m.cls := findClass_of_methodNamed B.named
  have hlocks := B.notSynchronized
  subst hsz
  have hD := hD0.self (sz := s.heap.size)
  generalize hAe : va_A (wd_X9_copies cs a_t a_t_text a_t_opinions a_t_lines a_t_draftBook a_t_scribes a_t_turn a_t_bent a_t_need a_t_now a_t_isKept a_t_far a_t_marginOf a_t_marginSays v_t_trace v_t_typed v_t_needTold v_t_at v_t_start v_t_sort v_t_value v_t_fault v_t_target v_t_went v_t_ender v_t_had v_t_margins g_t_opinions g_t_lines g_t_scribes g_t_turn g_t_bent g_t_need g_t_now) s.heap.size = A at hD ⊢
  have hA : ∀ q : Nat, s.heap.size ≤ q → A q := fun q h => by rw [← hAe]; exact Or.inr h
  have hS : va_S A s.heap s.heap [] := va_S.rf
  have hl := lv_entry ([.ref a_t, .int p1]) (n := 2) (Nat.le_of_ble_eq_true rfl)
  rw [lg_entry_eq]
  generalize (lg_sl ([.ref a_t, .int p1]) ++ List.replicate (2 - (lg_sl ([.ref a_t, .int p1])).length) Slot.unset).toArray = ls at hl ⊢
  have hl : lv_has ls 2 [(0, .ref a_t), (1, .int p1)] := hl
  obtain ⟨y, hB, hK0⟩ : ∃ y, f_X9_copies g_t_opinions g_t_lines g_t_scribes g_t_turn g_t_bent g_t_need g_t_now p1 = some y ∧ KEnd R0 y := ⟨R0, hB, rfl⟩
  have hKT := hK
  have hK := hK0
  obtain ⟨H, hHe⟩ : ∃ H, H = s.heap := ⟨_, rfl⟩
  obtain ⟨locs, hLe⟩ : ∃ L : List Loc, L = [] := ⟨_, rfl⟩
  rw [← hHe] at hP
  have hS : va_S A s.heap H locs := by rw [hHe, hLe]; exact hS
  show W p l e rm_X9_copies s m ([.ref a_t, .int p1] : List Value).toArray below meth c s.heap [] 0 0 _ _
  suffices hgo : W p l e rm_X9_copies s m ([.ref a_t, .int p1] : List Value).toArray below meth c H locs 0 0 (MQ below (QcI G A (wd_X9_copies cs a_t a_t_text a_t_opinions a_t_lines a_t_draftBook a_t_scribes a_t_turn a_t_bent a_t_need a_t_now a_t_isKept a_t_far a_t_marginOf a_t_marginSays v_t_trace v_t_typed v_t_needTold v_t_at v_t_start v_t_sort v_t_value v_t_fault v_t_target v_t_went v_t_ender v_t_had v_t_margins g_t_opinions g_t_lines g_t_scribes g_t_turn g_t_bent g_t_need R0.2) R0.1) ([.ref a_t, .int p1] : List Value).toArray s 0 0 A) (F0 m 0 ls []) by rw [hHe, hLe] at hgo; exact hgo
  refine lv_aload_n hx hb dX9_copies_0 rfl (lv_at hl 0 rfl) ?_
  refine lv_iload_n hx hb dX9_copies_1 rfl (lv_at hl 1 rfl) ?_
  obtain ⟨q1, hq1, hB⟩ := bnd hB
  refine kr_V (WC := wd_X9_isScribe cs a_t a_t_text a_t_opinions a_t_lines a_t_draftBook a_t_scribes a_t_turn a_t_bent a_t_need a_t_now a_t_isKept a_t_far a_t_marginOf a_t_marginSays v_t_trace v_t_typed v_t_needTold v_t_at v_t_start v_t_sort v_t_value v_t_fault v_t_target v_t_went v_t_ender v_t_had v_t_margins g_t_scribes) (As := [.int p1]) (rest := []) (r0 := q1) ⟨hx, hb, hml, hown, hg⟩ (k_X9_isScribe l G cs a_t a_t_text a_t_opinions a_t_lines a_t_draftBook a_t_scribes a_t_turn a_t_bent a_t_need a_t_now a_t_isKept a_t_far a_t_marginOf a_t_marginSays v_t_trace v_t_typed v_t_needTold v_t_at v_t_start v_t_sort v_t_value v_t_fault v_t_target v_t_went v_t_ender v_t_had v_t_margins g_t_scribes p1 q1 hq1) gM_X9_133 mI_X9_isScribe (rmk rfl) hP hKT hN 0 rfl rfl [0, 3] rfl rfl hl.1 rfl (Nat.le_of_ble_eq_true rfl) dX9_copies_2 ?_
  refine lv_if_ne (tgt := 10) hx hb dX9_copies_5 (by decide) (fun c_2 => ?_) (fun c_2 => ?_)
  · have hB := ifN c_2 hB
    refine lv_aload_n hx hb dX9_copies_10 rfl (lv_at hl 0 rfl) ?_
    refine va_get (D := G) (ci := 9) (v := .ref a_t_now) (C := RX9) (T := TX9) (N := 26) hx hb hg inX9 hown hKT hP 0 rfl rfl 16 (by decide) (hg _ gF_X9_35) (fun _ h9 => h9) rfl dX9_copies_11 ?_
    refine lv_bipush (v := 8) hx hb dX9_copies_14 (by decide) ?_
    refine va_iald hx hb hKT hP 7 0 rfl rfl (vinC (by decide)) dX9_copies_16 ?_
    refine lv_iload_n hx hb dX9_copies_17 rfl (lv_at hl 1 rfl) ?_
    refine lj_ishr hx hb dX9_copies_18 ?_
    refine lv_iconst (v := 1) hx hb dX9_copies_19 (by decide) ?_
    refine lv_iand hx hb dX9_copies_20 ?_
    refine lv_iconst (v := 1) hx hb dX9_copies_21 (by decide) ?_
    refine lv_icmp_eq (tgt := 51) hx hb dX9_copies_22 (by decide) (fun c_3 => ?_) (fun c_3 => ?_)
    · have hB := ifP c_3 hB
      refine lv_bipush (v := -2) hx hb dX9_copies_51 (by decide) ?_
      have hK := leafK hB hK
      have hK : ((-2 : Int32), g_t_now) = R0 := hK
      subst hK
      exact W.iret (v := (-2 : Int32)) hx hb hr (fun t ht hW => ⟨⟨_, (), rfl, rfl, by rw [ht]; exact hP, hD⟩, hS.F ht⟩) hS.2.2 dX9_copies_53
    · have hB := ifN c_3 hB
      refine lv_aload_n hx hb dX9_copies_25 rfl (lv_at hl 0 rfl) ?_
      refine lv_iload_n hx hb dX9_copies_26 rfl (lv_at hl 1 rfl) ?_
      refine lv_aload_n hx hb dX9_copies_27 rfl (lv_at hl 0 rfl) ?_
      refine va_get (D := G) (ci := 9) (v := .ref a_t_now) (C := RX9) (T := TX9) (N := 26) hx hb hg inX9 hown hKT hP 0 rfl rfl 16 (by decide) (hg _ gF_X9_35) (fun _ h9 => h9) rfl dX9_copies_28 ?_
      refine lv_iconst (v := 0) hx hb dX9_copies_31 (by decide) ?_
      refine va_iald hx hb hKT hP 7 0 rfl rfl (vinC (by decide)) dX9_copies_32 ?_
      obtain ⟨q4, hq4, hB⟩ := bnd hB
      refine kr_V (WC := wd_X9_isConvinced cs a_t a_t_text a_t_opinions a_t_lines a_t_draftBook a_t_scribes a_t_turn a_t_bent a_t_need a_t_now a_t_isKept a_t_far a_t_marginOf a_t_marginSays v_t_trace v_t_typed v_t_needTold v_t_at v_t_start v_t_sort v_t_value v_t_fault v_t_target v_t_went v_t_ender v_t_had v_t_margins g_t_opinions g_t_lines g_t_turn g_t_bent g_t_need) (As := [.int p1, .int (g_t_now (0 : Int32).toNatClampNeg)]) (rest := []) (r0 := q4) ⟨hx, hb, hml, hown, hg⟩ (k_X9_isConvinced l G cs a_t a_t_text a_t_opinions a_t_lines a_t_draftBook a_t_scribes a_t_turn a_t_bent a_t_need a_t_now a_t_isKept a_t_far a_t_marginOf a_t_marginSays v_t_trace v_t_typed v_t_needTold v_t_at v_t_start v_t_sort v_t_value v_t_fault v_t_target v_t_went v_t_ender v_t_had v_t_margins g_t_opinions g_t_lines g_t_turn g_t_bent g_t_need p1 (g_t_now (0 : Int32).toNatClampNeg) q4 hq4) gM_X9_136 mI_X9_isConvinced (rmk rfl) hP hKT hN 0 rfl rfl [0, 1, 2, 4, 5, 6] rfl rfl hl.1 rfl (Nat.le_of_ble_eq_true rfl) dX9_copies_33 ?_
      refine lv_if_ne (tgt := 51) hx hb dX9_copies_36 (by decide) (fun c_5 => ?_) (fun c_5 => ?_)
      · have hB := ifN c_5 hB
        refine lv_bipush (v := -2) hx hb dX9_copies_51 (by decide) ?_
        have hK := leafK hB hK
        have hK : ((-2 : Int32), g_t_now) = R0 := hK
        subst hK
        exact W.iret (v := (-2 : Int32)) hx hb hr (fun t ht hW => ⟨⟨_, (), rfl, rfl, by rw [ht]; exact hP, hD⟩, hS.F ht⟩) hS.2.2 dX9_copies_53
      · have hB := ifP c_5 hB
        refine lv_aload_n hx hb dX9_copies_39 rfl (lv_at hl 0 rfl) ?_
        refine va_get (D := G) (ci := 9) (v := .ref a_t_now) (C := RX9) (T := TX9) (N := 26) hx hb hg inX9 hown hKT hP 0 rfl rfl 16 (by decide) (hg _ gF_X9_35) (fun _ h9 => h9) rfl dX9_copies_40 ?_
        refine lv_iconst (v := 1) hx hb dX9_copies_43 (by decide) ?_
        refine va_iald hx hb hKT hP 7 0 rfl rfl (vinC (by decide)) dX9_copies_44 ?_
        refine lv_sipush (v := 999) hx hb dX9_copies_45 (by decide) ?_
        refine lv_icmp_ne (tgt := 54) hx hb dX9_copies_48 (by decide) (fun c_6 => ?_) (fun c_6 => ?_)
        · have hB := ifN c_6 hB
          refine lv_aload_n hx hb dX9_copies_54 rfl (lv_at hl 0 rfl) ?_
          obtain ⟨q7, hq7, hB⟩ := bnd hB
          refine kw_v (WC := wd_X9_know cs a_t a_t_text a_t_opinions a_t_lines a_t_draftBook a_t_scribes a_t_turn a_t_bent a_t_need a_t_now a_t_isKept a_t_far a_t_marginOf a_t_marginSays v_t_trace v_t_typed v_t_needTold v_t_at v_t_start v_t_sort v_t_value v_t_fault v_t_target v_t_went v_t_ender v_t_had v_t_margins g_t_now) (W1 := wd_X9_know cs a_t a_t_text a_t_opinions a_t_lines a_t_draftBook a_t_scribes a_t_turn a_t_bent a_t_need a_t_now a_t_isKept a_t_far a_t_marginOf a_t_marginSays v_t_trace v_t_typed v_t_needTold v_t_at v_t_start v_t_sort v_t_value v_t_fault v_t_target v_t_went v_t_ender v_t_had v_t_margins q7) (W2 := wd_X9_copies cs a_t a_t_text a_t_opinions a_t_lines a_t_draftBook a_t_scribes a_t_turn a_t_bent a_t_need a_t_now a_t_isKept a_t_far a_t_marginOf a_t_marginSays v_t_trace v_t_typed v_t_needTold v_t_at v_t_start v_t_sort v_t_value v_t_fault v_t_target v_t_went v_t_ender v_t_had v_t_margins g_t_opinions g_t_lines g_t_scribes g_t_turn g_t_bent g_t_need q7) (rw_V (As := []) (rest := []) ⟨hx, hb, hml, hown, hg⟩ (k_X9_know l G cs a_t a_t_text a_t_opinions a_t_lines a_t_draftBook a_t_scribes a_t_turn a_t_bent a_t_need a_t_now a_t_isKept a_t_far a_t_marginOf a_t_marginSays v_t_trace v_t_typed v_t_needTold v_t_at v_t_start v_t_sort v_t_value v_t_fault v_t_target v_t_went v_t_ender v_t_had v_t_margins g_t_now H.size q7 hq7) gM_X9_145 mI_X9_know (rmk rfl) hP hD hKT hN 0 rfl rfl [0, 7] rfl rfl rfl hl.1 rfl (Nat.le_of_ble_eq_true rfl) dX9_copies_55) hP hD hS hA [0, 7] [1, 2, 3, 4, 5, 6] [6, 0, 1, 2, 3, 4, 5, 7] ⟨rfl, rfl, rfl, rfl, rfl, rfl, rfl⟩ (fun H locs hP hD hS => ?_)
          refine lv_aload_n hx hb dX9_copies_58 rfl (lv_at hl 0 rfl) ?_
          refine va_get (D := G) (ci := 9) (v := .ref a_t_now) (C := RX9) (T := TX9) (N := 26) hx hb hg inX9 hown hKT hP 0 rfl rfl 16 (by decide) (hg _ gF_X9_35) (fun _ h9 => h9) rfl dX9_copies_59 ?_
          refine lv_iconst (v := 0) hx hb dX9_copies_62 (by decide) ?_
          refine lv_aload_n hx hb dX9_copies_63 rfl (lv_at hl 0 rfl) ?_
          refine lv_iload_n hx hb dX9_copies_64 rfl (lv_at hl 1 rfl) ?_
          refine lv_aload_n hx hb dX9_copies_65 rfl (lv_at hl 0 rfl) ?_
          refine va_get (D := G) (ci := 9) (v := .ref a_t_now) (C := RX9) (T := TX9) (N := 26) hx hb hg inX9 hown hKT hP 0 rfl rfl 16 (by decide) (hg _ gF_X9_35) (fun _ h9 => h9) rfl dX9_copies_66 ?_
          refine lv_iconst (v := 0) hx hb dX9_copies_69 (by decide) ?_
          refine va_iald hx hb hKT hP 7 0 rfl rfl (vinC (by decide)) dX9_copies_70 ?_
          obtain ⟨q8, hq8, hB⟩ := bnd hB
          refine kr_V (WC := wd_X9_copyOf cs a_t a_t_text a_t_opinions a_t_lines a_t_draftBook a_t_scribes a_t_turn a_t_bent a_t_need a_t_now a_t_isKept a_t_far a_t_marginOf a_t_marginSays v_t_trace v_t_typed v_t_needTold v_t_at v_t_start v_t_sort v_t_value v_t_fault v_t_target v_t_went v_t_ender v_t_had v_t_margins g_t_opinions g_t_lines g_t_turn g_t_bent) (As := [.int p1, .int (q7 (0 : Int32).toNatClampNeg)]) (rest := [.int (0 : Int32), .ref a_t_now]) (r0 := q8) ⟨hx, hb, hml, hown, hg⟩ (k_X9_copyOf l G cs a_t a_t_text a_t_opinions a_t_lines a_t_draftBook a_t_scribes a_t_turn a_t_bent a_t_need a_t_now a_t_isKept a_t_far a_t_marginOf a_t_marginSays v_t_trace v_t_typed v_t_needTold v_t_at v_t_start v_t_sort v_t_value v_t_fault v_t_target v_t_went v_t_ender v_t_had v_t_margins g_t_opinions g_t_lines g_t_turn g_t_bent p1 (q7 (0 : Int32).toNatClampNeg) q8 hq8) gM_X9_126 mI_X9_copyOf (rmk rfl) hP hKT hN 0 rfl rfl [0, 1, 2, 4, 5] rfl rfl hl.1 rfl (Nat.le_of_ble_eq_true rfl) dX9_copies_71 ?_
          refine va_iast hx hb hKT hP hD hS 7 0 rfl rfl (vinC (by decide)) dX9_copies_74 (fun H locs hP hD hS => ?_)
          have hP : va_P G vwCl (wd_X9_copies cs a_t a_t_text a_t_opinions a_t_lines a_t_draftBook a_t_scribes a_t_turn a_t_bent a_t_need a_t_now a_t_isKept a_t_far a_t_marginOf a_t_marginSays v_t_trace v_t_typed v_t_needTold v_t_at v_t_start v_t_sort v_t_value v_t_fault v_t_target v_t_went v_t_ender v_t_had v_t_margins g_t_opinions g_t_lines g_t_scribes g_t_turn g_t_bent g_t_need (upd q7 (0 : Int32).toNatClampNeg q8)) H := hP
          have hD : va_D A (wd_X9_copies cs a_t a_t_text a_t_opinions a_t_lines a_t_draftBook a_t_scribes a_t_turn a_t_bent a_t_need a_t_now a_t_isKept a_t_far a_t_marginOf a_t_marginSays v_t_trace v_t_typed v_t_needTold v_t_at v_t_start v_t_sort v_t_value v_t_fault v_t_target v_t_went v_t_ender v_t_had v_t_margins g_t_opinions g_t_lines g_t_scribes g_t_turn g_t_bent g_t_need (upd q7 (0 : Int32).toNatClampNeg q8)) := hD
          refine lv_aload_n hx hb dX9_copies_75 rfl (lv_at hl 0 rfl) ?_
          refine va_get (D := G) (ci := 9) (v := .ref a_t_now) (C := RX9) (T := TX9) (N := 26) hx hb hg inX9 hown hKT hP 0 rfl rfl 16 (by decide) (hg _ gF_X9_35) (fun _ h9 => h9) rfl dX9_copies_76 ?_
          refine lv_iconst (v := 1) hx hb dX9_copies_79 (by decide) ?_
          refine lv_dup2_11 hx hb dX9_copies_80 rfl rfl ?_
          refine va_iald hx hb hKT hP 7 0 rfl rfl (vinC (by decide)) dX9_copies_81 ?_
          refine lv_iconst (v := 1) hx hb dX9_copies_82 (by decide) ?_
          refine lv_iadd hx hb dX9_copies_83 ?_
          refine va_iast hx hb hKT hP hD hS 7 0 rfl rfl (vinC (by decide)) dX9_copies_84 (fun H locs hP hD hS => ?_)
          have hP : va_P G vwCl (wd_X9_copies cs a_t a_t_text a_t_opinions a_t_lines a_t_draftBook a_t_scribes a_t_turn a_t_bent a_t_need a_t_now a_t_isKept a_t_far a_t_marginOf a_t_marginSays v_t_trace v_t_typed v_t_needTold v_t_at v_t_start v_t_sort v_t_value v_t_fault v_t_target v_t_went v_t_ender v_t_had v_t_margins g_t_opinions g_t_lines g_t_scribes g_t_turn g_t_bent g_t_need (upd (upd q7 (0 : Int32).toNatClampNeg q8) (1 : Int32).toNatClampNeg (((upd q7 (0 : Int32).toNatClampNeg q8) (1 : Int32).toNatClampNeg) + (1 : Int32)))) H := hP
          have hD : va_D A (wd_X9_copies cs a_t a_t_text a_t_opinions a_t_lines a_t_draftBook a_t_scribes a_t_turn a_t_bent a_t_need a_t_now a_t_isKept a_t_far a_t_marginOf a_t_marginSays v_t_trace v_t_typed v_t_needTold v_t_at v_t_start v_t_sort v_t_value v_t_fault v_t_target v_t_went v_t_ender v_t_had v_t_margins g_t_opinions g_t_lines g_t_scribes g_t_turn g_t_bent g_t_need (upd (upd q7 (0 : Int32).toNatClampNeg q8) (1 : Int32).toNatClampNeg (((upd q7 (0 : Int32).toNatClampNeg q8) (1 : Int32).toNatClampNeg) + (1 : Int32)))) := hD
          refine lv_aload_n hx hb dX9_copies_85 rfl (lv_at hl 0 rfl) ?_
          refine va_get (D := G) (ci := 9) (v := .ref a_t_now) (C := RX9) (T := TX9) (N := 26) hx hb hg inX9 hown hKT hP 0 rfl rfl 16 (by decide) (hg _ gF_X9_35) (fun _ h9 => h9) rfl dX9_copies_86 ?_
          refine lv_iconst (v := 2) hx hb dX9_copies_89 (by decide) ?_
          refine lv_iload_n hx hb dX9_copies_90 rfl (lv_at hl 1 rfl) ?_
          refine lv_iadd hx hb dX9_copies_91 ?_
          refine lv_dup2_11 hx hb dX9_copies_92 rfl rfl ?_
          obtain ⟨h_9, hB⟩ := ifS hB
          refine va_iald hx hb hKT hP 7 0 rfl rfl h_9 dX9_copies_93 ?_
          refine lv_iconst (v := 1) hx hb dX9_copies_94 (by decide) ?_
          refine lv_iadd hx hb dX9_copies_95 ?_
          obtain ⟨h_10, hB⟩ := ifS hB
          refine va_iast hx hb hKT hP hD hS 7 0 rfl rfl h_10 dX9_copies_96 (fun H locs hP hD hS => ?_)
          have hP : va_P G vwCl (wd_X9_copies cs a_t a_t_text a_t_opinions a_t_lines a_t_draftBook a_t_scribes a_t_turn a_t_bent a_t_need a_t_now a_t_isKept a_t_far a_t_marginOf a_t_marginSays v_t_trace v_t_typed v_t_needTold v_t_at v_t_start v_t_sort v_t_value v_t_fault v_t_target v_t_went v_t_ender v_t_had v_t_margins g_t_opinions g_t_lines g_t_scribes g_t_turn g_t_bent g_t_need (upd (upd (upd q7 (0 : Int32).toNatClampNeg q8) (1 : Int32).toNatClampNeg (((upd q7 (0 : Int32).toNatClampNeg q8) (1 : Int32).toNatClampNeg) + (1 : Int32))) ((2 : Int32) + p1).toNatClampNeg (((upd (upd q7 (0 : Int32).toNatClampNeg q8) (1 : Int32).toNatClampNeg (((upd q7 (0 : Int32).toNatClampNeg q8) (1 : Int32).toNatClampNeg) + (1 : Int32))) ((2 : Int32) + p1).toNatClampNeg) + (1 : Int32)))) H := hP
          have hD : va_D A (wd_X9_copies cs a_t a_t_text a_t_opinions a_t_lines a_t_draftBook a_t_scribes a_t_turn a_t_bent a_t_need a_t_now a_t_isKept a_t_far a_t_marginOf a_t_marginSays v_t_trace v_t_typed v_t_needTold v_t_at v_t_start v_t_sort v_t_value v_t_fault v_t_target v_t_went v_t_ender v_t_had v_t_margins g_t_opinions g_t_lines g_t_scribes g_t_turn g_t_bent g_t_need (upd (upd (upd q7 (0 : Int32).toNatClampNeg q8) (1 : Int32).toNatClampNeg (((upd q7 (0 : Int32).toNatClampNeg q8) (1 : Int32).toNatClampNeg) + (1 : Int32))) ((2 : Int32) + p1).toNatClampNeg (((upd (upd q7 (0 : Int32).toNatClampNeg q8) (1 : Int32).toNatClampNeg (((upd q7 (0 : Int32).toNatClampNeg q8) (1 : Int32).toNatClampNeg) + (1 : Int32))) ((2 : Int32) + p1).toNatClampNeg) + (1 : Int32)))) := hD
          refine lv_aload_n hx hb dX9_copies_97 rfl (lv_at hl 0 rfl) ?_
          refine va_get (D := G) (ci := 9) (v := .ref a_t_now) (C := RX9) (T := TX9) (N := 26) hx hb hg inX9 hown hKT hP 0 rfl rfl 16 (by decide) (hg _ gF_X9_35) (fun _ h9 => h9) rfl dX9_copies_98 ?_
          refine lv_iconst (v := 1) hx hb dX9_copies_101 (by decide) ?_
          refine va_iald hx hb hKT hP 7 0 rfl rfl (vinC (by decide)) dX9_copies_102 ?_
          have hK := leafK hB hK
          have hK : ((upd (upd (upd q7 (0 : Int32).toNatClampNeg q8) (1 : Int32).toNatClampNeg (((upd q7 (0 : Int32).toNatClampNeg q8) (1 : Int32).toNatClampNeg) + (1 : Int32))) ((2 : Int32) + p1).toNatClampNeg (((upd (upd q7 (0 : Int32).toNatClampNeg q8) (1 : Int32).toNatClampNeg (((upd q7 (0 : Int32).toNatClampNeg q8) (1 : Int32).toNatClampNeg) + (1 : Int32))) ((2 : Int32) + p1).toNatClampNeg) + (1 : Int32))) (1 : Int32).toNatClampNeg, upd (upd (upd q7 (0 : Int32).toNatClampNeg q8) (1 : Int32).toNatClampNeg (((upd q7 (0 : Int32).toNatClampNeg q8) (1 : Int32).toNatClampNeg) + (1 : Int32))) ((2 : Int32) + p1).toNatClampNeg (((upd (upd q7 (0 : Int32).toNatClampNeg q8) (1 : Int32).toNatClampNeg (((upd q7 (0 : Int32).toNatClampNeg q8) (1 : Int32).toNatClampNeg) + (1 : Int32))) ((2 : Int32) + p1).toNatClampNeg) + (1 : Int32))) = R0 := hK
          subst hK
          exact W.iret (v := (upd (upd (upd q7 (0 : Int32).toNatClampNeg q8) (1 : Int32).toNatClampNeg (((upd q7 (0 : Int32).toNatClampNeg q8) (1 : Int32).toNatClampNeg) + (1 : Int32))) ((2 : Int32) + p1).toNatClampNeg (((upd (upd q7 (0 : Int32).toNatClampNeg q8) (1 : Int32).toNatClampNeg (((upd q7 (0 : Int32).toNatClampNeg q8) (1 : Int32).toNatClampNeg) + (1 : Int32))) ((2 : Int32) + p1).toNatClampNeg) + (1 : Int32))) (1 : Int32).toNatClampNeg) hx hb hr (fun t ht hW => ⟨⟨_, (), rfl, rfl, by rw [ht]; exact hP, hD⟩, hS.F ht⟩) hS.2.2 dX9_copies_103
        · have hB := ifP c_6 hB
          refine lv_bipush (v := -2) hx hb dX9_copies_51 (by decide) ?_
          have hK := leafK hB hK
          have hK : ((-2 : Int32), g_t_now) = R0 := hK
          subst hK
          exact W.iret (v := (-2 : Int32)) hx hb hr (fun t ht hW => ⟨⟨_, (), rfl, rfl, by rw [ht]; exact hP, hD⟩, hS.F ht⟩) hS.2.2 dX9_copies_53
  · have hB := ifP c_2 hB
    refine lv_iconst (v := -1) hx hb dX9_copies_8 (by decide) ?_
    have hK := leafK hB hK
    have hK : ((-1 : Int32), g_t_now) = R0 := hK
    subst hK
    exact W.iret (v := (-1 : Int32)) hx hb hr (fun t ht hW => ⟨⟨_, (), rfl, rfl, by rw [ht]; exact hP, hD⟩, hS.F ht⟩) hS.2.2 dX9_copies_9
