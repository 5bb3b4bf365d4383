theorem inX9 : ∀ w ∈ u_ws RX9 TX9 26, w ∈ GW := by
  intro w h
  obtain ⟨k, hk, rfl⟩ := List.mem_map.mp h
  have hk := List.mem_range.mp hk
  rcases (show k = 0 ∨ k = 1 ∨ k = 2 ∨ k = 3 ∨ k = 4 ∨ k = 5 ∨ k = 6 ∨ k = 7 ∨ k = 8 ∨ k = 9 ∨ k = 10 ∨ k = 11 ∨ k = 12 ∨ k = 13 ∨ k = 14 ∨ k = 15 ∨ k = 16 ∨ k = 17 ∨ k = 18 ∨ k = 19 ∨ k = 20 ∨ k = 21 ∨ k = 22 ∨ k = 23 ∨ k = 24 ∨ k = 25 by omega) with rfl | rfl | rfl | rfl | rfl | rfl | rfl | rfl | rfl | rfl | rfl | rfl | rfl | rfl | rfl | rfl | rfl | rfl | rfl | rfl | rfl | rfl | rfl | rfl | rfl | rfl
  · exact gY_X9_trace
  · exact gY_X9_text
  · exact gY_X9_typed
  · exact gY_X9_opinions
  · exact gY_X9_lines
  · exact gY_X9_draftBook
  · exact gY_X9_scribes
  · exact gY_X9_turn
  · exact gY_X9_bent
  · exact gY_X9_need
  · exact gY_X9_needTold
  · exact gY_X9_at
  · exact gY_X9_start
  · exact gY_X9_sort
  · exact gY_X9_value
  · exact gY_X9_fault
  · exact gY_X9_now
  · exact gY_X9_isKept
  · exact gY_X9_target
  · exact gY_X9_went
  · exact gY_X9_ender
  · exact gY_X9_had
  · exact gY_X9_far
  · exact gY_X9_marginOf
  · exact gY_X9_marginSays
  · exact gY_X9_margins
def wd_X9_in (cs : Nat → ClassId) : va_W := []
def rm_X9_in : Room := { frames := 0, cells := 0, slots := 0, locals := 0 }
theorem mS_X9_in : MS yX9_in cX9_in 3 (some .boolean) 3 := ⟨gS_X9_in, gN_X9, gC_X9_in, by decide +kernel⟩
set_option maxHeartbeats 4000000 in
set_option maxRecDepth 100000 in
theorem k_X9_in (l : Launch) (G : va_G) (cs : Nat → ClassId) (p0 p1 p2 : Int32) (R0 : Int32) (hB : f_X9_in p0 p1 p2 = some R0) : Met l yX9_in (.code yX9_in cX9_in 3 (some .boolean) :: GW) rm_X9_in (PcR G cs [.int p0, .int p1, .int p2] (wd_X9_in cs )) (vp_Si (fun r => r = R0)) 0 0 (fun _ => False) := by
  refine Met.ofW (cc := cX9_in) (maxL := 3) (ret := (some .boolean)) (by decide) rfl ?_
  intro p e s m args below meth c s₁ B hml hv
  obtain ⟨rfl, hP, hK, hN⟩ := hv
  have hx := B.exec
  have hb := B.bytes
  have hr := B.returns
  have hts := atoms_spec (ws := .code yX9_in cX9_in 3 (some .boolean) :: GW) B.pre
  have hg : ∀ w ∈ GW, w.before _ s = true := fun w h => hts w (List.mem_cons_of_mem _ h)
  have hown : s.vm.findClass RX9 = some m.cls := findClass_of_methodNamed B.named
  have hlocks := B.notSynchronized
  have hl := lv_entry ([.int p0, .int p1, .int p2]) (n := 3) (Nat.le_of_ble_eq_true rfl)
  rw [lg_entry_eq]
  generalize (lg_sl ([.int p0, .int p1, .int p2]) ++ List.replicate (3 - (lg_sl ([.int p0, .int p1, .int p2])).length) Slot.unset).toArray = ls at hl ⊢
  have hl : lv_has ls 3 [(0, .int p0), (1, .int p1), (2, .int p2)] := hl
  obtain ⟨y, hB, hK0⟩ : ∃ y, f_X9_in p0 p1 p2 = some y ∧ KEnd R0 y := ⟨R0, hB, rfl⟩
  have hKT := hK
  have hK := hK0
  show W p l e rm_X9_in s m ([.int p0, .int p1, .int p2] : List Value).toArray below meth c s.heap [] 0 0 (MQ below (vp_Si (fun r => r = R0)) ([.int p0, .int p1, .int p2] : List Value).toArray s 0 0 (fun _ => False)) (F0 m 0 ls [])
  refine lv_iload_n hx hb dX9_in_0 rfl (lv_at hl 0 rfl) ?_
  refine lv_iload_n hx hb dX9_in_1 rfl (lv_at hl 1 rfl) ?_
  refine lv_icmp_lt (tgt := 14) hx hb dX9_in_2 (by decide) (fun c_1 => ?_) (fun c_1 => ?_)
  · have hB := ifP c_1 hB
    refine lv_iconst (v := 0) hx hb dX9_in_14 (by decide) ?_
    have hK := leafK hB hK
    have hK : (0 : Int32) = R0 := hK
    subst hK
    exact W.zret (v := (0 : Int32)) (ty := .boolean) hx hb hr rfl (fun t ht hW => ⟨_, rfl, rfl, ht⟩) (fun _ h => by cases h) dX9_in_15
  · have hB := ifN c_1 hB
    refine lv_iload_n hx hb dX9_in_5 rfl (lv_at hl 0 rfl) ?_
    refine lv_iload_n hx hb dX9_in_6 rfl (lv_at hl 2 rfl) ?_
    refine lv_icmp_gt (tgt := 14) hx hb dX9_in_7 (by decide) (fun c_2 => ?_) (fun c_2 => ?_)
    · have hB := ifP c_2 hB
      refine lv_iconst (v := 0) hx hb dX9_in_14 (by decide) ?_
      have hK := leafK hB hK
      have hK : (0 : Int32) = R0 := hK
      subst hK
      exact W.zret (v := (0 : Int32)) (ty := .boolean) hx hb hr rfl (fun t ht hW => ⟨_, rfl, rfl, ht⟩) (fun _ h => by cases h) dX9_in_15
    · have hB := ifN c_2 hB
      refine lv_iconst (v := 1) hx hb dX9_in_10 (by decide) ?_
      refine lv_goto (tgt := 15) hx hb dX9_in_11 (by decide) ?_
      have hK := leafK hB hK
      have hK : (1 : Int32) = R0 := hK
      subst hK
      exact W.zret (v := (1 : Int32)) (ty := .boolean) hx hb hr rfl (fun t ht hW => ⟨_, rfl, rfl, ht⟩) (fun _ h => by cases h) dX9_in_15
def wd_X9_type (cs : Nat → ClassId) (a_t a_t_text a_t_opinions a_t_lines a_t_draftBook a_t_scribes a_t_turn a_t_bent a_t_need a_t_now a_t_isKept a_t_far a_t_marginOf a_t_marginSays : Nat) (v_t_trace : Int64) (v_t_typed : Int32) (v_t_needTold : Int32) (v_t_at : Int32) (v_t_start : Int32) (v_t_sort : Int32) (v_t_value : Int32) (v_t_fault : Int32) (v_t_target : Int32) (v_t_went : Int32) (v_t_ender : Int32) (v_t_had : Int32) (v_t_margins : Int32) (g_t_text : Nat → Int32) : va_W := [(a_t, .inr (9, [.long v_t_trace, .ref a_t_text, .int v_t_typed, .ref a_t_opinions, .ref a_t_lines, .ref a_t_draftBook, .ref a_t_scribes, .ref a_t_turn, .ref a_t_bent, .ref a_t_need, .int v_t_needTold, .int v_t_at, .int v_t_start, .int v_t_sort, .int v_t_value, .int v_t_fault, .ref a_t_now, .ref a_t_isKept, .int v_t_target, .int v_t_went, .int v_t_ender, .int v_t_had, .ref a_t_far, .ref a_t_marginOf, .ref a_t_marginSays, .int v_t_margins])), (a_t_text, .inl (cs 1, 120, .inl g_t_text))]
def rm_X9_type : Room := { frames := 1, cells := 0, slots := 0, locals := 22 }
theorem mI_X9_type : MI yX9_type RX9 cX9_type 2 (some .int) 1 := ⟨gI_X9_type, gE_X9_type, gN_X9, gC_X9_type, by decide +kernel⟩
set_option maxHeartbeats 4000000 in
set_option maxRecDepth 100000 in
theorem k_X9_type (l : Launch) (G : va_G) (cs : Nat → ClassId) (a_t a_t_text a_t_opinions a_t_lines a_t_draftBook a_t_scribes a_t_turn a_t_bent a_t_need a_t_now a_t_isKept a_t_far a_t_marginOf a_t_marginSays : Nat) (v_t_trace : Int64) (v_t_typed : Int32) (v_t_needTold : Int32) (v_t_at : Int32) (v_t_start : Int32) (v_t_sort : Int32) (v_t_value : Int32) (v_t_fault : Int32) (v_t_target : Int32) (v_t_went : Int32) (v_t_ender : Int32) (v_t_had : Int32) (v_t_margins : Int32) (g_t_text : Nat → Int32) (p1 : Int32) (sz : Nat) (R0 : Int32 × Int32 × (Nat → Int32)) (hB : f_X9_type v_t_typed g_t_text p1 = some R0) : Met l yX9_type (.code yX9_type cX9_type 2 (some .int) :: GW) rm_X9_type (PcW G cs [.ref a_t, .int p1] (wd_X9_type cs a_t a_t_text a_t_opinions a_t_lines a_t_draftBook a_t_scribes a_t_turn a_t_bent a_t_need a_t_now a_t_isKept a_t_far a_t_marginOf a_t_marginSays v_t_trace v_t_typed v_t_needTold v_t_at v_t_start v_t_sort v_t_value v_t_fault v_t_target v_t_went v_t_ender v_t_had v_t_margins g_t_text) sz) (QcI G (va_A (wd_X9_type cs a_t a_t_text a_t_opinions a_t_lines a_t_draftBook a_t_scribes a_t_turn a_t_bent a_t_need a_t_now a_t_isKept a_t_far a_t_marginOf a_t_marginSays v_t_trace v_t_typed v_t_needTold v_t_at v_t_start v_t_sort v_t_value v_t_fault v_t_target v_t_went v_t_ender v_t_had v_t_margins g_t_text) sz) (wd_X9_type cs a_t a_t_text a_t_opinions a_t_lines a_t_draftBook a_t_scribes a_t_turn a_t_bent a_t_need a_t_now a_t_isKept a_t_far a_t_marginOf a_t_marginSays v_t_trace R0.2.1 v_t_needTold v_t_at v_t_start v_t_sort v_t_value v_t_fault v_t_target v_t_went v_t_ender v_t_had v_t_margins R0.2.2) R0.1) 0 0 (va_A (wd_X9_type cs a_t a_t_text a_t_opinions a_t_lines a_t_draftBook a_t_scribes a_t_turn a_t_bent a_t_need a_t_now a_t_isKept a_t_far a_t_marginOf a_t_marginSays v_t_trace v_t_typed v_t_needTold v_t_at v_t_start v_t_sort v_t_value v_t_fault v_t_target v_t_went v_t_ender v_t_had v_t_margins g_t_text) sz) := by
  refine Met.ofW (cc := cX9_type) (maxL := 2) (ret := (some .int)) (by decide) rfl ?_
  intro p e s m args below meth c s₁ B hml hv
  obtain ⟨rfl, hsz, hP, hD0, hK, hN⟩ := hv
  have hx := B.exec
  have hb := B.bytes
  have hr := B.returns
  have hts := atoms_spec (ws := .code yX9_type cX9_type 2 (some .int) :: GW) B.pre
  have hg : ∀ w ∈ GW, w.before _ s = true := fun w h => hts w (List.mem_cons_of_mem _ h)
  have hown : s.vm.findClass RX9 = some m.cls := findClass_of_methodNamed B.named
  have hlocks := B.notSynchronized
  subst hsz
  have hD := hD0.self (sz := s.heap.size)
  generalize hAe : va_A (wd_X9_type cs a_t a_t_text a_t_opinions a_t_lines a_t_draftBook a_t_scribes a_t_turn a_t_bent a_t_need a_t_now a_t_isKept a_t_far a_t_marginOf a_t_marginSays v_t_trace v_t_typed v_t_needTold v_t_at v_t_start v_t_sort v_t_value v_t_fault v_t_target v_t_went v_t_ender v_t_had v_t_margins g_t_text) s.heap.size = A at hD ⊢
  have hA : ∀ q : Nat, s.heap.size ≤ q → A q := fun q h => by rw [← hAe]; exact Or.inr h
  have hS : va_S A s.heap s.heap [] := va_S.rf
  have hl := lv_entry ([.ref a_t, .int p1]) (n := 2) (Nat.le_of_ble_eq_true rfl)
  rw [lg_entry_eq]
  generalize (lg_sl ([.ref a_t, .int p1]) ++ List.replicate (2 - (lg_sl ([.ref a_t, .int p1])).length) Slot.unset).toArray = ls at hl ⊢
  have hl : lv_has ls 2 [(0, .ref a_t), (1, .int p1)] := hl
  obtain ⟨y, hB, hK0⟩ : ∃ y, f_X9_type v_t_typed g_t_text p1 = some y ∧ KEnd R0 y := ⟨R0, hB, rfl⟩
  have hKT := hK
  have hK := hK0
  obtain ⟨H, hHe⟩ : ∃ H, H = s.heap := ⟨_, rfl⟩
  obtain ⟨locs, hLe⟩ : ∃ L : List Loc, L = [] := ⟨_, rfl⟩
  rw [← hHe] at hP
  have hS : va_S A s.heap H locs := by rw [hHe, hLe]; exact hS
  show W p l e rm_X9_type s m ([.ref a_t, .int p1] : List Value).toArray below meth c s.heap [] 0 0 _ _
  suffices hgo : W p l e rm_X9_type s m ([.ref a_t, .int p1] : List Value).toArray below meth c H locs 0 0 (MQ below (QcI G A (wd_X9_type cs a_t a_t_text a_t_opinions a_t_lines a_t_draftBook a_t_scribes a_t_turn a_t_bent a_t_need a_t_now a_t_isKept a_t_far a_t_marginOf a_t_marginSays v_t_trace R0.2.1 v_t_needTold v_t_at v_t_start v_t_sort v_t_value v_t_fault v_t_target v_t_went v_t_ender v_t_had v_t_margins R0.2.2) R0.1) ([.ref a_t, .int p1] : List Value).toArray s 0 0 A) (F0 m 0 ls []) by rw [hHe, hLe] at hgo; exact hgo
  refine lv_iload_n hx hb dX9_type_0 rfl (lv_at hl 1 rfl) ?_
  refine lv_iconst (v := 0) hx hb dX9_type_1 (by decide) ?_
  refine lv_sipush (v := 255) hx hb dX9_type_2 (by decide) ?_
  obtain ⟨q1, hq1, hB⟩ := bnd hB
  refine kr_S (WC := wd_X9_in cs ) (As := [.int p1, .int (0 : Int32), .int (255 : Int32)]) (rest := []) (r0 := q1) ⟨hx, hb, hml, hown, hg⟩ (k_X9_in l G cs p1 (0 : Int32) (255 : Int32) q1 hq1) gM_X9_57 mS_X9_in (rmk rfl) hP hKT hN [] rfl rfl hl.1 rfl (Nat.le_of_ble_eq_true rfl) dX9_type_5 ?_
  refine lv_if_ne (tgt := 13) hx hb dX9_type_8 (by decide) (fun c_2 => ?_) (fun c_2 => ?_)
  · have hB := ifN c_2 hB
    refine lv_aload_n hx hb dX9_type_13 rfl (lv_at hl 0 rfl) ?_
    refine va_get (D := G) (ci := 9) (v := .int v_t_typed) (C := RX9) (T := TX9) (N := 26) hx hb hg inX9 hown hKT hP 0 rfl rfl 2 (by decide) (hg _ gF_X9_61) (fun _ h9 => h9) rfl dX9_type_14 ?_
    refine lv_bipush (v := 120) hx hb dX9_type_17 (by decide) ?_
    refine lv_icmp_ne (tgt := 25) hx hb dX9_type_19 (by decide) (fun c_3 => ?_) (fun c_3 => ?_)
    · have hB := ifN c_3 hB
      refine lv_aload_n hx hb dX9_type_25 rfl (lv_at hl 0 rfl) ?_
      refine va_get (D := G) (ci := 9) (v := .ref a_t_text) (C := RX9) (T := TX9) (N := 26) hx hb hg inX9 hown hKT hP 0 rfl rfl 1 (by decide) (hg _ gF_X9_7) (fun _ h9 => h9) rfl dX9_type_26 ?_
      refine lv_aload_n hx hb dX9_type_29 rfl (lv_at hl 0 rfl) ?_
      refine va_get (D := G) (ci := 9) (v := .int v_t_typed) (C := RX9) (T := TX9) (N := 26) hx hb hg inX9 hown hKT hP 0 rfl rfl 2 (by decide) (hg _ gF_X9_61) (fun _ h9 => h9) rfl dX9_type_30 ?_
      refine lv_iload_n hx hb dX9_type_33 rfl (lv_at hl 1 rfl) ?_
      refine lv_i2b hx hb dX9_type_34 rfl ?_
      obtain ⟨h_4, hB⟩ := ifS hB
      refine va_bast hx hb hKT hP hD hS 1 1 rfl rfl h_4 dX9_type_35 (fun H locs hP hD hS => ?_)
      have hP : va_P G vwCl (wd_X9_type cs a_t a_t_text a_t_opinions a_t_lines a_t_draftBook a_t_scribes a_t_turn a_t_bent a_t_need a_t_now a_t_isKept a_t_far a_t_marginOf a_t_marginSays v_t_trace v_t_typed v_t_needTold v_t_at v_t_start v_t_sort v_t_value v_t_fault v_t_target v_t_went v_t_ender v_t_had v_t_margins (upd g_t_text v_t_typed.toNatClampNeg (vp_nar .byte p1.toInt8.toInt32))) H := hP
      have hD : va_D A (wd_X9_type cs a_t a_t_text a_t_opinions a_t_lines a_t_draftBook a_t_scribes a_t_turn a_t_bent a_t_need a_t_now a_t_isKept a_t_far a_t_marginOf a_t_marginSays v_t_trace v_t_typed v_t_needTold v_t_at v_t_start v_t_sort v_t_value v_t_fault v_t_target v_t_went v_t_ender v_t_had v_t_margins (upd g_t_text v_t_typed.toNatClampNeg (vp_nar .byte p1.toInt8.toInt32))) := hD
      refine lv_aload_n hx hb dX9_type_36 rfl (lv_at hl 0 rfl) ?_
      refine lv_dup hx hb dX9_type_37 rfl ?_
      refine va_get (D := G) (ci := 9) (v := .int v_t_typed) (C := RX9) (T := TX9) (N := 26) hx hb hg inX9 hown hKT hP 0 rfl rfl 2 (by decide) (hg _ gF_X9_61) (fun _ h9 => h9) rfl dX9_type_38 ?_
      refine lv_iconst (v := 1) hx hb dX9_type_41 (by decide) ?_
      refine lv_iadd hx hb dX9_type_42 ?_
      refine va_put (D := G) (ci := 9) (v := .int (v_t_typed + (1 : Int32))) (ty := .int) (C := RX9) (T := TX9) (N := 26) hx hb hg inX9 tyX9 tyX9_ok nmX9 hown hKT hP hD hS 0 rfl rfl 2 (by decide) (hg _ gF_X9_61) (fun _ h9 => h9) rfl (by decide +kernel) rfl rfl (Nat.le_of_ble_eq_true rfl) dX9_type_43 (fun H locs hP hD hS => ?_)
      have hP : va_P G vwCl (wd_X9_type cs a_t a_t_text a_t_opinions a_t_lines a_t_draftBook a_t_scribes a_t_turn a_t_bent a_t_need a_t_now a_t_isKept a_t_far a_t_marginOf a_t_marginSays v_t_trace (v_t_typed + (1 : Int32)) v_t_needTold v_t_at v_t_start v_t_sort v_t_value v_t_fault v_t_target v_t_went v_t_ender v_t_had v_t_margins (upd g_t_text v_t_typed.toNatClampNeg (vp_nar .byte p1.toInt8.toInt32))) H := hP
      have hD : va_D A (wd_X9_type cs a_t a_t_text a_t_opinions a_t_lines a_t_draftBook a_t_scribes a_t_turn a_t_bent a_t_need a_t_now a_t_isKept a_t_far a_t_marginOf a_t_marginSays v_t_trace (v_t_typed + (1 : Int32)) v_t_needTold v_t_at v_t_start v_t_sort v_t_value v_t_fault v_t_target v_t_went v_t_ender v_t_had v_t_margins (upd g_t_text v_t_typed.toNatClampNeg (vp_nar .byte p1.toInt8.toInt32))) := hD
      refine lv_aload_n hx hb dX9_type_46 rfl (lv_at hl 0 rfl) ?_
      refine va_get (D := G) (ci := 9) (v := .int (v_t_typed + (1 : Int32))) (C := RX9) (T := TX9) (N := 26) hx hb hg inX9 hown hKT hP 0 rfl rfl 2 (by decide) (hg _ gF_X9_61) (fun _ h9 => h9) rfl dX9_type_47 ?_
      have hK := leafK hB hK
      have hK : (v_t_typed + (1 : Int32), v_t_typed + (1 : Int32), upd g_t_text v_t_typed.toNatClampNeg (vp_nar .byte p1.toInt8.toInt32)) = R0 := hK
      subst hK
      exact W.iret (v := v_t_typed + (1 : Int32)) hx hb hr (fun t ht hW => ⟨⟨_, (), rfl, rfl, by rw [ht]; exact hP, hD⟩, hS.F ht⟩) hS.2.2 dX9_type_50
    · have hB := ifP c_3 hB
      refine lv_bipush (v := -3) hx hb dX9_type_22 (by decide) ?_
      have hK := leafK hB hK
      have hK : ((-3 : Int32), v_t_typed, g_t_text) = R0 := hK
      subst hK
      exact W.iret (v := (-3 : Int32)) hx hb hr (fun t ht hW => ⟨⟨_, (), rfl, rfl, by rw [ht]; exact hP, hD⟩, hS.F ht⟩) hS.2.2 dX9_type_24
  · have hB := ifP c_2 hB
    refine lv_iconst (v := -1) hx hb dX9_type_11 (by decide) ?_
    have hK := leafK hB hK
    have hK : ((-1 : Int32), v_t_typed, g_t_text) = R0 := hK
    subst hK
    exact W.iret (v := (-1 : Int32)) hx hb hr (fun t ht hW => ⟨⟨_, (), rfl, rfl, by rw [ht]; exact hP, hD⟩, hS.F ht⟩) hS.2.2 dX9_type_12
def wd_X9_clear (cs : Nat → ClassId) (a_t a_t_text a_t_opinions a_t_lines a_t_draftBook a_t_scribes a_t_turn a_t_bent a_t_need a_t_now a_t_isKept a_t_far a_t_marginOf a_t_marginSays : Nat) (v_t_trace : Int64) (v_t_typed : Int32) (v_t_needTold : Int32) (v_t_at : Int32) (v_t_start : Int32) (v_t_sort : Int32) (v_t_value : Int32) (v_t_fault : Int32) (v_t_target : Int32) (v_t_went : Int32) (v_t_ender : Int32) (v_t_had : Int32) (v_t_margins : Int32) : va_W := [(a_t, .inr (9, [.long v_t_trace, .ref a_t_text, .int v_t_typed, .ref a_t_opinions, .ref a_t_lines, .ref a_t_draftBook, .ref a_t_scribes, .ref a_t_turn, .ref a_t_bent, .ref a_t_need, .int v_t_needTold, .int v_t_at, .int v_t_start, .int v_t_sort, .int v_t_value, .int v_t_fault, .ref a_t_now, .ref a_t_isKept, .int v_t_target, .int v_t_went, .int v_t_ender, .int v_t_had, .ref a_t_far, .ref a_t_marginOf, .ref a_t_marginSays, .int v_t_margins]))]
def rm_X9_clear : Room := { frames := 0, cells := 0, slots := 0, locals := 0 }
theorem mI_X9_clear : MI yX9_clear RX9 cX9_clear 2 (some .int) 0 := ⟨gI_X9_clear, gE_X9_clear, gN_X9, gC_X9_clear, by decide +kernel⟩
set_option maxHeartbeats 4000000 in
set_option maxRecDepth 100000 in
theorem k_X9_clear (l : Launch) (G : va_G) (cs : Nat → ClassId) (a_t a_t_text a_t_opinions a_t_lines a_t_draftBook a_t_scribes a_t_turn a_t_bent a_t_need a_t_now a_t_isKept a_t_far a_t_marginOf a_t_marginSays : Nat) (v_t_trace : Int64) (v_t_typed : Int32) (v_t_needTold : Int32) (v_t_at : Int32) (v_t_start : Int32) (v_t_sort : Int32) (v_t_value : Int32) (v_t_fault : Int32) (v_t_target : Int32) (v_t_went : Int32) (v_t_ender : Int32) (v_t_had : Int32) (v_t_margins : Int32) (sz : Nat) (R0 : Int32 × Int32) (hB : f_X9_clear v_t_typed = some R0) : Met l yX9_clear (.code yX9_clear cX9_clear 2 (some .int) :: GW) rm_X9_clear (PcW G cs [.ref a_t] (wd_X9_clear cs a_t a_t_text a_t_opinions a_t_lines a_t_draftBook a_t_scribes a_t_turn a_t_bent a_t_need a_t_now a_t_isKept a_t_far a_t_marginOf a_t_marginSays v_t_trace v_t_typed v_t_needTold v_t_at v_t_start v_t_sort v_t_value v_t_fault v_t_target v_t_went v_t_ender v_t_had v_t_margins) sz) (QcI G (va_A (wd_X9_clear cs a_t a_t_text a_t_opinions a_t_lines a_t_draftBook a_t_scribes a_t_turn a_t_bent a_t_need a_t_now a_t_isKept a_t_far a_t_marginOf a_t_marginSays v_t_trace v_t_typed v_t_needTold v_t_at v_t_start v_t_sort v_t_value v_t_fault v_t_target v_t_went v_t_ender v_t_had v_t_margins) sz) (wd_X9_clear cs a_t a_t_text a_t_opinions a_t_lines a_t_draftBook a_t_scribes a_t_turn a_t_bent a_t_need a_t_now a_t_isKept a_t_far a_t_marginOf a_t_marginSays v_t_trace R0.2 v_t_needTold v_t_at v_t_start v_t_sort v_t_value v_t_fault v_t_target v_t_went v_t_ender v_t_had v_t_margins) R0.1) 0 0 (va_A (wd_X9_clear cs a_t a_t_text a_t_opinions a_t_lines a_t_draftBook a_t_scribes a_t_turn a_t_bent a_t_need a_t_now a_t_isKept a_t_far a_t_marginOf a_t_marginSays v_t_trace v_t_typed v_t_needTold v_t_at v_t_start v_t_sort v_t_value v_t_fault v_t_target v_t_went v_t_ender v_t_had v_t_margins) sz) := by
  refine Met.ofW (cc := cX9_clear) (maxL := 2) (ret := (some .int)) (by decide) rfl ?_
  intro p e s m args below meth c s₁ B hml hv
  obtain ⟨rfl, hsz, hP, hD0, hK, hN⟩ := hv
  have hx := B.exec
  have hb := B.bytes
  have hr := B.returns
  have hts := atoms_spec (ws := .code yX9_clear cX9_clear 2 (some .int) :: GW) B.pre
  have hg : ∀ w ∈ GW, w.before _ s = true := fun w h => hts w (List.mem_cons_of_mem _ h)
  have hown : s.vm.findClass RX9 = some m.cls := findClass_of_methodNamed B.named
  have hlocks := B.notSynchronized
  subst hsz
  have hD := hD0.self (sz := s.heap.size)
  generalize hAe : va_A (wd_X9_clear cs a_t a_t_text a_t_opinions a_t_lines a_t_draftBook a_t_scribes a_t_turn a_t_bent a_t_need a_t_now a_t_isKept a_t_far a_t_marginOf a_t_marginSays v_t_trace v_t_typed v_t_needTold v_t_at v_t_start v_t_sort v_t_value v_t_fault v_t_target v_t_went v_t_ender v_t_had v_t_margins) s.heap.size = A at hD ⊢
  have hA : ∀ q : Nat, s.heap.size ≤ q → A q := fun q h => by rw [← hAe]; exact Or.inr h
  have hS : va_S A s.heap s.heap [] := va_S.rf
  have hl := lv_entry ([.ref a_t]) (n := 2) (Nat.le_of_ble_eq_true rfl)
  rw [lg_entry_eq]
  generalize (lg_sl ([.ref a_t]) ++ List.replicate (2 - (lg_sl ([.ref a_t])).length) Slot.unset).toArray = ls at hl ⊢
  have hl : lv_has ls 2 [(0, .ref a_t)] := hl
  obtain ⟨y, hB, hK0⟩ : ∃ y, f_X9_clear v_t_typed = some y ∧ KEnd R0 y := ⟨R0, hB, rfl⟩
  have hKT := hK
  have hK := hK0
  obtain ⟨H, hHe⟩ : ∃ H, H = s.heap := ⟨_, rfl⟩
  obtain ⟨locs, hLe⟩ : ∃ L : List Loc, L = [] := ⟨_, rfl⟩
  rw [← hHe] at hP
  have hS : va_S A s.heap H locs := by rw [hHe, hLe]; exact hS
  show W p l e rm_X9_clear s m ([.ref a_t] : List Value).toArray below meth c s.heap [] 0 0 _ _
  suffices hgo : W p l e rm_X9_clear s m ([.ref a_t] : List Value).toArray below meth c H locs 0 0 (MQ below (QcI G A (wd_X9_clear cs a_t a_t_text a_t_opinions a_t_lines a_t_draftBook a_t_scribes a_t_turn a_t_bent a_t_need a_t_now a_t_isKept a_t_far a_t_marginOf a_t_marginSays v_t_trace R0.2 v_t_needTold v_t_at v_t_start v_t_sort v_t_value v_t_fault v_t_target v_t_went v_t_ender v_t_had v_t_margins) R0.1) ([.ref a_t] : List Value).toArray s 0 0 A) (F0 m 0 ls []) by rw [hHe, hLe] at hgo; exact hgo
  refine lv_aload_n hx hb dX9_clear_0 rfl (lv_at hl 0 rfl) ?_
  refine va_get (D := G) (ci := 9) (v := .int v_t_typed) (C := RX9) (T := TX9) (N := 26) hx hb hg inX9 hown hKT hP 0 rfl rfl 2 (by decide) (hg _ gF_X9_61) (fun _ h9 => h9) rfl dX9_clear_1 ?_
  refine lv_istore_n (lv' := [(1, .int v_t_typed), (0, .ref a_t)]) hx hb dX9_clear_4 rfl hl (by decide) rfl (fun ls hl => ?_)
  refine lv_aload_n hx hb dX9_clear_5 rfl (lv_at hl 1 rfl) ?_
  refine lv_iconst (v := 0) hx hb dX9_clear_6 (by decide) ?_
  refine va_put (D := G) (ci := 9) (v := .int (0 : Int32)) (ty := .int) (C := RX9) (T := TX9) (N := 26) hx hb hg inX9 tyX9 tyX9_ok nmX9 hown hKT hP hD hS 0 rfl rfl 2 (by decide) (hg _ gF_X9_61) (fun _ h9 => h9) rfl (by decide +kernel) rfl rfl (Nat.le_of_ble_eq_true rfl) dX9_clear_7 (fun H locs hP hD hS => ?_)
  have hP : va_P G vwCl (wd_X9_clear cs a_t a_t_text a_t_opinions a_t_lines a_t_draftBook a_t_scribes a_t_turn a_t_bent a_t_need a_t_now a_t_isKept a_t_far a_t_marginOf a_t_marginSays v_t_trace (0 : Int32) v_t_needTold v_t_at v_t_start v_t_sort v_t_value v_t_fault v_t_target v_t_went v_t_ender v_t_had v_t_margins) H := hP
  have hD : va_D A (wd_X9_clear cs a_t a_t_text a_t_opinions a_t_lines a_t_draftBook a_t_scribes a_t_turn a_t_bent a_t_need a_t_now a_t_isKept a_t_far a_t_marginOf a_t_marginSays v_t_trace (0 : Int32) v_t_needTold v_t_at v_t_start v_t_sort v_t_value v_t_fault v_t_target v_t_went v_t_ender v_t_had v_t_margins) := hD
  refine lv_iload_n hx hb dX9_clear_10 rfl (lv_at hl 0 rfl) ?_
  have hK := leafK hB hK
  have hK : (v_t_typed, (0 : Int32)) = R0 := hK
  subst hK
  exact W.iret (v := v_t_typed) hx hb hr (fun t ht hW => ⟨⟨_, (), rfl, rfl, by rw [ht]; exact hP, hD⟩, hS.F ht⟩) hS.2.2 dX9_clear_11
def wd_X9_here (cs : Nat → ClassId) (a_t a_t_text a_t_opinions a_t_lines a_t_draftBook a_t_scribes a_t_turn a_t_bent a_t_need a_t_now a_t_isKept a_t_far a_t_marginOf a_t_marginSays : Nat) (v_t_trace : Int64) (v_t_typed : Int32) (v_t_needTold : Int32) (v_t_at : Int32) (v_t_start : Int32) (v_t_sort : Int32) (v_t_value : Int32) (v_t_fault : Int32) (v_t_target : Int32) (v_t_went : Int32) (v_t_ender : Int32) (v_t_had : Int32) (v_t_margins : Int32) (g_t_text : Nat → Int32) : va_W := [(a_t, .inr (9, [.long v_t_trace, .ref a_t_text, .int v_t_typed, .ref a_t_opinions, .ref a_t_lines, .ref a_t_draftBook, .ref a_t_scribes, .ref a_t_turn, .ref a_t_bent, .ref a_t_need, .int v_t_needTold, .int v_t_at, .int v_t_start, .int v_t_sort, .int v_t_value, .int v_t_fault, .ref a_t_now, .ref a_t_isKept, .int v_t_target, .int v_t_went, .int v_t_ender, .int v_t_had, .ref a_t_far, .ref a_t_marginOf, .ref a_t_marginSays, .int v_t_margins])), (a_t_text, .inl (cs 1, 120, .inl g_t_text))]
def rm_X9_here : Room := { frames := 0, cells := 0, slots := 0, locals := 0 }
theorem mI_X9_here : MI yX9_here RX9 cX9_here 1 (some .int) 0 := ⟨gI_X9_here, gE_X9_here, gN_X9, gC_X9_here, by decide +kernel⟩
set_option maxHeartbeats 4000000 in
set_option maxRecDepth 100000 in
theorem k_X9_here (l : Launch) (G : va_G) (cs : Nat → ClassId) (a_t a_t_text a_t_opinions a_t_lines a_t_draftBook a_t_scribes a_t_turn a_t_bent a_t_need a_t_now a_t_isKept a_t_far a_t_marginOf a_t_marginSays : Nat) (v_t_trace : Int64) (v_t_typed : Int32) (v_t_needTold : Int32) (v_t_at : Int32) (v_t_start : Int32) (v_t_sort : Int32) (v_t_value : Int32) (v_t_fault : Int32) (v_t_target : Int32) (v_t_went : Int32) (v_t_ender : Int32) (v_t_had : Int32) (v_t_margins : Int32) (g_t_text : Nat → Int32) (R0 : Int32) (hB : f_X9_here v_t_typed v_t_at g_t_text = some R0) : Met l yX9_here (.code yX9_here cX9_here 1 (some .int) :: GW) rm_X9_here (PcR G cs [.ref a_t] (wd_X9_here cs a_t a_t_text a_t_opinions a_t_lines a_t_draftBook a_t_scribes a_t_turn a_t_bent a_t_need a_t_now a_t_isKept a_t_far a_t_marginOf a_t_marginSays v_t_trace v_t_typed v_t_needTold v_t_at v_t_start v_t_sort v_t_value v_t_fault v_t_target v_t_went v_t_ender v_t_had v_t_margins g_t_text)) (vp_Si (fun r => r = R0)) 0 0 (fun _ => False) := by
  refine Met.ofW (cc := cX9_here) (maxL := 1) (ret := (some .int)) (by decide) rfl ?_
  intro p e s m args below meth c s₁ B hml hv
  obtain ⟨rfl, hP, hK, hN⟩ := hv
  have hx := B.exec
  have hb := B.bytes
  have hr := B.returns
  have hts := atoms_spec (ws := .code yX9_here cX9_here 1 (some .int) :: GW) B.pre
  have hg : ∀ w ∈ GW, w.before _ s = true := fun w h => hts w (List.mem_cons_of_mem _ h)
  have hown : s.vm.findClass RX9 = some m.cls := findClass_of_methodNamed B.named
  have hlocks := B.notSynchronized
  have hl := lv_entry ([.ref a_t]) (n := 1) (Nat.le_of_ble_eq_true rfl)
  rw [lg_entry_eq]
  generalize (lg_sl ([.ref a_t]) ++ List.replicate (1 - (lg_sl ([.ref a_t])).length) Slot.unset).toArray = ls at hl ⊢
  have hl : lv_has ls 1 [(0, .ref a_t)] := hl
  obtain ⟨y, hB, hK0⟩ : ∃ y, f_X9_here v_t_typed v_t_at g_t_text = some y ∧ KEnd R0 y := ⟨R0, hB, rfl⟩
  have hKT := hK
  have hK := hK0
  show W p l e rm_X9_here s m ([.ref a_t] : List Value).toArray below meth c s.heap [] 0 0 (MQ below (vp_Si (fun r => r = R0)) ([.ref a_t] : List Value).toArray s 0 0 (fun _ => False)) (F0 m 0 ls [])
  refine lv_aload_n hx hb dX9_here_0 rfl (lv_at hl 0 rfl) ?_
  refine va_get (D := G) (ci := 9) (v := .int v_t_at) (C := RX9) (T := TX9) (N := 26) hx hb hg inX9 hown hKT hP 0 rfl rfl 11 (by decide) (hg _ gF_X9_65) (fun _ h9 => h9) rfl dX9_here_1 ?_
  refine lv_aload_n hx hb dX9_here_4 rfl (lv_at hl 0 rfl) ?_
  refine va_get (D := G) (ci := 9) (v := .int v_t_typed) (C := RX9) (T := TX9) (N := 26) hx hb hg inX9 hown hKT hP 0 rfl rfl 2 (by decide) (hg _ gF_X9_61) (fun _ h9 => h9) rfl dX9_here_5 ?_
  refine lv_icmp_ge (tgt := 27) hx hb dX9_here_8 (by decide) (fun c_1 => ?_) (fun c_1 => ?_)
  · have hB := ifP c_1 hB
    refine lv_iconst (v := -1) hx hb dX9_here_27 (by decide) ?_
    have hK := leafK hB hK
    have hK : (-1 : Int32) = R0 := hK
    subst hK
    exact W.iret (v := (-1 : Int32)) hx hb hr (fun t ht hW => ⟨_, rfl, rfl, ht⟩) (fun _ h => by cases h) dX9_here_28
  · have hB := ifN c_1 hB
    refine lv_aload_n hx hb dX9_here_11 rfl (lv_at hl 0 rfl) ?_
    refine va_get (D := G) (ci := 9) (v := .ref a_t_text) (C := RX9) (T := TX9) (N := 26) hx hb hg inX9 hown hKT hP 0 rfl rfl 1 (by decide) (hg _ gF_X9_7) (fun _ h9 => h9) rfl dX9_here_12 ?_
    refine lv_aload_n hx hb dX9_here_15 rfl (lv_at hl 0 rfl) ?_
    refine va_get (D := G) (ci := 9) (v := .int v_t_at) (C := RX9) (T := TX9) (N := 26) hx hb hg inX9 hown hKT hP 0 rfl rfl 11 (by decide) (hg _ gF_X9_65) (fun _ h9 => h9) rfl dX9_here_16 ?_
    obtain ⟨h_2, hB⟩ := ifS hB
    refine va_bald hx hb hKT hP 1 1 rfl rfl h_2 dX9_here_19 ?_
    refine lv_sipush (v := 255) hx hb dX9_here_20 (by decide) ?_
    refine lv_iand hx hb dX9_here_23 ?_
    refine lv_goto (tgt := 28) hx hb dX9_here_24 (by decide) ?_
    have hK := leafK hB hK
    have hK : ((g_t_text v_t_at.toNatClampNeg) &&& (255 : Int32)) = R0 := hK
    subst hK
    exact W.iret (v := (g_t_text v_t_at.toNatClampNeg) &&& (255 : Int32)) hx hb hr (fun t ht hW => ⟨_, rfl, rfl, ht⟩) (fun _ h => by cases h) dX9_here_28
def wd_X9_step (cs : Nat → ClassId) (a_t a_t_text a_t_opinions a_t_lines a_t_draftBook a_t_scribes a_t_turn a_t_bent a_t_need a_t_now a_t_isKept a_t_far a_t_marginOf a_t_marginSays : Nat) (v_t_trace : Int64) (v_t_typed : Int32) (v_t_needTold : Int32) (v_t_at : Int32) (v_t_start : Int32) (v_t_sort : Int32) (v_t_value : Int32) (v_t_fault : Int32) (v_t_target : Int32) (v_t_went : Int32) (v_t_ender : Int32) (v_t_had : Int32) (v_t_margins : Int32) (g_t_text : Nat → Int32) : va_W := [(a_t, .inr (9, [.long v_t_trace, .ref a_t_text, .int v_t_typed, .ref a_t_opinions, .ref a_t_lines, .ref a_t_draftBook, .ref a_t_scribes, .ref a_t_turn, .ref a_t_bent, .ref a_t_need, .int v_t_needTold, .int v_t_at, .int v_t_start, .int v_t_sort, .int v_t_value, .int v_t_fault, .ref a_t_now, .ref a_t_isKept, .int v_t_target, .int v_t_went, .int v_t_ender, .int v_t_had, .ref a_t_far, .ref a_t_marginOf, .ref a_t_marginSays, .int v_t_margins])), (a_t_text, .inl (cs 1, 120, .inl g_t_text))]
def rm_X9_step : Room := { frames := 1, cells := 0, slots := 0, locals := 22 }
theorem mI_X9_step : MI yX9_step RX9 cX9_step 2 none 0 := ⟨gI_X9_step, gE_X9_step, gN_X9, gC_X9_step, by decide +kernel⟩
set_option maxHeartbeats 4000000 in
set_option maxRecDepth 100000 in
theorem k_X9_step (l : Launch) (G : va_G) (cs : Nat → ClassId) (a_t a_t_text a_t_opinions a_t_lines a_t_draftBook a_t_scribes a_t_turn a_t_bent a_t_need a_t_now a_t_isKept a_t_far a_t_marginOf a_t_marginSays : Nat) (v_t_trace : Int64) (v_t_typed : Int32) (v_t_needTold : Int32) (v_t_at : Int32) (v_t_start : Int32) (v_t_sort : Int32) (v_t_value : Int32) (v_t_fault : Int32) (v_t_target : Int32) (v_t_went : Int32) (v_t_ender : Int32) (v_t_had : Int32) (v_t_margins : Int32) (g_t_text : Nat → Int32) (sz : Nat) (R0 : Int32 × Int32 × Int32 × Int32) (hB : f_X9_step v_t_typed v_t_at g_t_text = some R0) : Met l yX9_step (.code yX9_step cX9_step 2 none :: GW) rm_X9_step (PcW G cs [.ref a_t] (wd_X9_step cs a_t a_t_text a_t_opinions a_t_lines a_t_draftBook a_t_scribes a_t_turn a_t_bent a_t_need a_t_now a_t_isKept a_t_far a_t_marginOf a_t_marginSays v_t_trace v_t_typed v_t_needTold v_t_at v_t_start v_t_sort v_t_value v_t_fault v_t_target v_t_went v_t_ender v_t_had v_t_margins g_t_text) sz) (QcV G (va_A (wd_X9_step cs a_t a_t_text a_t_opinions a_t_lines a_t_draftBook a_t_scribes a_t_turn a_t_bent a_t_need a_t_now a_t_isKept a_t_far a_t_marginOf a_t_marginSays v_t_trace v_t_typed v_t_needTold v_t_at v_t_start v_t_sort v_t_value v_t_fault v_t_target v_t_went v_t_ender v_t_had v_t_margins g_t_text) sz) (wd_X9_step cs a_t a_t_text a_t_opinions a_t_lines a_t_draftBook a_t_scribes a_t_turn a_t_bent a_t_need a_t_now a_t_isKept a_t_far a_t_marginOf a_t_marginSays v_t_trace v_t_typed v_t_needTold R0.1 R0.2.1 R0.2.2.1 R0.2.2.2 v_t_fault v_t_target v_t_went v_t_ender v_t_had v_t_margins g_t_text)) 0 0 (va_A (wd_X9_step cs a_t a_t_text a_t_opinions a_t_lines a_t_draftBook a_t_scribes a_t_turn a_t_bent a_t_need a_t_now a_t_isKept a_t_far a_t_marginOf a_t_marginSays v_t_trace v_t_typed v_t_needTold v_t_at v_t_start v_t_sort v_t_value v_t_fault v_t_target v_t_went v_t_ender v_t_had v_t_margins g_t_text) sz) := by
  refine Met.ofW (cc := cX9_step) (maxL := 2) (ret := none) (by decide) rfl ?_
  intro p e s m args below meth c s₁ B hml hv
  obtain ⟨rfl, hsz, hP, hD0, hK, hN⟩ := hv
  have hx := B.exec
  have hb := B.bytes
  have hr := B.returns
  have hts := atoms_spec (ws := .code yX9_step cX9_step 2 none :: GW) B.pre
  have hg : ∀ w ∈ GW, w.before _ s = true := fun w h => hts w (List.mem_cons_of_mem _ h)
  have hown : s.vm.findClass RX9 = some m.cls := findClass_of_methodNamed B.named
  have hlocks := B.notSynchronized
  subst hsz
  have hD := hD0.self (sz := s.heap.size)
  generalize hAe : va_A (wd_X9_step cs a_t a_t_text a_t_opinions a_t_lines a_t_draftBook a_t_scribes a_t_turn a_t_bent a_t_need a_t_now a_t_isKept a_t_far a_t_marginOf a_t_marginSays v_t_trace v_t_typed v_t_needTold v_t_at v_t_start v_t_sort v_t_value v_t_fault v_t_target v_t_went v_t_ender v_t_had v_t_margins g_t_text) s.heap.size = A at hD ⊢
  have hA : ∀ q : Nat, s.heap.size ≤ q → A q := fun q h => by rw [← hAe]; exact Or.inr h
  have hS : va_S A s.heap s.heap [] := va_S.rf
  have hl := lv_entry ([.ref a_t]) (n := 2) (Nat.le_of_ble_eq_true rfl)
  rw [lg_entry_eq]
  generalize (lg_sl ([.ref a_t]) ++ List.replicate (2 - (lg_sl ([.ref a_t])).length) Slot.unset).toArray = ls at hl ⊢
  have hl : lv_has ls 2 [(0, .ref a_t)] := hl
  obtain ⟨y, hB, hK0⟩ : ∃ y, f_X9_step v_t_typed v_t_at g_t_text = some y ∧ KEnd R0 y := ⟨R0, hB, rfl⟩
  have hKT := hK
  have hK := hK0
  obtain ⟨H, hHe⟩ : ∃ H, H = s.heap := ⟨_, rfl⟩
  obtain ⟨locs, hLe⟩ : ∃ L : List Loc, L = [] := ⟨_, rfl⟩
  rw [← hHe] at hP
  have hS : va_S A s.heap H locs := by rw [hHe, hLe]; exact hS
  show W p l e rm_X9_step s m ([.ref a_t] : List Value).toArray below meth c s.heap [] 0 0 _ _
  suffices hgo : W p l e rm_X9_step s m ([.ref a_t] : List Value).toArray below meth c H locs 0 0 (MQ below (QcV G A (wd_X9_step cs a_t a_t_text a_t_opinions a_t_lines a_t_draftBook a_t_scribes a_t_turn a_t_bent a_t_need a_t_now a_t_isKept a_t_far a_t_marginOf a_t_marginSays v_t_trace v_t_typed v_t_needTold R0.1 R0.2.1 R0.2.2.1 R0.2.2.2 v_t_fault v_t_target v_t_went v_t_ender v_t_had v_t_margins g_t_text)) ([.ref a_t] : List Value).toArray s 0 0 A) (F0 m 0 ls []) by rw [hHe, hLe] at hgo; exact hgo
  refine lp_ind (Wh := fun (z1 : Int32) => ∀ (H : Heap) (locs : List Loc), va_P G vwCl (wd_X9_step cs a_t a_t_text a_t_opinions a_t_lines a_t_draftBook a_t_scribes a_t_turn a_t_bent a_t_need a_t_now a_t_isKept a_t_far a_t_marginOf a_t_marginSays v_t_trace v_t_typed v_t_needTold z1 v_t_start v_t_sort v_t_value v_t_fault v_t_target v_t_went v_t_ender v_t_had v_t_margins g_t_text) H → va_D A (wd_X9_step cs a_t a_t_text a_t_opinions a_t_lines a_t_draftBook a_t_scribes a_t_turn a_t_bent a_t_need a_t_now a_t_isKept a_t_far a_t_marginOf a_t_marginSays v_t_trace v_t_typed v_t_needTold z1 v_t_start v_t_sort v_t_value v_t_fault v_t_target v_t_went v_t_ender v_t_had v_t_margins g_t_text) → va_S A s.heap H locs → ∀ (ls : Array Slot), lv_has ls 2 [(0, .ref a_t)] → W p l e rm_X9_step s m ([.ref a_t] : List Value).toArray below meth c H locs 0 0 (MQ below (QcV G A (wd_X9_step cs a_t a_t_text a_t_opinions a_t_lines a_t_draftBook a_t_scribes a_t_turn a_t_bent a_t_need a_t_now a_t_isKept a_t_far a_t_marginOf a_t_marginSays v_t_trace v_t_typed v_t_needTold R0.1 R0.2.1 R0.2.2.1 R0.2.2.2 v_t_fault v_t_target v_t_went v_t_ender v_t_had v_t_margins g_t_text)) ([.ref a_t] : List Value).toArray s 0 0 A) (F0 m 0 ls [])) ?_ FU _ _ hB hK H locs hP hD hS ls (lv_sub hl [0] rfl)
  rintro z1 y hB hK H locs hP hD hS ls hl
  have hl : lv_has ls 2 [(0, .ref a_t)] := hl
  have hP : va_P G vwCl (wd_X9_step cs a_t a_t_text a_t_opinions a_t_lines a_t_draftBook a_t_scribes a_t_turn a_t_bent a_t_need a_t_now a_t_isKept a_t_far a_t_marginOf a_t_marginSays v_t_trace v_t_typed v_t_needTold z1 v_t_start v_t_sort v_t_value v_t_fault v_t_target v_t_went v_t_ender v_t_had v_t_margins g_t_text) H := hP
  have hD : va_D A (wd_X9_step cs a_t a_t_text a_t_opinions a_t_lines a_t_draftBook a_t_scribes a_t_turn a_t_bent a_t_need a_t_now a_t_isKept a_t_far a_t_marginOf a_t_marginSays v_t_trace v_t_typed v_t_needTold z1 v_t_start v_t_sort v_t_value v_t_fault v_t_target v_t_went v_t_ender v_t_had v_t_margins g_t_text) := hD
  refine lv_aload_n hx hb dX9_step_0 rfl (lv_at hl 0 rfl) ?_
  obtain ⟨q2, hq2, hB⟩ := bnd hB
  refine kr_V (WC := wd_X9_here cs a_t a_t_text a_t_opinions a_t_lines a_t_draftBook a_t_scribes a_t_turn a_t_bent a_t_need a_t_now a_t_isKept a_t_far a_t_marginOf a_t_marginSays v_t_trace v_t_typed v_t_needTold z1 v_t_start v_t_sort v_t_value v_t_fault v_t_target v_t_went v_t_ender v_t_had v_t_margins g_t_text) (As := []) (rest := []) (r0 := q2) ⟨hx, hb, hml, hown, hg⟩ (k_X9_here l G cs a_t a_t_text a_t_opinions a_t_lines a_t_draftBook a_t_scribes a_t_turn a_t_bent a_t_need a_t_now a_t_isKept a_t_far a_t_marginOf a_t_marginSays v_t_trace v_t_typed v_t_needTold z1 v_t_start v_t_sort v_t_value v_t_fault v_t_target v_t_went v_t_ender v_t_had v_t_margins g_t_text q2 hq2) gM_X9_68 mI_X9_here (rmk rfl) hP hKT hN 0 rfl rfl [0, 1] rfl rfl hl.1 rfl (Nat.le_of_ble_eq_true rfl) dX9_step_1 ?_
  refine lv_bipush (v := 32) hx hb dX9_step_4 (by decide) ?_
  refine lv_icmp_ne (tgt := 22) hx hb dX9_step_6 (by decide) (fun c_3 => ?_) (fun c_3 => ?_)
  · have hB := ifN c_3 hB
    refine lv_aload_n hx hb dX9_step_22 rfl (lv_at hl 0 rfl) ?_
    refine lv_aload_n hx hb dX9_step_23 rfl (lv_at hl 0 rfl) ?_
    refine va_get (D := G) (ci := 9) (v := .int z1) (C := RX9) (T := TX9) (N := 26) hx hb hg inX9 hown hKT hP 0 rfl rfl 11 (by decide) (hg _ gF_X9_65) (fun _ h9 => h9) rfl dX9_step_24 ?_
    refine va_put (D := G) (ci := 9) (v := .int z1) (ty := .int) (C := RX9) (T := TX9) (N := 26) hx hb hg inX9 tyX9 tyX9_ok nmX9 hown hKT hP hD hS 0 rfl rfl 12 (by decide) (hg _ gF_X9_72) (fun _ h9 => h9) rfl (by decide +kernel) rfl rfl (Nat.le_of_ble_eq_true rfl) dX9_step_27 (fun H locs hP hD hS => ?_)
    have hP : va_P G vwCl (wd_X9_step cs a_t a_t_text a_t_opinions a_t_lines a_t_draftBook a_t_scribes a_t_turn a_t_bent a_t_need a_t_now a_t_isKept a_t_far a_t_marginOf a_t_marginSays v_t_trace v_t_typed v_t_needTold z1 z1 v_t_sort v_t_value v_t_fault v_t_target v_t_went v_t_ender v_t_had v_t_margins g_t_text) H := hP
    have hD : va_D A (wd_X9_step cs a_t a_t_text a_t_opinions a_t_lines a_t_draftBook a_t_scribes a_t_turn a_t_bent a_t_need a_t_now a_t_isKept a_t_far a_t_marginOf a_t_marginSays v_t_trace v_t_typed v_t_needTold z1 z1 v_t_sort v_t_value v_t_fault v_t_target v_t_went v_t_ender v_t_had v_t_margins g_t_text) := hD
    refine lv_aload_n hx hb dX9_step_30 rfl (lv_at hl 0 rfl) ?_
    refine lv_iconst (v := 0) hx hb dX9_step_31 (by decide) ?_
    refine va_put (D := G) (ci := 9) (v := .int (0 : Int32)) (ty := .int) (C := RX9) (T := TX9) (N := 26) hx hb hg inX9 tyX9 tyX9_ok nmX9 hown hKT hP hD hS 0 rfl rfl 14 (by decide) (hg _ gF_X9_75) (fun _ h9 => h9) rfl (by decide +kernel) rfl rfl (Nat.le_of_ble_eq_true rfl) dX9_step_32 (fun H locs hP hD hS => ?_)
    have hP : va_P G vwCl (wd_X9_step cs a_t a_t_text a_t_opinions a_t_lines a_t_draftBook a_t_scribes a_t_turn a_t_bent a_t_need a_t_now a_t_isKept a_t_far a_t_marginOf a_t_marginSays v_t_trace v_t_typed v_t_needTold z1 z1 v_t_sort (0 : Int32) v_t_fault v_t_target v_t_went v_t_ender v_t_had v_t_margins g_t_text) H := hP
    have hD : va_D A (wd_X9_step cs a_t a_t_text a_t_opinions a_t_lines a_t_draftBook a_t_scribes a_t_turn a_t_bent a_t_need a_t_now a_t_isKept a_t_far a_t_marginOf a_t_marginSays v_t_trace v_t_typed v_t_needTold z1 z1 v_t_sort (0 : Int32) v_t_fault v_t_target v_t_went v_t_ender v_t_had v_t_margins g_t_text) := hD
    refine lv_aload_n hx hb dX9_step_35 rfl (lv_at hl 0 rfl) ?_
    obtain ⟨q4, hq4, hB⟩ := bnd hB
    refine kr_V (WC := wd_X9_here cs a_t a_t_text a_t_opinions a_t_lines a_t_draftBook a_t_scribes a_t_turn a_t_bent a_t_need a_t_now a_t_isKept a_t_far a_t_marginOf a_t_marginSays v_t_trace v_t_typed v_t_needTold z1 z1 v_t_sort (0 : Int32) v_t_fault v_t_target v_t_went v_t_ender v_t_had v_t_margins g_t_text) (As := []) (rest := []) (r0 := q4) ⟨hx, hb, hml, hown, hg⟩ (k_X9_here l G cs a_t a_t_text a_t_opinions a_t_lines a_t_draftBook a_t_scribes a_t_turn a_t_bent a_t_need a_t_now a_t_isKept a_t_far a_t_marginOf a_t_marginSays v_t_trace v_t_typed v_t_needTold z1 z1 v_t_sort (0 : Int32) v_t_fault v_t_target v_t_went v_t_ender v_t_had v_t_margins g_t_text q4 hq4) gM_X9_68 mI_X9_here (rmk rfl) hP hKT hN 0 rfl rfl [0, 1] rfl rfl hl.1 rfl (Nat.le_of_ble_eq_true rfl) dX9_step_36 ?_
    refine lv_istore_n (lv' := [(1, .int q4), (0, .ref a_t)]) hx hb dX9_step_39 rfl hl (by decide) rfl (fun ls hl => ?_)
    refine lv_iload_n hx hb dX9_step_40 rfl (lv_at hl 0 rfl) ?_
    refine lv_if_ge (tgt := 52) hx hb dX9_step_41 (by decide) (fun c_5 => ?_) (fun c_5 => ?_)
    · have hB := ifP c_5 hB
      refine lv_iload_n hx hb dX9_step_52 rfl (lv_at hl 0 rfl) ?_
      refine lv_bipush (v := 97) hx hb dX9_step_53 (by decide) ?_
      refine lv_bipush (v := 122) hx hb dX9_step_55 (by decide) ?_
      obtain ⟨q6, hq6, hB⟩ := bnd hB
      refine kr_S (WC := wd_X9_in cs ) (As := [.int q4, .int (97 : Int32), .int (122 : Int32)]) (rest := []) (r0 := q6) ⟨hx, hb, hml, hown, hg⟩ (k_X9_in l G cs q4 (97 : Int32) (122 : Int32) q6 hq6) gM_X9_57 mS_X9_in (rmk rfl) hP hKT hN [] rfl rfl hl.1 rfl (Nat.le_of_ble_eq_true rfl) dX9_step_57 ?_
      refine lv_if_eq (tgt := 115) hx hb dX9_step_60 (by decide) (fun c_7 => ?_) (fun c_7 => ?_)
      · have hB := ifP c_7 hB
        refine lv_iload_n hx hb dX9_step_115 rfl (lv_at hl 0 rfl) ?_
        refine lv_bipush (v := 48) hx hb dX9_step_116 (by decide) ?_
        refine lv_bipush (v := 57) hx hb dX9_step_118 (by decide) ?_
        obtain ⟨q8, hq8, hB⟩ := bnd hB
        refine kr_S (WC := wd_X9_in cs ) (As := [.int q4, .int (48 : Int32), .int (57 : Int32)]) (rest := []) (r0 := q8) ⟨hx, hb, hml, hown, hg⟩ (k_X9_in l G cs q4 (48 : Int32) (57 : Int32) q8 hq8) gM_X9_57 mS_X9_in (rmk rfl) hP hKT hN [] rfl rfl hl.1 rfl (Nat.le_of_ble_eq_true rfl) dX9_step_120 ?_
        refine lv_if_eq (tgt := 228) hx hb dX9_step_123 (by decide) (fun c_9 => ?_) (fun c_9 => ?_)
        · have hB := ifP c_9 hB
          refine lv_aload_n hx hb dX9_step_228 rfl (lv_at hl 1 rfl) ?_
          refine lv_dup hx hb dX9_step_229 rfl ?_
          refine va_get (D := G) (ci := 9) (v := .int z1) (C := RX9) (T := TX9) (N := 26) hx hb hg inX9 hown hKT hP 0 rfl rfl 11 (by decide) (hg _ gF_X9_65) (fun _ h9 => h9) rfl dX9_step_230 ?_
          refine lv_iconst (v := 1) hx hb dX9_step_233 (by decide) ?_
          refine lv_iadd hx hb dX9_step_234 ?_
          refine va_put (D := G) (ci := 9) (v := .int (z1 + (1 : Int32))) (ty := .int) (C := RX9) (T := TX9) (N := 26) hx hb hg inX9 tyX9 tyX9_ok nmX9 hown hKT hP hD hS 0 rfl rfl 11 (by decide) (hg _ gF_X9_65) (fun _ h9 => h9) rfl (by decide +kernel) rfl rfl (Nat.le_of_ble_eq_true rfl) dX9_step_235 (fun H locs hP hD hS => ?_)
          have hP : va_P G vwCl (wd_X9_step cs a_t a_t_text a_t_opinions a_t_lines a_t_draftBook a_t_scribes a_t_turn a_t_bent a_t_need a_t_now a_t_isKept a_t_far a_t_marginOf a_t_marginSays v_t_trace v_t_typed v_t_needTold (z1 + (1 : Int32)) z1 v_t_sort (0 : Int32) v_t_fault v_t_target v_t_went v_t_ender v_t_had v_t_margins g_t_text) H := hP
          have hD : va_D A (wd_X9_step cs a_t a_t_text a_t_opinions a_t_lines a_t_draftBook a_t_scribes a_t_turn a_t_bent a_t_need a_t_now a_t_isKept a_t_far a_t_marginOf a_t_marginSays v_t_trace v_t_typed v_t_needTold (z1 + (1 : Int32)) z1 v_t_sort (0 : Int32) v_t_fault v_t_target v_t_went v_t_ender v_t_had v_t_margins g_t_text) := hD
          refine lv_aload_n hx hb dX9_step_238 rfl (lv_at hl 1 rfl) ?_
          refine lv_iload_n hx hb dX9_step_239 rfl (lv_at hl 0 rfl) ?_
          refine lv_bipush (v := 59) hx hb dX9_step_240 (by decide) ?_
          refine lv_icmp_ne (tgt := 249) hx hb dX9_step_242 (by decide) (fun c_10 => ?_) (fun c_10 => ?_)
          · have hB := ifN c_10 hB
            refine lv_iconst (v := 4) hx hb dX9_step_249 (by decide) ?_
            refine va_put (D := G) (ci := 9) (v := .int (4 : Int32)) (ty := .int) (C := RX9) (T := TX9) (N := 26) hx hb hg inX9 tyX9 tyX9_ok nmX9 hown hKT hP hD hS 0 rfl rfl 13 (by decide) (hg _ gF_X9_78) (fun _ h9 => h9) rfl (by decide +kernel) rfl rfl (Nat.le_of_ble_eq_true rfl) dX9_step_250 (fun H locs hP hD hS => ?_)
            have hP : va_P G vwCl (wd_X9_step cs a_t a_t_text a_t_opinions a_t_lines a_t_draftBook a_t_scribes a_t_turn a_t_bent a_t_need a_t_now a_t_isKept a_t_far a_t_marginOf a_t_marginSays v_t_trace v_t_typed v_t_needTold (z1 + (1 : Int32)) z1 (4 : Int32) (0 : Int32) v_t_fault v_t_target v_t_went v_t_ender v_t_had v_t_margins g_t_text) H := hP
            have hD : va_D A (wd_X9_step cs a_t a_t_text a_t_opinions a_t_lines a_t_draftBook a_t_scribes a_t_turn a_t_bent a_t_need a_t_now a_t_isKept a_t_far a_t_marginOf a_t_marginSays v_t_trace v_t_typed v_t_needTold (z1 + (1 : Int32)) z1 (4 : Int32) (0 : Int32) v_t_fault v_t_target v_t_went v_t_ender v_t_had v_t_margins g_t_text) := hD
            have hK := leafK hB hK
            have hK := elimR hK
            have hK : (z1 + (1 : Int32), z1, (4 : Int32), (0 : Int32)) = R0 := hK
            subst hK
            exact W.vret hx hb hr (fun t ht hW => ⟨⟨(), rfl, trivial, by rw [ht]; exact hP, hD⟩, hS.F ht⟩) hS.2.2 dX9_step_253
          · have hB := ifP c_10 hB
            refine lv_iconst (v := 2) hx hb dX9_step_245 (by decide) ?_
            refine lv_goto (tgt := 250) hx hb dX9_step_246 (by decide) ?_
            refine va_put (D := G) (ci := 9) (v := .int (2 : Int32)) (ty := .int) (C := RX9) (T := TX9) (N := 26) hx hb hg inX9 tyX9 tyX9_ok nmX9 hown hKT hP hD hS 0 rfl rfl 13 (by decide) (hg _ gF_X9_78) (fun _ h9 => h9) rfl (by decide +kernel) rfl rfl (Nat.le_of_ble_eq_true rfl) dX9_step_250 (fun H locs hP hD hS => ?_)
            have hP : va_P G vwCl (wd_X9_step cs a_t a_t_text a_t_opinions a_t_lines a_t_draftBook a_t_scribes a_t_turn a_t_bent a_t_need a_t_now a_t_isKept a_t_far a_t_marginOf a_t_marginSays v_t_trace v_t_typed v_t_needTold (z1 + (1 : Int32)) z1 (2 : Int32) (0 : Int32) v_t_fault v_t_target v_t_went v_t_ender v_t_had v_t_margins g_t_text) H := hP
            have hD : va_D A (wd_X9_step cs a_t a_t_text a_t_opinions a_t_lines a_t_draftBook a_t_scribes a_t_turn a_t_bent a_t_need a_t_now a_t_isKept a_t_far a_t_marginOf a_t_marginSays v_t_trace v_t_typed v_t_needTold (z1 + (1 : Int32)) z1 (2 : Int32) (0 : Int32) v_t_fault v_t_target v_t_went v_t_ender v_t_had v_t_margins g_t_text) := hD
            have hK := leafK hB hK
            have hK := elimR hK
            have hK : (z1 + (1 : Int32), z1, (2 : Int32), (0 : Int32)) = R0 := hK
            subst hK
            exact W.vret hx hb hr (fun t ht hW => ⟨⟨(), rfl, trivial, by rw [ht]; exact hP, hD⟩, hS.F ht⟩) hS.2.2 dX9_step_253
        · have hB := ifN c_9 hB
          obtain ⟨y11, hB, hy11⟩ := bnd hB
          have hK := leafK hy11 hK
          have hK := elimR hK
          refine lp_ind (Wh := fun (z12 : Int32 × Int32) => ∀ (H : Heap) (locs : List Loc), va_P G vwCl (wd_X9_step cs a_t a_t_text a_t_opinions a_t_lines a_t_draftBook a_t_scribes a_t_turn a_t_bent a_t_need a_t_now a_t_isKept a_t_far a_t_marginOf a_t_marginSays v_t_trace v_t_typed v_t_needTold z12.1 z1 v_t_sort z12.2 v_t_fault v_t_target v_t_went v_t_ender v_t_had v_t_margins g_t_text) H → va_D A (wd_X9_step cs a_t a_t_text a_t_opinions a_t_lines a_t_draftBook a_t_scribes a_t_turn a_t_bent a_t_need a_t_now a_t_isKept a_t_far a_t_marginOf a_t_marginSays v_t_trace v_t_typed v_t_needTold z12.1 z1 v_t_sort z12.2 v_t_fault v_t_target v_t_went v_t_ender v_t_had v_t_margins g_t_text) → va_S A s.heap H locs → ∀ (ls : Array Slot), lv_has ls 2 [(0, .ref a_t), (1, .int q4)] → W p l e rm_X9_step s m ([.ref a_t] : List Value).toArray below meth c H locs 0 0 (MQ below (QcV G A (wd_X9_step cs a_t a_t_text a_t_opinions a_t_lines a_t_draftBook a_t_scribes a_t_turn a_t_bent a_t_need a_t_now a_t_isKept a_t_far a_t_marginOf a_t_marginSays v_t_trace v_t_typed v_t_needTold R0.1 R0.2.1 R0.2.2.1 R0.2.2.2 v_t_fault v_t_target v_t_went v_t_ender v_t_had v_t_margins g_t_text)) ([.ref a_t] : List Value).toArray s 0 0 A) (F0 m 126 ls [])) ?_ FU _ _ hB hK H locs hP hD hS ls (lv_sub hl [1, 0] rfl)
          rintro ⟨z12_0, z12_1⟩ y hB hK H locs hP hD hS ls hl
          have hl : lv_has ls 2 [(0, .ref a_t), (1, .int q4)] := hl
          have hP : va_P G vwCl (wd_X9_step cs a_t a_t_text a_t_opinions a_t_lines a_t_draftBook a_t_scribes a_t_turn a_t_bent a_t_need a_t_now a_t_isKept a_t_far a_t_marginOf a_t_marginSays v_t_trace v_t_typed v_t_needTold z12_0 z1 v_t_sort z12_1 v_t_fault v_t_target v_t_went v_t_ender v_t_had v_t_margins g_t_text) H := hP
          have hD : va_D A (wd_X9_step cs a_t a_t_text a_t_opinions a_t_lines a_t_draftBook a_t_scribes a_t_turn a_t_bent a_t_need a_t_now a_t_isKept a_t_far a_t_marginOf a_t_marginSays v_t_trace v_t_typed v_t_needTold z12_0 z1 v_t_sort z12_1 v_t_fault v_t_target v_t_went v_t_ender v_t_had v_t_margins g_t_text) := hD
          refine lv_aload_n hx hb dX9_step_126 rfl (lv_at hl 0 rfl) ?_
          obtain ⟨q13, hq13, hB⟩ := bnd hB
          refine kr_V (WC := wd_X9_here cs a_t a_t_text a_t_opinions a_t_lines a_t_draftBook a_t_scribes a_t_turn a_t_bent a_t_need a_t_now a_t_isKept a_t_far a_t_marginOf a_t_marginSays v_t_trace v_t_typed v_t_needTold z12_0 z1 v_t_sort z12_1 v_t_fault v_t_target v_t_went v_t_ender v_t_had v_t_margins g_t_text) (As := []) (rest := []) (r0 := q13) ⟨hx, hb, hml, hown, hg⟩ (k_X9_here l G cs a_t a_t_text a_t_opinions a_t_lines a_t_draftBook a_t_scribes a_t_turn a_t_bent a_t_need a_t_now a_t_isKept a_t_far a_t_marginOf a_t_marginSays v_t_trace v_t_typed v_t_needTold z12_0 z1 v_t_sort z12_1 v_t_fault v_t_target v_t_went v_t_ender v_t_had v_t_margins g_t_text q13 hq13) gM_X9_68 mI_X9_here (rmk rfl) hP hKT hN 0 rfl rfl [0, 1] rfl rfl hl.1 rfl (Nat.le_of_ble_eq_true rfl) dX9_step_127 ?_
          refine lv_bipush (v := 48) hx hb dX9_step_130 (by decide) ?_
          refine lv_bipush (v := 57) hx hb dX9_step_132 (by decide) ?_
          obtain ⟨q14, hq14, hB⟩ := bnd hB
          refine kr_S (WC := wd_X9_in cs ) (As := [.int q13, .int (48 : Int32), .int (57 : Int32)]) (rest := []) (r0 := q14) ⟨hx, hb, hml, hown, hg⟩ (k_X9_in l G cs q13 (48 : Int32) (57 : Int32) q14 hq14) gM_X9_57 mS_X9_in (rmk rfl) hP hKT hN [] rfl rfl hl.1 rfl (Nat.le_of_ble_eq_true rfl) dX9_step_134 ?_
          refine lv_if_eq (tgt := 188) hx hb dX9_step_137 (by decide) (fun c_15 => ?_) (fun c_15 => ?_)
          · have hB := ifP c_15 hB
            refine lv_aload_n hx hb dX9_step_188 rfl (lv_at hl 0 rfl) ?_
            refine lv_aload_n hx hb dX9_step_189 rfl (lv_at hl 0 rfl) ?_
            refine va_get (D := G) (ci := 9) (v := .int z12_1) (C := RX9) (T := TX9) (N := 26) hx hb hg inX9 hown hKT hP 0 rfl rfl 14 (by decide) (hg _ gF_X9_75) (fun _ h9 => h9) rfl dX9_step_190 ?_
            refine lv_bipush (v := 99) hx hb dX9_step_193 (by decide) ?_
            refine lv_icmp_gt (tgt := 217) hx hb dX9_step_195 (by decide) (fun c_16 => ?_) (fun c_16 => ?_)
            · have hB := ifP c_16 hB
              refine lv_iconst (v := 4) hx hb dX9_step_217 (by decide) ?_
              refine lv_goto (tgt := 222) hx hb dX9_step_218 (by decide) ?_
              refine va_put (D := G) (ci := 9) (v := .int (4 : Int32)) (ty := .int) (C := RX9) (T := TX9) (N := 26) hx hb hg inX9 tyX9 tyX9_ok nmX9 hown hKT hP hD hS 0 rfl rfl 13 (by decide) (hg _ gF_X9_78) (fun _ h9 => h9) rfl (by decide +kernel) rfl rfl (Nat.le_of_ble_eq_true rfl) dX9_step_222 (fun H locs hP hD hS => ?_)
              have hP : va_P G vwCl (wd_X9_step cs a_t a_t_text a_t_opinions a_t_lines a_t_draftBook a_t_scribes a_t_turn a_t_bent a_t_need a_t_now a_t_isKept a_t_far a_t_marginOf a_t_marginSays v_t_trace v_t_typed v_t_needTold z12_0 z1 (4 : Int32) z12_1 v_t_fault v_t_target v_t_went v_t_ender v_t_had v_t_margins g_t_text) H := hP
              have hD : va_D A (wd_X9_step cs a_t a_t_text a_t_opinions a_t_lines a_t_draftBook a_t_scribes a_t_turn a_t_bent a_t_need a_t_now a_t_isKept a_t_far a_t_marginOf a_t_marginSays v_t_trace v_t_typed v_t_needTold z12_0 z1 (4 : Int32) z12_1 v_t_fault v_t_target v_t_went v_t_ender v_t_had v_t_margins g_t_text) := hD
              refine lv_goto (tgt := 253) hx hb dX9_step_225 (by decide) ?_
              have hK := leafK hB hK
              have hK := elimR hK
              have hK : (z12_0, z1, (4 : Int32), z12_1) = R0 := hK
              subst hK
              exact W.vret hx hb hr (fun t ht hW => ⟨⟨(), rfl, trivial, by rw [ht]; exact hP, hD⟩, hS.F ht⟩) hS.2.2 dX9_step_253
            · have hB := ifN c_16 hB
              refine lv_iload_n hx hb dX9_step_198 rfl (lv_at hl 1 rfl) ?_
              refine lv_bipush (v := 48) hx hb dX9_step_199 (by decide) ?_
              refine lv_icmp_ne (tgt := 221) hx hb dX9_step_201 (by decide) (fun c_17 => ?_) (fun c_17 => ?_)
              · have hB := ifN c_17 hB
                refine lv_iconst (v := 1) hx hb dX9_step_221 (by decide) ?_
                refine va_put (D := G) (ci := 9) (v := .int (1 : Int32)) (ty := .int) (C := RX9) (T := TX9) (N := 26) hx hb hg inX9 tyX9 tyX9_ok nmX9 hown hKT hP hD hS 0 rfl rfl 13 (by decide) (hg _ gF_X9_78) (fun _ h9 => h9) rfl (by decide +kernel) rfl rfl (Nat.le_of_ble_eq_true rfl) dX9_step_222 (fun H locs hP hD hS => ?_)
                have hP : va_P G vwCl (wd_X9_step cs a_t a_t_text a_t_opinions a_t_lines a_t_draftBook a_t_scribes a_t_turn a_t_bent a_t_need a_t_now a_t_isKept a_t_far a_t_marginOf a_t_marginSays v_t_trace v_t_typed v_t_needTold z12_0 z1 (1 : Int32) z12_1 v_t_fault v_t_target v_t_went v_t_ender v_t_had v_t_margins g_t_text) H := hP
                have hD : va_D A (wd_X9_step cs a_t a_t_text a_t_opinions a_t_lines a_t_draftBook a_t_scribes a_t_turn a_t_bent a_t_need a_t_now a_t_isKept a_t_far a_t_marginOf a_t_marginSays v_t_trace v_t_typed v_t_needTold z12_0 z1 (1 : Int32) z12_1 v_t_fault v_t_target v_t_went v_t_ender v_t_had v_t_margins g_t_text) := hD
                refine lv_goto (tgt := 253) hx hb dX9_step_225 (by decide) ?_
                have hK := leafK hB hK
                have hK := elimR hK
                have hK : (z12_0, z1, (1 : Int32), z12_1) = R0 := hK
                subst hK
                exact W.vret hx hb hr (fun t ht hW => ⟨⟨(), rfl, trivial, by rw [ht]; exact hP, hD⟩, hS.F ht⟩) hS.2.2 dX9_step_253
              · have hB := ifP c_17 hB
                refine lv_aload_n hx hb dX9_step_204 rfl (lv_at hl 0 rfl) ?_
                refine va_get (D := G) (ci := 9) (v := .int z12_0) (C := RX9) (T := TX9) (N := 26) hx hb hg inX9 hown hKT hP 0 rfl rfl 11 (by decide) (hg _ gF_X9_65) (fun _ h9 => h9) rfl dX9_step_205 ?_
                refine lv_aload_n hx hb dX9_step_208 rfl (lv_at hl 0 rfl) ?_
                refine va_get (D := G) (ci := 9) (v := .int z1) (C := RX9) (T := TX9) (N := 26) hx hb hg inX9 hown hKT hP 0 rfl rfl 12 (by decide) (hg _ gF_X9_72) (fun _ h9 => h9) rfl dX9_step_209 ?_
                refine lv_isub hx hb dX9_step_212 ?_
                refine lv_iconst (v := 1) hx hb dX9_step_213 (by decide) ?_
                refine lv_icmp_le (tgt := 221) hx hb dX9_step_214 (by decide) (fun c_18 => ?_) (fun c_18 => ?_)
                · have hB := ifP c_18 hB
                  refine lv_iconst (v := 1) hx hb dX9_step_221 (by decide) ?_
                  refine va_put (D := G) (ci := 9) (v := .int (1 : Int32)) (ty := .int) (C := RX9) (T := TX9) (N := 26) hx hb hg inX9 tyX9 tyX9_ok nmX9 hown hKT hP hD hS 0 rfl rfl 13 (by decide) (hg _ gF_X9_78) (fun _ h9 => h9) rfl (by decide +kernel) rfl rfl (Nat.le_of_ble_eq_true rfl) dX9_step_222 (fun H locs hP hD hS => ?_)
                  have hP : va_P G vwCl (wd_X9_step cs a_t a_t_text a_t_opinions a_t_lines a_t_draftBook a_t_scribes a_t_turn a_t_bent a_t_need a_t_now a_t_isKept a_t_far a_t_marginOf a_t_marginSays v_t_trace v_t_typed v_t_needTold z12_0 z1 (1 : Int32) z12_1 v_t_fault v_t_target v_t_went v_t_ender v_t_had v_t_margins g_t_text) H := hP
                  have hD : va_D A (wd_X9_step cs a_t a_t_text a_t_opinions a_t_lines a_t_draftBook a_t_scribes a_t_turn a_t_bent a_t_need a_t_now a_t_isKept a_t_far a_t_marginOf a_t_marginSays v_t_trace v_t_typed v_t_needTold z12_0 z1 (1 : Int32) z12_1 v_t_fault v_t_target v_t_went v_t_ender v_t_had v_t_margins g_t_text) := hD
                  refine lv_goto (tgt := 253) hx hb dX9_step_225 (by decide) ?_
                  have hK := leafK hB hK
                  have hK := elimR hK
                  have hK : (z12_0, z1, (1 : Int32), z12_1) = R0 := hK
                  subst hK
                  exact W.vret hx hb hr (fun t ht hW => ⟨⟨(), rfl, trivial, by rw [ht]; exact hP, hD⟩, hS.F ht⟩) hS.2.2 dX9_step_253
                · have hB := ifN c_18 hB
                  refine lv_iconst (v := 4) hx hb dX9_step_217 (by decide) ?_
                  refine lv_goto (tgt := 222) hx hb dX9_step_218 (by decide) ?_
                  refine va_put (D := G) (ci := 9) (v := .int (4 : Int32)) (ty := .int) (C := RX9) (T := TX9) (N := 26) hx hb hg inX9 tyX9 tyX9_ok nmX9 hown hKT hP hD hS 0 rfl rfl 13 (by decide) (hg _ gF_X9_78) (fun _ h9 => h9) rfl (by decide +kernel) rfl rfl (Nat.le_of_ble_eq_true rfl) dX9_step_222 (fun H locs hP hD hS => ?_)
                  have hP : va_P G vwCl (wd_X9_step cs a_t a_t_text a_t_opinions a_t_lines a_t_draftBook a_t_scribes a_t_turn a_t_bent a_t_need a_t_now a_t_isKept a_t_far a_t_marginOf a_t_marginSays v_t_trace v_t_typed v_t_needTold z12_0 z1 (4 : Int32) z12_1 v_t_fault v_t_target v_t_went v_t_ender v_t_had v_t_margins g_t_text) H := hP
                  have hD : va_D A (wd_X9_step cs a_t a_t_text a_t_opinions a_t_lines a_t_draftBook a_t_scribes a_t_turn a_t_bent a_t_need a_t_now a_t_isKept a_t_far a_t_marginOf a_t_marginSays v_t_trace v_t_typed v_t_needTold z12_0 z1 (4 : Int32) z12_1 v_t_fault v_t_target v_t_went v_t_ender v_t_had v_t_margins g_t_text) := hD
                  refine lv_goto (tgt := 253) hx hb dX9_step_225 (by decide) ?_
                  have hK := leafK hB hK
                  have hK := elimR hK
                  have hK : (z12_0, z1, (4 : Int32), z12_1) = R0 := hK
                  subst hK
                  exact W.vret hx hb hr (fun t ht hW => ⟨⟨(), rfl, trivial, by rw [ht]; exact hP, hD⟩, hS.F ht⟩) hS.2.2 dX9_step_253
          · have hB := ifN c_15 hB
            refine lv_aload_n hx hb dX9_step_140 rfl (lv_at hl 0 rfl) ?_
            refine lv_aload_n hx hb dX9_step_141 rfl (lv_at hl 0 rfl) ?_
            refine va_get (D := G) (ci := 9) (v := .int z12_1) (C := RX9) (T := TX9) (N := 26) hx hb hg inX9 hown hKT hP 0 rfl rfl 14 (by decide) (hg _ gF_X9_75) (fun _ h9 => h9) rfl dX9_step_142 ?_
            refine lv_bipush (v := 99) hx hb dX9_step_145 (by decide) ?_
            refine lv_icmp_le (tgt := 157) hx hb dX9_step_147 (by decide) (fun c_19 => ?_) (fun c_19 => ?_)
            · have hB := ifP c_19 hB
              refine lv_bipush (v := 10) hx hb dX9_step_157 (by decide) ?_
              refine lv_aload_n hx hb dX9_step_159 rfl (lv_at hl 0 rfl) ?_
              refine va_get (D := G) (ci := 9) (v := .int z12_1) (C := RX9) (T := TX9) (N := 26) hx hb hg inX9 hown hKT hP 0 rfl rfl 14 (by decide) (hg _ gF_X9_75) (fun _ h9 => h9) rfl dX9_step_160 ?_
              refine lv_imul hx hb dX9_step_163 ?_
              refine lv_aload_n hx hb dX9_step_164 rfl (lv_at hl 0 rfl) ?_
              obtain ⟨q20, hq20, hB⟩ := bnd hB
              refine kr_V (WC := wd_X9_here cs a_t a_t_text a_t_opinions a_t_lines a_t_draftBook a_t_scribes a_t_turn a_t_bent a_t_need a_t_now a_t_isKept a_t_far a_t_marginOf a_t_marginSays v_t_trace v_t_typed v_t_needTold z12_0 z1 v_t_sort z12_1 v_t_fault v_t_target v_t_went v_t_ender v_t_had v_t_margins g_t_text) (As := []) (rest := [.int ((10 : Int32) * z12_1), .ref a_t]) (r0 := q20) ⟨hx, hb, hml, hown, hg⟩ (k_X9_here l G cs a_t a_t_text a_t_opinions a_t_lines a_t_draftBook a_t_scribes a_t_turn a_t_bent a_t_need a_t_now a_t_isKept a_t_far a_t_marginOf a_t_marginSays v_t_trace v_t_typed v_t_needTold z12_0 z1 v_t_sort z12_1 v_t_fault v_t_target v_t_went v_t_ender v_t_had v_t_margins g_t_text q20 hq20) gM_X9_68 mI_X9_here (rmk rfl) hP hKT hN 0 rfl rfl [0, 1] rfl rfl hl.1 rfl (Nat.le_of_ble_eq_true rfl) dX9_step_165 ?_
              refine lv_iadd hx hb dX9_step_168 ?_
              refine lv_bipush (v := 48) hx hb dX9_step_169 (by decide) ?_
              refine lv_isub hx hb dX9_step_171 ?_
              refine va_put (D := G) (ci := 9) (v := .int ((((10 : Int32) * z12_1) + q20) - (48 : Int32))) (ty := .int) (C := RX9) (T := TX9) (N := 26) hx hb hg inX9 tyX9 tyX9_ok nmX9 hown hKT hP hD hS 0 rfl rfl 14 (by decide) (hg _ gF_X9_75) (fun _ h9 => h9) rfl (by decide +kernel) rfl rfl (Nat.le_of_ble_eq_true rfl) dX9_step_172 (fun H locs hP hD hS => ?_)
              have hP : va_P G vwCl (wd_X9_step cs a_t a_t_text a_t_opinions a_t_lines a_t_draftBook a_t_scribes a_t_turn a_t_bent a_t_need a_t_now a_t_isKept a_t_far a_t_marginOf a_t_marginSays v_t_trace v_t_typed v_t_needTold z12_0 z1 v_t_sort ((((10 : Int32) * z12_1) + q20) - (48 : Int32)) v_t_fault v_t_target v_t_went v_t_ender v_t_had v_t_margins g_t_text) H := hP
              have hD : va_D A (wd_X9_step cs a_t a_t_text a_t_opinions a_t_lines a_t_draftBook a_t_scribes a_t_turn a_t_bent a_t_need a_t_now a_t_isKept a_t_far a_t_marginOf a_t_marginSays v_t_trace v_t_typed v_t_needTold z12_0 z1 v_t_sort ((((10 : Int32) * z12_1) + q20) - (48 : Int32)) v_t_fault v_t_target v_t_went v_t_ender v_t_had v_t_margins g_t_text) := hD
              refine lv_aload_n hx hb dX9_step_175 rfl (lv_at hl 0 rfl) ?_
              refine lv_dup hx hb dX9_step_176 rfl ?_
              refine va_get (D := G) (ci := 9) (v := .int z12_0) (C := RX9) (T := TX9) (N := 26) hx hb hg inX9 hown hKT hP 0 rfl rfl 11 (by decide) (hg _ gF_X9_65) (fun _ h9 => h9) rfl dX9_step_177 ?_
              refine lv_iconst (v := 1) hx hb dX9_step_180 (by decide) ?_
              refine lv_iadd hx hb dX9_step_181 ?_
              refine va_put (D := G) (ci := 9) (v := .int (z12_0 + (1 : Int32))) (ty := .int) (C := RX9) (T := TX9) (N := 26) hx hb hg inX9 tyX9 tyX9_ok nmX9 hown hKT hP hD hS 0 rfl rfl 11 (by decide) (hg _ gF_X9_65) (fun _ h9 => h9) rfl (by decide +kernel) rfl rfl (Nat.le_of_ble_eq_true rfl) dX9_step_182 (fun H locs hP hD hS => ?_)
              have hP : va_P G vwCl (wd_X9_step cs a_t a_t_text a_t_opinions a_t_lines a_t_draftBook a_t_scribes a_t_turn a_t_bent a_t_need a_t_now a_t_isKept a_t_far a_t_marginOf a_t_marginSays v_t_trace v_t_typed v_t_needTold (z12_0 + (1 : Int32)) z1 v_t_sort ((((10 : Int32) * z12_1) + q20) - (48 : Int32)) v_t_fault v_t_target v_t_went v_t_ender v_t_had v_t_margins g_t_text) H := hP
              have hD : va_D A (wd_X9_step cs a_t a_t_text a_t_opinions a_t_lines a_t_draftBook a_t_scribes a_t_turn a_t_bent a_t_need a_t_now a_t_isKept a_t_far a_t_marginOf a_t_marginSays v_t_trace v_t_typed v_t_needTold (z12_0 + (1 : Int32)) z1 v_t_sort ((((10 : Int32) * z12_1) + q20) - (48 : Int32)) v_t_fault v_t_target v_t_went v_t_ender v_t_had v_t_margins g_t_text) := hD
              refine lv_goto (tgt := 126) hx hb dX9_step_185 (by decide) ?_
              have hK := leafK hB hK
              have hK := elimL hK
              exact hK H locs hP hD hS ls (lv_sub hl [0, 1] rfl)
            · have hB := ifN c_19 hB
              refine lv_aload_n hx hb dX9_step_150 rfl (lv_at hl 0 rfl) ?_
              refine va_get (D := G) (ci := 9) (v := .int z12_1) (C := RX9) (T := TX9) (N := 26) hx hb hg inX9 hown hKT hP 0 rfl rfl 14 (by decide) (hg _ gF_X9_75) (fun _ h9 => h9) rfl dX9_step_151 ?_
              refine lv_goto (tgt := 172) hx hb dX9_step_154 (by decide) ?_
              refine va_put (D := G) (ci := 9) (v := .int z12_1) (ty := .int) (C := RX9) (T := TX9) (N := 26) hx hb hg inX9 tyX9 tyX9_ok nmX9 hown hKT hP hD hS 0 rfl rfl 14 (by decide) (hg _ gF_X9_75) (fun _ h9 => h9) rfl (by decide +kernel) rfl rfl (Nat.le_of_ble_eq_true rfl) dX9_step_172 (fun H locs hP hD hS => ?_)
              have hP : va_P G vwCl (wd_X9_step cs a_t a_t_text a_t_opinions a_t_lines a_t_draftBook a_t_scribes a_t_turn a_t_bent a_t_need a_t_now a_t_isKept a_t_far a_t_marginOf a_t_marginSays v_t_trace v_t_typed v_t_needTold z12_0 z1 v_t_sort z12_1 v_t_fault v_t_target v_t_went v_t_ender v_t_had v_t_margins g_t_text) H := hP
              have hD : va_D A (wd_X9_step cs a_t a_t_text a_t_opinions a_t_lines a_t_draftBook a_t_scribes a_t_turn a_t_bent a_t_need a_t_now a_t_isKept a_t_far a_t_marginOf a_t_marginSays v_t_trace v_t_typed v_t_needTold z12_0 z1 v_t_sort z12_1 v_t_fault v_t_target v_t_went v_t_ender v_t_had v_t_margins g_t_text) := hD
              refine lv_aload_n hx hb dX9_step_175 rfl (lv_at hl 0 rfl) ?_
              refine lv_dup hx hb dX9_step_176 rfl ?_
              refine va_get (D := G) (ci := 9) (v := .int z12_0) (C := RX9) (T := TX9) (N := 26) hx hb hg inX9 hown hKT hP 0 rfl rfl 11 (by decide) (hg _ gF_X9_65) (fun _ h9 => h9) rfl dX9_step_177 ?_
              refine lv_iconst (v := 1) hx hb dX9_step_180 (by decide) ?_
              refine lv_iadd hx hb dX9_step_181 ?_
              refine va_put (D := G) (ci := 9) (v := .int (z12_0 + (1 : Int32))) (ty := .int) (C := RX9) (T := TX9) (N := 26) hx hb hg inX9 tyX9 tyX9_ok nmX9 hown hKT hP hD hS 0 rfl rfl 11 (by decide) (hg _ gF_X9_65) (fun _ h9 => h9) rfl (by decide +kernel) rfl rfl (Nat.le_of_ble_eq_true rfl) dX9_step_182 (fun H locs hP hD hS => ?_)
              have hP : va_P G vwCl (wd_X9_step cs a_t a_t_text a_t_opinions a_t_lines a_t_draftBook a_t_scribes a_t_turn a_t_bent a_t_need a_t_now a_t_isKept a_t_far a_t_marginOf a_t_marginSays v_t_trace v_t_typed v_t_needTold (z12_0 + (1 : Int32)) z1 v_t_sort z12_1 v_t_fault v_t_target v_t_went v_t_ender v_t_had v_t_margins g_t_text) H := hP
              have hD : va_D A (wd_X9_step cs a_t a_t_text a_t_opinions a_t_lines a_t_draftBook a_t_scribes a_t_turn a_t_bent a_t_need a_t_now a_t_isKept a_t_far a_t_marginOf a_t_marginSays v_t_trace v_t_typed v_t_needTold (z12_0 + (1 : Int32)) z1 v_t_sort z12_1 v_t_fault v_t_target v_t_went v_t_ender v_t_had v_t_margins g_t_text) := hD
              refine lv_goto (tgt := 126) hx hb dX9_step_185 (by decide) ?_
              have hK := leafK hB hK
              have hK := elimL hK
              exact hK H locs hP hD hS ls (lv_sub hl [0, 1] rfl)
      · have hB := ifN c_7 hB
        obtain ⟨y21, hB, hy21⟩ := bnd hB
        have hK := leafK hy21 hK
        have hK := elimR hK
        refine lp_ind (Wh := fun (z22 : Int32) => ∀ (H : Heap) (locs : List Loc), va_P G vwCl (wd_X9_step cs a_t a_t_text a_t_opinions a_t_lines a_t_draftBook a_t_scribes a_t_turn a_t_bent a_t_need a_t_now a_t_isKept a_t_far a_t_marginOf a_t_marginSays v_t_trace v_t_typed v_t_needTold z22 z1 v_t_sort (0 : Int32) v_t_fault v_t_target v_t_went v_t_ender v_t_had v_t_margins g_t_text) H → va_D A (wd_X9_step cs a_t a_t_text a_t_opinions a_t_lines a_t_draftBook a_t_scribes a_t_turn a_t_bent a_t_need a_t_now a_t_isKept a_t_far a_t_marginOf a_t_marginSays v_t_trace v_t_typed v_t_needTold z22 z1 v_t_sort (0 : Int32) v_t_fault v_t_target v_t_went v_t_ender v_t_had v_t_margins g_t_text) → va_S A s.heap H locs → ∀ (ls : Array Slot), lv_has ls 2 [(0, .ref a_t), (1, .int q4)] → W p l e rm_X9_step s m ([.ref a_t] : List Value).toArray below meth c H locs 0 0 (MQ below (QcV G A (wd_X9_step cs a_t a_t_text a_t_opinions a_t_lines a_t_draftBook a_t_scribes a_t_turn a_t_bent a_t_need a_t_now a_t_isKept a_t_far a_t_marginOf a_t_marginSays v_t_trace v_t_typed v_t_needTold R0.1 R0.2.1 R0.2.2.1 R0.2.2.2 v_t_fault v_t_target v_t_went v_t_ender v_t_had v_t_margins g_t_text)) ([.ref a_t] : List Value).toArray s 0 0 A) (F0 m 63 ls [])) ?_ FU _ _ hB hK H locs hP hD hS ls (lv_sub hl [1, 0] rfl)
        rintro z22 y hB hK H locs hP hD hS ls hl
        have hl : lv_has ls 2 [(0, .ref a_t), (1, .int q4)] := hl
        have hP : va_P G vwCl (wd_X9_step cs a_t a_t_text a_t_opinions a_t_lines a_t_draftBook a_t_scribes a_t_turn a_t_bent a_t_need a_t_now a_t_isKept a_t_far a_t_marginOf a_t_marginSays v_t_trace v_t_typed v_t_needTold z22 z1 v_t_sort (0 : Int32) v_t_fault v_t_target v_t_went v_t_ender v_t_had v_t_margins g_t_text) H := hP
        have hD : va_D A (wd_X9_step cs a_t a_t_text a_t_opinions a_t_lines a_t_draftBook a_t_scribes a_t_turn a_t_bent a_t_need a_t_now a_t_isKept a_t_far a_t_marginOf a_t_marginSays v_t_trace v_t_typed v_t_needTold z22 z1 v_t_sort (0 : Int32) v_t_fault v_t_target v_t_went v_t_ender v_t_had v_t_margins g_t_text) := hD
        refine lv_aload_n hx hb dX9_step_63 rfl (lv_at hl 0 rfl) ?_
        obtain ⟨q23, hq23, hB⟩ := bnd hB
        refine kr_V (WC := wd_X9_here cs a_t a_t_text a_t_opinions a_t_lines a_t_draftBook a_t_scribes a_t_turn a_t_bent a_t_need a_t_now a_t_isKept a_t_far a_t_marginOf a_t_marginSays v_t_trace v_t_typed v_t_needTold z22 z1 v_t_sort (0 : Int32) v_t_fault v_t_target v_t_went v_t_ender v_t_had v_t_margins g_t_text) (As := []) (rest := []) (r0 := q23) ⟨hx, hb, hml, hown, hg⟩ (k_X9_here l G cs a_t a_t_text a_t_opinions a_t_lines a_t_draftBook a_t_scribes a_t_turn a_t_bent a_t_need a_t_now a_t_isKept a_t_far a_t_marginOf a_t_marginSays v_t_trace v_t_typed v_t_needTold z22 z1 v_t_sort (0 : Int32) v_t_fault v_t_target v_t_went v_t_ender v_t_had v_t_margins g_t_text q23 hq23) gM_X9_68 mI_X9_here (rmk rfl) hP hKT hN 0 rfl rfl [0, 1] rfl rfl hl.1 rfl (Nat.le_of_ble_eq_true rfl) dX9_step_64 ?_
        refine lv_bipush (v := 97) hx hb dX9_step_67 (by decide) ?_
        refine lv_bipush (v := 122) hx hb dX9_step_69 (by decide) ?_
        obtain ⟨q24, hq24, hB⟩ := bnd hB
        refine kr_S (WC := wd_X9_in cs ) (As := [.int q23, .int (97 : Int32), .int (122 : Int32)]) (rest := []) (r0 := q24) ⟨hx, hb, hml, hown, hg⟩ (k_X9_in l G cs q23 (97 : Int32) (122 : Int32) q24 hq24) gM_X9_57 mS_X9_in (rmk rfl) hP hKT hN [] rfl rfl hl.1 rfl (Nat.le_of_ble_eq_true rfl) dX9_step_71 ?_
        refine lv_if_eq (tgt := 90) hx hb dX9_step_74 (by decide) (fun c_25 => ?_) (fun c_25 => ?_)
        · have hB := ifP c_25 hB
          refine lv_aload_n hx hb dX9_step_90 rfl (lv_at hl 0 rfl) ?_
          refine lv_aload_n hx hb dX9_step_91 rfl (lv_at hl 0 rfl) ?_
          refine va_get (D := G) (ci := 9) (v := .int z22) (C := RX9) (T := TX9) (N := 26) hx hb hg inX9 hown hKT hP 0 rfl rfl 11 (by decide) (hg _ gF_X9_65) (fun _ h9 => h9) rfl dX9_step_92 ?_
          refine lv_aload_n hx hb dX9_step_95 rfl (lv_at hl 0 rfl) ?_
          refine va_get (D := G) (ci := 9) (v := .int z1) (C := RX9) (T := TX9) (N := 26) hx hb hg inX9 hown hKT hP 0 rfl rfl 12 (by decide) (hg _ gF_X9_72) (fun _ h9 => h9) rfl dX9_step_96 ?_
          refine lv_isub hx hb dX9_step_99 ?_
          refine lv_iconst (v := 1) hx hb dX9_step_100 (by decide) ?_
          refine lv_icmp_ne (tgt := 108) hx hb dX9_step_101 (by decide) (fun c_26 => ?_) (fun c_26 => ?_)
          · have hB := ifN c_26 hB
            refine lv_iconst (v := 4) hx hb dX9_step_108 (by decide) ?_
            refine va_put (D := G) (ci := 9) (v := .int (4 : Int32)) (ty := .int) (C := RX9) (T := TX9) (N := 26) hx hb hg inX9 tyX9 tyX9_ok nmX9 hown hKT hP hD hS 0 rfl rfl 13 (by decide) (hg _ gF_X9_78) (fun _ h9 => h9) rfl (by decide +kernel) rfl rfl (Nat.le_of_ble_eq_true rfl) dX9_step_109 (fun H locs hP hD hS => ?_)
            have hP : va_P G vwCl (wd_X9_step cs a_t a_t_text a_t_opinions a_t_lines a_t_draftBook a_t_scribes a_t_turn a_t_bent a_t_need a_t_now a_t_isKept a_t_far a_t_marginOf a_t_marginSays v_t_trace v_t_typed v_t_needTold z22 z1 (4 : Int32) (0 : Int32) v_t_fault v_t_target v_t_went v_t_ender v_t_had v_t_margins g_t_text) H := hP
            have hD : va_D A (wd_X9_step cs a_t a_t_text a_t_opinions a_t_lines a_t_draftBook a_t_scribes a_t_turn a_t_bent a_t_need a_t_now a_t_isKept a_t_far a_t_marginOf a_t_marginSays v_t_trace v_t_typed v_t_needTold z22 z1 (4 : Int32) (0 : Int32) v_t_fault v_t_target v_t_went v_t_ender v_t_had v_t_margins g_t_text) := hD
            refine lv_goto (tgt := 253) hx hb dX9_step_112 (by decide) ?_
            have hK := leafK hB hK
            have hK := elimR hK
            have hK : (z22, z1, (4 : Int32), (0 : Int32)) = R0 := hK
            subst hK
            exact W.vret hx hb hr (fun t ht hW => ⟨⟨(), rfl, trivial, by rw [ht]; exact hP, hD⟩, hS.F ht⟩) hS.2.2 dX9_step_253
          · have hB := ifP c_26 hB
            refine lv_iload_n hx hb dX9_step_104 rfl (lv_at hl 1 rfl) ?_
            refine lv_goto (tgt := 109) hx hb dX9_step_105 (by decide) ?_
            refine va_put (D := G) (ci := 9) (v := .int q4) (ty := .int) (C := RX9) (T := TX9) (N := 26) hx hb hg inX9 tyX9 tyX9_ok nmX9 hown hKT hP hD hS 0 rfl rfl 13 (by decide) (hg _ gF_X9_78) (fun _ h9 => h9) rfl (by decide +kernel) rfl rfl (Nat.le_of_ble_eq_true rfl) dX9_step_109 (fun H locs hP hD hS => ?_)
            have hP : va_P G vwCl (wd_X9_step cs a_t a_t_text a_t_opinions a_t_lines a_t_draftBook a_t_scribes a_t_turn a_t_bent a_t_need a_t_now a_t_isKept a_t_far a_t_marginOf a_t_marginSays v_t_trace v_t_typed v_t_needTold z22 z1 q4 (0 : Int32) v_t_fault v_t_target v_t_went v_t_ender v_t_had v_t_margins g_t_text) H := hP
            have hD : va_D A (wd_X9_step cs a_t a_t_text a_t_opinions a_t_lines a_t_draftBook a_t_scribes a_t_turn a_t_bent a_t_need a_t_now a_t_isKept a_t_far a_t_marginOf a_t_marginSays v_t_trace v_t_typed v_t_needTold z22 z1 q4 (0 : Int32) v_t_fault v_t_target v_t_went v_t_ender v_t_had v_t_margins g_t_text) := hD
            refine lv_goto (tgt := 253) hx hb dX9_step_112 (by decide) ?_
            have hK := leafK hB hK
            have hK := elimR hK
            have hK : (z22, z1, q4, (0 : Int32)) = R0 := hK
            subst hK
            exact W.vret hx hb hr (fun t ht hW => ⟨⟨(), rfl, trivial, by rw [ht]; exact hP, hD⟩, hS.F ht⟩) hS.2.2 dX9_step_253
        · have hB := ifN c_25 hB
          refine lv_aload_n hx hb dX9_step_77 rfl (lv_at hl 0 rfl) ?_
          refine lv_dup hx hb dX9_step_78 rfl ?_
          refine va_get (D := G) (ci := 9) (v := .int z22) (C := RX9) (T := TX9) (N := 26) hx hb hg inX9 hown hKT hP 0 rfl rfl 11 (by decide) (hg _ gF_X9_65) (fun _ h9 => h9) rfl dX9_step_79 ?_
          refine lv_iconst (v := 1) hx hb dX9_step_82 (by decide) ?_
          refine lv_iadd hx hb dX9_step_83 ?_
          refine va_put (D := G) (ci := 9) (v := .int (z22 + (1 : Int32))) (ty := .int) (C := RX9) (T := TX9) (N := 26) hx hb hg inX9 tyX9 tyX9_ok nmX9 hown hKT hP hD hS 0 rfl rfl 11 (by decide) (hg _ gF_X9_65) (fun _ h9 => h9) rfl (by decide +kernel) rfl rfl (Nat.le_of_ble_eq_true rfl) dX9_step_84 (fun H locs hP hD hS => ?_)
          have hP : va_P G vwCl (wd_X9_step cs a_t a_t_text a_t_opinions a_t_lines a_t_draftBook a_t_scribes a_t_turn a_t_bent a_t_need a_t_now a_t_isKept a_t_far a_t_marginOf a_t_marginSays v_t_trace v_t_typed v_t_needTold (z22 + (1 : Int32)) z1 v_t_sort (0 : Int32) v_t_fault v_t_target v_t_went v_t_ender v_t_had v_t_margins g_t_text) H := hP
          have hD : va_D A (wd_X9_step cs a_t a_t_text a_t_opinions a_t_lines a_t_draftBook a_t_scribes a_t_turn a_t_bent a_t_need a_t_now a_t_isKept a_t_far a_t_marginOf a_t_marginSays v_t_trace v_t_typed v_t_needTold (z22 + (1 : Int32)) z1 v_t_sort (0 : Int32) v_t_fault v_t_target v_t_went v_t_ender v_t_had v_t_margins g_t_text) := hD
          refine lv_goto (tgt := 63) hx hb dX9_step_87 (by decide) ?_
          have hK := leafK hB hK
          have hK := elimL hK
          exact hK H locs hP hD hS ls (lv_sub hl [0, 1] rfl)
    · have hB := ifN c_5 hB
      refine lv_aload_n hx hb dX9_step_44 rfl (lv_at hl 1 rfl) ?_
      refine lv_iconst (v := 3) hx hb dX9_step_45 (by decide) ?_
      refine va_put (D := G) (ci := 9) (v := .int (3 : Int32)) (ty := .int) (C := RX9) (T := TX9) (N := 26) hx hb hg inX9 tyX9 tyX9_ok nmX9 hown hKT hP hD hS 0 rfl rfl 13 (by decide) (hg _ gF_X9_78) (fun _ h9 => h9) rfl (by decide +kernel) rfl rfl (Nat.le_of_ble_eq_true rfl) dX9_step_46 (fun H locs hP hD hS => ?_)
      have hP : va_P G vwCl (wd_X9_step cs a_t a_t_text a_t_opinions a_t_lines a_t_draftBook a_t_scribes a_t_turn a_t_bent a_t_need a_t_now a_t_isKept a_t_far a_t_marginOf a_t_marginSays v_t_trace v_t_typed v_t_needTold z1 z1 (3 : Int32) (0 : Int32) v_t_fault v_t_target v_t_went v_t_ender v_t_had v_t_margins g_t_text) H := hP
      have hD : va_D A (wd_X9_step cs a_t a_t_text a_t_opinions a_t_lines a_t_draftBook a_t_scribes a_t_turn a_t_bent a_t_need a_t_now a_t_isKept a_t_far a_t_marginOf a_t_marginSays v_t_trace v_t_typed v_t_needTold z1 z1 (3 : Int32) (0 : Int32) v_t_fault v_t_target v_t_went v_t_ender v_t_had v_t_margins g_t_text) := hD
      refine lv_goto (tgt := 253) hx hb dX9_step_49 (by decide) ?_
      have hK := leafK hB hK
      have hK := elimR hK
      have hK : (z1, z1, (3 : Int32), (0 : Int32)) = R0 := hK
      subst hK
      exact W.vret hx hb hr (fun t ht hW => ⟨⟨(), rfl, trivial, by rw [ht]; exact hP, hD⟩, hS.F ht⟩) hS.2.2 dX9_step_253
  · have hB := ifP c_3 hB
    refine lv_aload_n hx hb dX9_step_9 rfl (lv_at hl 0 rfl) ?_
    refine lv_dup hx hb dX9_step_10 rfl ?_
    refine va_get (D := G) (ci := 9) (v := .int z1) (C := RX9) (T := TX9) (N := 26) hx hb hg inX9 hown hKT hP 0 rfl rfl 11 (by decide) (hg _ gF_X9_65) (fun _ h9 => h9) rfl dX9_step_11 ?_
    refine lv_iconst (v := 1) hx hb dX9_step_14 (by decide) ?_
    refine lv_iadd hx hb dX9_step_15 ?_
    refine va_put (D := G) (ci := 9) (v := .int (z1 + (1 : Int32))) (ty := .int) (C := RX9) (T := TX9) (N := 26) hx hb hg inX9 tyX9 tyX9_ok nmX9 hown hKT hP hD hS 0 rfl rfl 11 (by decide) (hg _ gF_X9_65) (fun _ h9 => h9) rfl (by decide +kernel) rfl rfl (Nat.le_of_ble_eq_true rfl) dX9_step_16 (fun H locs hP hD hS => ?_)
    have hP : va_P G vwCl (wd_X9_step cs a_t a_t_text a_t_opinions a_t_lines a_t_draftBook a_t_scribes a_t_turn a_t_bent a_t_need a_t_now a_t_isKept a_t_far a_t_marginOf a_t_marginSays v_t_trace v_t_typed v_t_needTold (z1 + (1 : Int32)) v_t_start v_t_sort v_t_value v_t_fault v_t_target v_t_went v_t_ender v_t_had v_t_margins g_t_text) H := hP
    have hD : va_D A (wd_X9_step cs a_t a_t_text a_t_opinions a_t_lines a_t_draftBook a_t_scribes a_t_turn a_t_bent a_t_need a_t_now a_t_isKept a_t_far a_t_marginOf a_t_marginSays v_t_trace v_t_typed v_t_needTold (z1 + (1 : Int32)) v_t_start v_t_sort v_t_value v_t_fault v_t_target v_t_went v_t_ender v_t_had v_t_margins g_t_text) := hD
    refine lv_goto (tgt := 0) hx hb dX9_step_19 (by decide) ?_
    have hK := leafK hB hK
    have hK := elimL hK
    exact hK H locs hP hD hS ls (lv_sub hl [0] rfl)
def wd_X9_due (cs : Nat → ClassId) (a_t a_t_text a_t_opinions a_t_lines a_t_draftBook a_t_scribes a_t_turn a_t_bent a_t_need a_t_now a_t_isKept a_t_far a_t_marginOf a_t_marginSays : Nat) (v_t_trace : Int64) (v_t_typed : Int32) (v_t_needTold : Int32) (v_t_at : Int32) (v_t_start : Int32) (v_t_sort : Int32) (v_t_value : Int32) (v_t_fault : Int32) (v_t_target : Int32) (v_t_went : Int32) (v_t_ender : Int32) (v_t_had : Int32) (v_t_margins : Int32) (g_t_text : Nat → Int32) : va_W := [(a_t, .inr (9, [.long v_t_trace, .ref a_t_text, .int v_t_typed, .ref a_t_opinions, .ref a_t_lines, .ref a_t_draftBook, .ref a_t_scribes, .ref a_t_turn, .ref a_t_bent, .ref a_t_need, .int v_t_needTold, .int v_t_at, .int v_t_start, .int v_t_sort, .int v_t_value, .int v_t_fault, .ref a_t_now, .ref a_t_isKept, .int v_t_target, .int v_t_went, .int v_t_ender, .int v_t_had, .ref a_t_far, .ref a_t_marginOf, .ref a_t_marginSays, .int v_t_margins])), (a_t_text, .inl (cs 1, 120, .inl g_t_text))]
def rm_X9_due : Room := { frames := 2, cells := 0, slots := 0, locals := 43 }
theorem mI_X9_due : MI yX9_due RX9 cX9_due 3 (some .int) 1 := ⟨gI_X9_due, gE_X9_due, gN_X9, gC_X9_due, by decide +kernel⟩
set_option maxHeartbeats 4000000 in
set_option maxRecDepth 100000 in
theorem k_X9_due (l : Launch) (G : va_G) (cs : Nat → ClassId) (a_t a_t_text a_t_opinions a_t_lines a_t_draftBook a_t_scribes a_t_turn a_t_bent a_t_need a_t_now a_t_isKept a_t_far a_t_marginOf a_t_marginSays : Nat) (v_t_trace : Int64) (v_t_typed : Int32) (v_t_needTold : Int32) (v_t_at : Int32) (v_t_start : Int32) (v_t_sort : Int32) (v_t_value : Int32) (v_t_fault : Int32) (v_t_target : Int32) (v_t_went : Int32) (v_t_ender : Int32) (v_t_had : Int32) (v_t_margins : Int32) (g_t_text : Nat → Int32) (p1 : Int32) (sz : Nat) (R0 : Int32 × Int32 × Int32 × Int32 × Int32 × Int32) (hB : f_X9_due v_t_typed v_t_at v_t_start v_t_sort v_t_value v_t_fault g_t_text p1 = some R0) : Met l yX9_due (.code yX9_due cX9_due 3 (some .int) :: GW) rm_X9_due (PcW G cs [.ref a_t, .int p1] (wd_X9_due cs a_t a_t_text a_t_opinions a_t_lines a_t_draftBook a_t_scribes a_t_turn a_t_bent a_t_need a_t_now a_t_isKept a_t_far a_t_marginOf a_t_marginSays v_t_trace v_t_typed v_t_needTold v_t_at v_t_start v_t_sort v_t_value v_t_fault v_t_target v_t_went v_t_ender v_t_had v_t_margins g_t_text) sz) (QcI G (va_A (wd_X9_due cs a_t a_t_text a_t_opinions a_t_lines a_t_draftBook a_t_scribes a_t_turn a_t_bent a_t_need a_t_now a_t_isKept a_t_far a_t_marginOf a_t_marginSays v_t_trace v_t_typed v_t_needTold v_t_at v_t_start v_t_sort v_t_value v_t_fault v_t_target v_t_went v_t_ender v_t_had v_t_margins g_t_text) sz) (wd_X9_due cs a_t a_t_text a_t_opinions a_t_lines a_t_draftBook a_t_scribes a_t_turn a_t_bent a_t_need a_t_now a_t_isKept a_t_far a_t_marginOf a_t_marginSays v_t_trace v_t_typed v_t_needTold R0.2.1 R0.2.2.1 R0.2.2.2.1 R0.2.2.2.2.1 R0.2.2.2.2.2 v_t_target v_t_went v_t_ender v_t_had v_t_margins g_t_text) R0.1) 0 0 (va_A (wd_X9_due cs a_t a_t_text a_t_opinions a_t_lines a_t_draftBook a_t_scribes a_t_turn a_t_bent a_t_need a_t_now a_t_isKept a_t_far a_t_marginOf a_t_marginSays v_t_trace v_t_typed v_t_needTold v_t_at v_t_start v_t_sort v_t_value v_t_fault v_t_target v_t_went v_t_ender v_t_had v_t_margins g_t_text) sz) := by
  refine Met.ofW (cc := cX9_due) (maxL := 3) (ret := (some .int)) (by decide) rfl ?_
  intro p e s m args below meth c s₁ B hml hv
  obtain ⟨rfl, hsz, hP, hD0, hK, hN⟩ := hv
  have hx := B.exec
  have hb := B.bytes
  have hr := B.returns
  have hts := atoms_spec (ws := .code yX9_due cX9_due 3 (some .int) :: GW) B.pre
  have hg : ∀ w ∈ GW, w.before _ s = true := fun w h => hts w (List.mem_cons_of_mem _ h)
  have hown : s.vm.findClass RX9 = some m.cls := findClass_of_methodNamed B.named
  have hlocks := B.notSynchronized
  subst hsz
  have hD := hD0.self (sz := s.heap.size)
  generalize hAe : va_A (wd_X9_due cs a_t a_t_text a_t_opinions a_t_lines a_t_draftBook a_t_scribes a_t_turn a_t_bent a_t_need a_t_now a_t_isKept a_t_far a_t_marginOf a_t_marginSays v_t_trace v_t_typed v_t_needTold v_t_at v_t_start v_t_sort v_t_value v_t_fault v_t_target v_t_went v_t_ender v_t_had v_t_margins g_t_text) s.heap.size = A at hD ⊢
  have hA : ∀ q : Nat, s.heap.size ≤ q → A q := fun q h => by rw [← hAe]; exact Or.inr h
  have hS : va_S A s.heap s.heap [] := va_S.rf
  have hl := lv_entry ([.ref a_t, .int p1]) (n := 3) (Nat.le_of_ble_eq_true rfl)
  rw [lg_entry_eq]
  generalize (lg_sl ([.ref a_t, .int p1]) ++ List.replicate (3 - (lg_sl ([.ref a_t, .int p1])).length) Slot.unset).toArray = ls at hl ⊢
  have hl : lv_has ls 3 [(0, .ref a_t), (1, .int p1)] := hl
  obtain ⟨y, hB, hK0⟩ : ∃ y, f_X9_due v_t_typed v_t_at v_t_start v_t_sort v_t_value v_t_fault g_t_text p1 = some y ∧ KEnd R0 y := ⟨R0, hB, rfl⟩
  have hKT := hK
  have hK := hK0
  obtain ⟨H, hHe⟩ : ∃ H, H = s.heap := ⟨_, rfl⟩
  obtain ⟨locs, hLe⟩ : ∃ L : List Loc, L = [] := ⟨_, rfl⟩
  rw [← hHe] at hP
  have hS : va_S A s.heap H locs := by rw [hHe, hLe]; exact hS
  show W p l e rm_X9_due s m ([.ref a_t, .int p1] : List Value).toArray below meth c s.heap [] 0 0 _ _
  suffices hgo : W p l e rm_X9_due s m ([.ref a_t, .int p1] : List Value).toArray below meth c H locs 0 0 (MQ below (QcI G A (wd_X9_due cs a_t a_t_text a_t_opinions a_t_lines a_t_draftBook a_t_scribes a_t_turn a_t_bent a_t_need a_t_now a_t_isKept a_t_far a_t_marginOf a_t_marginSays v_t_trace v_t_typed v_t_needTold R0.2.1 R0.2.2.1 R0.2.2.2.1 R0.2.2.2.2.1 R0.2.2.2.2.2 v_t_target v_t_went v_t_ender v_t_had v_t_margins g_t_text) R0.1) ([.ref a_t, .int p1] : List Value).toArray s 0 0 A) (F0 m 0 ls []) by rw [hHe, hLe] at hgo; exact hgo
  refine lv_aload_n hx hb dX9_due_0 rfl (lv_at hl 0 rfl) ?_
  refine va_get (D := G) (ci := 9) (v := .int v_t_value) (C := RX9) (T := TX9) (N := 26) hx hb hg inX9 hown hKT hP 0 rfl rfl 14 (by decide) (hg _ gF_X9_75) (fun _ h9 => h9) rfl dX9_due_1 ?_
  refine lv_istore_n (lv' := [(2, .int v_t_value), (0, .ref a_t), (1, .int p1)]) hx hb dX9_due_4 rfl hl (by decide) rfl (fun ls hl => ?_)
  refine lv_aload_n hx hb dX9_due_5 rfl (lv_at hl 1 rfl) ?_
  refine va_get (D := G) (ci := 9) (v := .int v_t_fault) (C := RX9) (T := TX9) (N := 26) hx hb hg inX9 hown hKT hP 0 rfl rfl 15 (by decide) (hg _ gF_X9_81) (fun _ h9 => h9) rfl dX9_due_6 ?_
  refine lv_bipush (v := -9) hx hb dX9_due_9 (by decide) ?_
  refine lv_icmp_ne (tgt := 33) hx hb dX9_due_11 (by decide) (fun c_1 => ?_) (fun c_1 => ?_)
  · have hB := ifN c_1 hB
    refine lv_iload_n hx hb dX9_due_33 rfl (lv_at hl 0 rfl) ?_
    have hK := leafK hB hK
    have hK : (v_t_value, v_t_at, v_t_start, v_t_sort, v_t_value, v_t_fault) = R0 := hK
    subst hK
    exact W.iret (v := v_t_value) hx hb hr (fun t ht hW => ⟨⟨_, (), rfl, rfl, by rw [ht]; exact hP, hD⟩, hS.F ht⟩) hS.2.2 dX9_due_34
  · have hB := ifP c_1 hB
    refine lv_iload_n hx hb dX9_due_14 rfl (lv_at hl 2 rfl) ?_
    refine lv_if_eq (tgt := 25) hx hb dX9_due_15 (by decide) (fun c_2 => ?_) (fun c_2 => ?_)
    · have hB := ifP c_2 hB
      refine lv_aload_n hx hb dX9_due_25 rfl (lv_at hl 1 rfl) ?_
      refine lv_aload_n hx hb dX9_due_26 rfl (lv_at hl 1 rfl) ?_
      refine va_get (D := G) (ci := 9) (v := .int v_t_start) (C := RX9) (T := TX9) (N := 26) hx hb hg inX9 hown hKT hP 0 rfl rfl 12 (by decide) (hg _ gF_X9_72) (fun _ h9 => h9) rfl dX9_due_27 ?_
      refine va_put (D := G) (ci := 9) (v := .int v_t_start) (ty := .int) (C := RX9) (T := TX9) (N := 26) hx hb hg inX9 tyX9 tyX9_ok nmX9 hown hKT hP hD hS 0 rfl rfl 15 (by decide) (hg _ gF_X9_81) (fun _ h9 => h9) rfl (by decide +kernel) rfl rfl (Nat.le_of_ble_eq_true rfl) dX9_due_30 (fun H locs hP hD hS => ?_)
      have hP : va_P G vwCl (wd_X9_due cs a_t a_t_text a_t_opinions a_t_lines a_t_draftBook a_t_scribes a_t_turn a_t_bent a_t_need a_t_now a_t_isKept a_t_far a_t_marginOf a_t_marginSays v_t_trace v_t_typed v_t_needTold v_t_at v_t_start v_t_sort v_t_value v_t_start v_t_target v_t_went v_t_ender v_t_had v_t_margins g_t_text) H := hP
      have hD : va_D A (wd_X9_due cs a_t a_t_text a_t_opinions a_t_lines a_t_draftBook a_t_scribes a_t_turn a_t_bent a_t_need a_t_now a_t_isKept a_t_far a_t_marginOf a_t_marginSays v_t_trace v_t_typed v_t_needTold v_t_at v_t_start v_t_sort v_t_value v_t_start v_t_target v_t_went v_t_ender v_t_had v_t_margins g_t_text) := hD
      refine lv_iload_n hx hb dX9_due_33 rfl (lv_at hl 0 rfl) ?_
      have hK := leafK hB hK
      have hK : (v_t_value, v_t_at, v_t_start, v_t_sort, v_t_value, v_t_start) = R0 := hK
      subst hK
      exact W.iret (v := v_t_value) hx hb hr (fun t ht hW => ⟨⟨_, (), rfl, rfl, by rw [ht]; exact hP, hD⟩, hS.F ht⟩) hS.2.2 dX9_due_34
    · have hB := ifN c_2 hB
      refine lv_aload_n hx hb dX9_due_18 rfl (lv_at hl 1 rfl) ?_
      obtain ⟨⟨q3_0, q3_1, q3_2, q3_3⟩, hq3, hB⟩ := bnd hB
      refine kw_v (WC := wd_X9_step cs a_t a_t_text a_t_opinions a_t_lines a_t_draftBook a_t_scribes a_t_turn a_t_bent a_t_need a_t_now a_t_isKept a_t_far a_t_marginOf a_t_marginSays v_t_trace v_t_typed v_t_needTold v_t_at v_t_start v_t_sort v_t_value v_t_fault v_t_target v_t_went v_t_ender v_t_had v_t_margins g_t_text) (W1 := wd_X9_step cs a_t a_t_text a_t_opinions a_t_lines a_t_draftBook a_t_scribes a_t_turn a_t_bent a_t_need a_t_now a_t_isKept a_t_far a_t_marginOf a_t_marginSays v_t_trace v_t_typed v_t_needTold q3_0 q3_1 q3_2 q3_3 v_t_fault v_t_target v_t_went v_t_ender v_t_had v_t_margins g_t_text) (W2 := wd_X9_due cs a_t a_t_text a_t_opinions a_t_lines a_t_draftBook a_t_scribes a_t_turn a_t_bent a_t_need a_t_now a_t_isKept a_t_far a_t_marginOf a_t_marginSays v_t_trace v_t_typed v_t_needTold q3_0 q3_1 q3_2 q3_3 v_t_fault v_t_target v_t_went v_t_ender v_t_had v_t_margins g_t_text) (rw_V (As := []) (rest := []) ⟨hx, hb, hml, hown, hg⟩ (k_X9_step l G cs a_t a_t_text a_t_opinions a_t_lines a_t_draftBook a_t_scribes a_t_turn a_t_bent a_t_need a_t_now a_t_isKept a_t_far a_t_marginOf a_t_marginSays v_t_trace v_t_typed v_t_needTold v_t_at v_t_start v_t_sort v_t_value v_t_fault v_t_target v_t_went v_t_ender v_t_had v_t_margins g_t_text H.size (q3_0, q3_1, q3_2, q3_3) hq3) gM_X9_84 mI_X9_step (rmk rfl) hP hD hKT hN 0 rfl rfl [0, 1] rfl rfl rfl hl.1 rfl (Nat.le_of_ble_eq_true rfl) dX9_due_19) hP hD hS hA [0, 1] [] [0, 1] ⟨rfl, rfl, rfl, rfl, rfl, rfl, rfl⟩ (fun H locs hP hD hS => ?_)
      refine lv_goto (tgt := 33) hx hb dX9_due_22 (by decide) ?_
      refine lv_iload_n hx hb dX9_due_33 rfl (lv_at hl 0 rfl) ?_
      have hK := leafK hB hK
      have hK : (v_t_value, q3_0, q3_1, q3_2, q3_3, v_t_fault) = R0 := hK
      subst hK
      exact W.iret (v := v_t_value) hx hb hr (fun t ht hW => ⟨⟨_, (), rfl, rfl, by rw [ht]; exact hP, hD⟩, hS.F ht⟩) hS.2.2 dX9_due_34
def wd_X9_number (cs : Nat → ClassId) (a_t a_t_text a_t_opinions a_t_lines a_t_draftBook a_t_scribes a_t_turn a_t_bent a_t_need a_t_now a_t_isKept a_t_far a_t_marginOf a_t_marginSays : Nat) (v_t_trace : Int64) (v_t_typed : Int32) (v_t_needTold : Int32) (v_t_at : Int32) (v_t_start : Int32) (v_t_sort : Int32) (v_t_value : Int32) (v_t_fault : Int32) (v_t_target : Int32) (v_t_went : Int32) (v_t_ender : Int32) (v_t_had : Int32) (v_t_margins : Int32) (g_t_text : Nat → Int32) : va_W := [(a_t, .inr (9, [.long v_t_trace, .ref a_t_text, .int v_t_typed, .ref a_t_opinions, .ref a_t_lines, .ref a_t_draftBook, .ref a_t_scribes, .ref a_t_turn, .ref a_t_bent, .ref a_t_need, .int v_t_needTold, .int v_t_at, .int v_t_start, .int v_t_sort, .int v_t_value, .int v_t_fault, .ref a_t_now, .ref a_t_isKept, .int v_t_target, .int v_t_went, .int v_t_ender, .int v_t_had, .ref a_t_far, .ref a_t_marginOf, .ref a_t_marginSays, .int v_t_margins])), (a_t_text, .inl (cs 1, 120, .inl g_t_text))]
def rm_X9_number : Room := { frames := 3, cells := 0, slots := 0, locals := 65 }
theorem mI_X9_number : MI yX9_number RX9 cX9_number 3 (some .int) 2 := ⟨gI_X9_number, gE_X9_number, gN_X9, gC_X9_number, by decide +kernel⟩
set_option maxHeartbeats 4000000 in
set_option maxRecDepth 100000 in
theorem k_X9_number (l : Launch) (G : va_G) (cs : Nat → ClassId) (a_t a_t_text a_t_opinions a_t_lines a_t_draftBook a_t_scribes a_t_turn a_t_bent a_t_need a_t_now a_t_isKept a_t_far a_t_marginOf a_t_marginSays : Nat) (v_t_trace : Int64) (v_t_typed : Int32) (v_t_needTold : Int32) (v_t_at : Int32) (v_t_start : Int32) (v_t_sort : Int32) (v_t_value : Int32) (v_t_fault : Int32) (v_t_target : Int32) (v_t_went : Int32) (v_t_ender : Int32) (v_t_had : Int32) (v_t_margins : Int32) (g_t_text : Nat → Int32) (p1 p2 : Int32) (sz : Nat) (R0 : Int32 × Int32 × Int32 × Int32 × Int32 × Int32) (hB : f_X9_number v_t_typed v_t_at v_t_start v_t_sort v_t_value v_t_fault g_t_text p1 p2 = some R0) : Met l yX9_number (.code yX9_number cX9_number 3 (some .int) :: GW) rm_X9_number (PcW G cs [.ref a_t, .int p1, .int p2] (wd_X9_number cs a_t a_t_text a_t_opinions a_t_lines a_t_draftBook a_t_scribes a_t_turn a_t_bent a_t_need a_t_now a_t_isKept a_t_far a_t_marginOf a_t_marginSays v_t_trace v_t_typed v_t_needTold v_t_at v_t_start v_t_sort v_t_value v_t_fault v_t_target v_t_went v_t_ender v_t_had v_t_margins g_t_text) sz) (QcI G (va_A (wd_X9_number cs a_t a_t_text a_t_opinions a_t_lines a_t_draftBook a_t_scribes a_t_turn a_t_bent a_t_need a_t_now a_t_isKept a_t_far a_t_marginOf a_t_marginSays v_t_trace v_t_typed v_t_needTold v_t_at v_t_start v_t_sort v_t_value v_t_fault v_t_target v_t_went v_t_ender v_t_had v_t_margins g_t_text) sz) (wd_X9_number cs a_t a_t_text a_t_opinions a_t_lines a_t_draftBook a_t_scribes a_t_turn a_t_bent a_t_need a_t_now a_t_isKept a_t_far a_t_marginOf a_t_marginSays v_t_trace v_t_typed v_t_needTold R0.2.1 R0.2.2.1 R0.2.2.2.1 R0.2.2.2.2.1 R0.2.2.2.2.2 v_t_target v_t_went v_t_ender v_t_had v_t_margins g_t_text) R0.1) 0 0 (va_A (wd_X9_number cs a_t a_t_text a_t_opinions a_t_lines a_t_draftBook a_t_scribes a_t_turn a_t_bent a_t_need a_t_now a_t_isKept a_t_far a_t_marginOf a_t_marginSays v_t_trace v_t_typed v_t_needTold v_t_at v_t_start v_t_sort v_t_value v_t_fault v_t_target v_t_went v_t_ender v_t_had v_t_margins g_t_text) sz) := by
  refine Met.ofW (cc := cX9_number) (maxL := 3) (ret := (some .int)) (by decide) rfl ?_
  intro p e s m args below meth c s₁ B hml hv
  obtain ⟨rfl, hsz, hP, hD0, hK, hN⟩ := hv
  have hx := B.exec
  have hb := B.bytes
  have hr := B.returns
  have hts := atoms_spec (ws := .code yX9_number cX9_number 3 (some .int) :: GW) B.pre
  have hg : ∀ w ∈ GW, w.before _ s = true := fun w h => hts w (List.mem_cons_of_mem _ h)
  have hown : s.vm.findClass RX9 = some m.cls := findClass_of_methodNamed B.named
  have hlocks := B.notSynchronized
  subst hsz
  have hD := hD0.self (sz := s.heap.size)
  generalize hAe : va_A (wd_X9_number cs a_t a_t_text a_t_opinions a_t_lines a_t_draftBook a_t_scribes a_t_turn a_t_bent a_t_need a_t_now a_t_isKept a_t_far a_t_marginOf a_t_marginSays v_t_trace v_t_typed v_t_needTold v_t_at v_t_start v_t_sort v_t_value v_t_fault v_t_target v_t_went v_t_ender v_t_had v_t_margins g_t_text) s.heap.size = A at hD ⊢
  have hA : ∀ q : Nat, s.heap.size ≤ q → A q := fun q h => by rw [← hAe]; exact Or.inr h
  have hS : va_S A s.heap s.heap [] := va_S.rf
  have hl := lv_entry ([.ref a_t, .int p1, .int p2]) (n := 3) (Nat.le_of_ble_eq_true rfl)
  rw [lg_entry_eq]
  generalize (lg_sl ([.ref a_t, .int p1, .int p2]) ++ List.replicate (3 - (lg_sl ([.ref a_t, .int p1, .int p2])).length) Slot.unset).toArray = ls at hl ⊢
  have hl : lv_has ls 3 [(0, .ref a_t), (1, .int p1), (2, .int p2)] := hl
  obtain ⟨y, hB, hK0⟩ : ∃ y, f_X9_number v_t_typed v_t_at v_t_start v_t_sort v_t_value v_t_fault g_t_text p1 p2 = some y ∧ KEnd R0 y := ⟨R0, hB, rfl⟩
  have hKT := hK
  have hK := hK0
  obtain ⟨H, hHe⟩ : ∃ H, H = s.heap := ⟨_, rfl⟩
  obtain ⟨locs, hLe⟩ : ∃ L : List Loc, L = [] := ⟨_, rfl⟩
  rw [← hHe] at hP
  have hS : va_S A s.heap H locs := by rw [hHe, hLe]; exact hS
  show W p l e rm_X9_number s m ([.ref a_t, .int p1, .int p2] : List Value).toArray below meth c s.heap [] 0 0 _ _
  suffices hgo : W p l e rm_X9_number s m ([.ref a_t, .int p1, .int p2] : List Value).toArray below meth c H locs 0 0 (MQ below (QcI G A (wd_X9_number cs a_t a_t_text a_t_opinions a_t_lines a_t_draftBook a_t_scribes a_t_turn a_t_bent a_t_need a_t_now a_t_isKept a_t_far a_t_marginOf a_t_marginSays v_t_trace v_t_typed v_t_needTold R0.2.1 R0.2.2.1 R0.2.2.2.1 R0.2.2.2.2.1 R0.2.2.2.2.2 v_t_target v_t_went v_t_ender v_t_had v_t_margins g_t_text) R0.1) ([.ref a_t, .int p1, .int p2] : List Value).toArray s 0 0 A) (F0 m 0 ls []) by rw [hHe, hLe] at hgo; exact hgo
  refine lv_aload_n hx hb dX9_number_0 rfl (lv_at hl 0 rfl) ?_
  refine lv_aload_n hx hb dX9_number_1 rfl (lv_at hl 0 rfl) ?_
  refine va_get (D := G) (ci := 9) (v := .int v_t_sort) (C := RX9) (T := TX9) (N := 26) hx hb hg inX9 hown hKT hP 0 rfl rfl 13 (by decide) (hg _ gF_X9_78) (fun _ h9 => h9) rfl dX9_number_2 ?_
  refine lv_iconst (v := 1) hx hb dX9_number_5 (by decide) ?_
  refine lv_icmp_ne (tgt := 25) hx hb dX9_number_6 (by decide) (fun c_1 => ?_) (fun c_1 => ?_)
  · have hB := ifN c_1 hB
    refine lv_iconst (v := 0) hx hb dX9_number_25 (by decide) ?_
    obtain ⟨⟨q2_0, q2_1, q2_2, q2_3, q2_4, q2_5⟩, hq2, hB⟩ := bnd hB
    refine kw_i (WC := wd_X9_due cs a_t a_t_text a_t_opinions a_t_lines a_t_draftBook a_t_scribes a_t_turn a_t_bent a_t_need a_t_now a_t_isKept a_t_far a_t_marginOf a_t_marginSays v_t_trace v_t_typed v_t_needTold v_t_at v_t_start v_t_sort v_t_value v_t_fault v_t_target v_t_went v_t_ender v_t_had v_t_margins g_t_text) (W1 := wd_X9_due cs a_t a_t_text a_t_opinions a_t_lines a_t_draftBook a_t_scribes a_t_turn a_t_bent a_t_need a_t_now a_t_isKept a_t_far a_t_marginOf a_t_marginSays v_t_trace v_t_typed v_t_needTold q2_1 q2_2 q2_3 q2_4 q2_5 v_t_target v_t_went v_t_ender v_t_had v_t_margins g_t_text) (W2 := wd_X9_number cs a_t a_t_text a_t_opinions a_t_lines a_t_draftBook a_t_scribes a_t_turn a_t_bent a_t_need a_t_now a_t_isKept a_t_far a_t_marginOf a_t_marginSays v_t_trace v_t_typed v_t_needTold q2_1 q2_2 q2_3 q2_4 q2_5 v_t_target v_t_went v_t_ender v_t_had v_t_margins g_t_text) (r0 := q2_0) (rw_V (As := [.int (0 : Int32)]) (rest := []) ⟨hx, hb, hml, hown, hg⟩ (k_X9_due l G cs a_t a_t_text a_t_opinions a_t_lines a_t_draftBook a_t_scribes a_t_turn a_t_bent a_t_need a_t_now a_t_isKept a_t_far a_t_marginOf a_t_marginSays v_t_trace v_t_typed v_t_needTold v_t_at v_t_start v_t_sort v_t_value v_t_fault v_t_target v_t_went v_t_ender v_t_had v_t_margins g_t_text (0 : Int32) H.size (q2_0, q2_1, q2_2, q2_3, q2_4, q2_5) hq2) gM_X9_87 mI_X9_due (rmk rfl) hP hD hKT hN 0 rfl rfl [0, 1] rfl rfl rfl hl.1 rfl (Nat.le_of_ble_eq_true rfl) dX9_number_26) hP hD hS hA [0, 1] [] [0, 1] ⟨rfl, rfl, rfl, rfl, rfl, rfl, rfl⟩ (fun H locs hP hD hS => ?_)
    have hK := leafK hB hK
    have hK : (q2_0, q2_1, q2_2, q2_3, q2_4, q2_5) = R0 := hK
    subst hK
    exact W.iret (v := q2_0) hx hb hr (fun t ht hW => ⟨⟨_, (), rfl, rfl, by rw [ht]; exact hP, hD⟩, hS.F ht⟩) hS.2.2 dX9_number_29
  · have hB := ifP c_1 hB
    refine lv_aload_n hx hb dX9_number_9 rfl (lv_at hl 0 rfl) ?_
    refine va_get (D := G) (ci := 9) (v := .int v_t_value) (C := RX9) (T := TX9) (N := 26) hx hb hg inX9 hown hKT hP 0 rfl rfl 14 (by decide) (hg _ gF_X9_75) (fun _ h9 => h9) rfl dX9_number_10 ?_
    refine lv_iload_n hx hb dX9_number_13 rfl (lv_at hl 1 rfl) ?_
    refine lv_iload_n hx hb dX9_number_14 rfl (lv_at hl 2 rfl) ?_
    obtain ⟨q3, hq3, hB⟩ := bnd hB
    refine kr_S (WC := wd_X9_in cs ) (As := [.int v_t_value, .int p1, .int p2]) (rest := [.ref a_t]) (r0 := q3) ⟨hx, hb, hml, hown, hg⟩ (k_X9_in l G cs v_t_value p1 p2 q3 hq3) gM_X9_57 mS_X9_in (rmk rfl) hP hKT hN [] rfl rfl hl.1 rfl (Nat.le_of_ble_eq_true rfl) dX9_number_15 ?_
    refine lv_if_eq (tgt := 25) hx hb dX9_number_18 (by decide) (fun c_4 => ?_) (fun c_4 => ?_)
    · have hB := ifP c_4 hB
      refine lv_iconst (v := 0) hx hb dX9_number_25 (by decide) ?_
      obtain ⟨⟨q5_0, q5_1, q5_2, q5_3, q5_4, q5_5⟩, hq5, hB⟩ := bnd hB
      refine kw_i (WC := wd_X9_due cs a_t a_t_text a_t_opinions a_t_lines a_t_draftBook a_t_scribes a_t_turn a_t_bent a_t_need a_t_now a_t_isKept a_t_far a_t_marginOf a_t_marginSays v_t_trace v_t_typed v_t_needTold v_t_at v_t_start v_t_sort v_t_value v_t_fault v_t_target v_t_went v_t_ender v_t_had v_t_margins g_t_text) (W1 := wd_X9_due cs a_t a_t_text a_t_opinions a_t_lines a_t_draftBook a_t_scribes a_t_turn a_t_bent a_t_need a_t_now a_t_isKept a_t_far a_t_marginOf a_t_marginSays v_t_trace v_t_typed v_t_needTold q5_1 q5_2 q5_3 q5_4 q5_5 v_t_target v_t_went v_t_ender v_t_had v_t_margins g_t_text) (W2 := wd_X9_number cs a_t a_t_text a_t_opinions a_t_lines a_t_draftBook a_t_scribes a_t_turn a_t_bent a_t_need a_t_now a_t_isKept a_t_far a_t_marginOf a_t_marginSays v_t_trace v_t_typed v_t_needTold q5_1 q5_2 q5_3 q5_4 q5_5 v_t_target v_t_went v_t_ender v_t_had v_t_margins g_t_text) (r0 := q5_0) (rw_V (As := [.int (0 : Int32)]) (rest := []) ⟨hx, hb, hml, hown, hg⟩ (k_X9_due l G cs a_t a_t_text a_t_opinions a_t_lines a_t_draftBook a_t_scribes a_t_turn a_t_bent a_t_need a_t_now a_t_isKept a_t_far a_t_marginOf a_t_marginSays v_t_trace v_t_typed v_t_needTold v_t_at v_t_start v_t_sort v_t_value v_t_fault v_t_target v_t_went v_t_ender v_t_had v_t_margins g_t_text (0 : Int32) H.size (q5_0, q5_1, q5_2, q5_3, q5_4, q5_5) hq5) gM_X9_87 mI_X9_due (rmk rfl) hP hD hKT hN 0 rfl rfl [0, 1] rfl rfl rfl hl.1 rfl (Nat.le_of_ble_eq_true rfl) dX9_number_26) hP hD hS hA [0, 1] [] [0, 1] ⟨rfl, rfl, rfl, rfl, rfl, rfl, rfl⟩ (fun H locs hP hD hS => ?_)
      have hK := leafK hB hK
      have hK : (q5_0, q5_1, q5_2, q5_3, q5_4, q5_5) = R0 := hK
      subst hK
      exact W.iret (v := q5_0) hx hb hr (fun t ht hW => ⟨⟨_, (), rfl, rfl, by rw [ht]; exact hP, hD⟩, hS.F ht⟩) hS.2.2 dX9_number_29
    · have hB := ifN c_4 hB
      refine lv_iconst (v := 1) hx hb dX9_number_21 (by decide) ?_
      refine lv_goto (tgt := 26) hx hb dX9_number_22 (by decide) ?_
      obtain ⟨⟨q6_0, q6_1, q6_2, q6_3, q6_4, q6_5⟩, hq6, hB⟩ := bnd hB
      refine kw_i (WC := wd_X9_due cs a_t a_t_text a_t_opinions a_t_lines a_t_draftBook a_t_scribes a_t_turn a_t_bent a_t_need a_t_now a_t_isKept a_t_far a_t_marginOf a_t_marginSays v_t_trace v_t_typed v_t_needTold v_t_at v_t_start v_t_sort v_t_value v_t_fault v_t_target v_t_went v_t_ender v_t_had v_t_margins g_t_text) (W1 := wd_X9_due cs a_t a_t_text a_t_opinions a_t_lines a_t_draftBook a_t_scribes a_t_turn a_t_bent a_t_need a_t_now a_t_isKept a_t_far a_t_marginOf a_t_marginSays v_t_trace v_t_typed v_t_needTold q6_1 q6_2 q6_3 q6_4 q6_5 v_t_target v_t_went v_t_ender v_t_had v_t_margins g_t_text) (W2 := wd_X9_number cs a_t a_t_text a_t_opinions a_t_lines a_t_draftBook a_t_scribes a_t_turn a_t_bent a_t_need a_t_now a_t_isKept a_t_far a_t_marginOf a_t_marginSays v_t_trace v_t_typed v_t_needTold q6_1 q6_2 q6_3 q6_4 q6_5 v_t_target v_t_went v_t_ender v_t_had v_t_margins g_t_text) (r0 := q6_0) (rw_V (As := [.int (1 : Int32)]) (rest := []) ⟨hx, hb, hml, hown, hg⟩ (k_X9_due l G cs a_t a_t_text a_t_opinions a_t_lines a_t_draftBook a_t_scribes a_t_turn a_t_bent a_t_need a_t_now a_t_isKept a_t_far a_t_marginOf a_t_marginSays v_t_trace v_t_typed v_t_needTold v_t_at v_t_start v_t_sort v_t_value v_t_fault v_t_target v_t_went v_t_ender v_t_had v_t_margins g_t_text (1 : Int32) H.size (q6_0, q6_1, q6_2, q6_3, q6_4, q6_5) hq6) gM_X9_87 mI_X9_due (rmk rfl) hP hD hKT hN 0 rfl rfl [0, 1] rfl rfl rfl hl.1 rfl (Nat.le_of_ble_eq_true rfl) dX9_number_26) hP hD hS hA [0, 1] [] [0, 1] ⟨rfl, rfl, rfl, rfl, rfl, rfl, rfl⟩ (fun H locs hP hD hS => ?_)
      have hK := leafK hB hK
      have hK : (q6_0, q6_1, q6_2, q6_3, q6_4, q6_5) = R0 := hK
      subst hK
      exact W.iret (v := q6_0) hx hb hr (fun t ht hW => ⟨⟨_, (), rfl, rfl, by rw [ht]; exact hP, hD⟩, hS.F ht⟩) hS.2.2 dX9_number_29
def wd_X9_mayBe (cs : Nat → ClassId) (a_t a_t_text a_t_opinions a_t_lines a_t_draftBook a_t_scribes a_t_turn a_t_bent a_t_need a_t_now a_t_isKept a_t_far a_t_marginOf a_t_marginSays : Nat) (v_t_trace : Int64) (v_t_typed : Int32) (v_t_needTold : Int32) (v_t_at : Int32) (v_t_start : Int32) (v_t_sort : Int32) (v_t_value : Int32) (v_t_fault : Int32) (v_t_target : Int32) (v_t_went : Int32) (v_t_ender : Int32) (v_t_had : Int32) (v_t_margins : Int32) (g_t_lines : Nat → Int32) (g_t_scribes : Nat → Int32) : va_W := [(a_t, .inr (9, [.long v_t_trace, .ref a_t_text, .int v_t_typed, .ref a_t_opinions, .ref a_t_lines, .ref a_t_draftBook, .ref a_t_scribes, .ref a_t_turn, .ref a_t_bent, .ref a_t_need, .int v_t_needTold, .int v_t_at, .int v_t_start, .int v_t_sort, .int v_t_value, .int v_t_fault, .ref a_t_now, .ref a_t_isKept, .int v_t_target, .int v_t_went, .int v_t_ender, .int v_t_had, .ref a_t_far, .ref a_t_marginOf, .ref a_t_marginSays, .int v_t_margins])), (a_t_lines, .inl (cs 0, 2, .inl g_t_lines)), (a_t_scribes, .inl (cs 0, 2, .inl g_t_scribes))]
def rm_X9_mayBe : Room := { frames := 0, cells := 0, slots := 0, locals := 0 }
theorem mI_X9_mayBe : MI yX9_mayBe RX9 cX9_mayBe 3 (some .boolean) 2 := ⟨gI_X9_mayBe, gE_X9_mayBe, gN_X9, gC_X9_mayBe, by decide +kernel⟩
set_option maxHeartbeats 4000000 in
set_option maxRecDepth 100000 in
theorem k_X9_mayBe (l : Launch) (G : va_G) (cs : Nat → ClassId) (a_t a_t_text a_t_opinions a_t_lines a_t_draftBook a_t_scribes a_t_turn a_t_bent a_t_need a_t_now a_t_isKept a_t_far a_t_marginOf a_t_marginSays : Nat) (v_t_trace : Int64) (v_t_typed : Int32) (v_t_needTold : Int32) (v_t_at : Int32) (v_t_start : Int32) (v_t_sort : Int32) (v_t_value : Int32) (v_t_fault : Int32) (v_t_target : Int32) (v_t_went : Int32) (v_t_ender : Int32) (v_t_had : Int32) (v_t_margins : Int32) (g_t_lines : Nat → Int32) (g_t_scribes : Nat → Int32) (p1 p2 : Int32) (R0 : Int32) (hB : f_X9_mayBe v_t_needTold g_t_lines g_t_scribes p1 p2 = some R0) : Met l yX9_mayBe (.code yX9_mayBe cX9_mayBe 3 (some .boolean) :: GW) rm_X9_mayBe (PcR G cs [.ref a_t, .int p1, .int p2] (wd_X9_mayBe cs a_t a_t_text a_t_opinions a_t_lines a_t_draftBook a_t_scribes a_t_turn a_t_bent a_t_need a_t_now a_t_isKept a_t_far a_t_marginOf a_t_marginSays v_t_trace v_t_typed v_t_needTold v_t_at v_t_start v_t_sort v_t_value v_t_fault v_t_target v_t_went v_t_ender v_t_had v_t_margins g_t_lines g_t_scribes)) (vp_Si (fun r => r = R0)) 0 0 (fun _ => False) := by
  refine Met.ofW (cc := cX9_mayBe) (maxL := 3) (ret := (some .boolean)) (by decide) rfl ?_
  intro p e s m args below meth c s₁ B hml hv
  obtain ⟨rfl, hP, hK, hN⟩ := hv
  have hx := B.exec
  have hb := B.bytes
  have hr := B.returns
  have hts := atoms_spec (ws := .code yX9_mayBe cX9_mayBe 3 (some .boolean) :: GW) B.pre
  have hg : ∀ w ∈ GW, w.before _ s = true := fun w h => hts w (List.mem_cons_of_mem _ h)
  have hown : s.vm.findClass RX9 = some m.cls := findClass_of_methodNamed B.named
  have hlocks := B.notSynchronized
  have hl := lv_entry ([.ref a_t, .int p1, .int p2]) (n := 3) (Nat.le_of_ble_eq_true rfl)
  rw [lg_entry_eq]
  generalize (lg_sl ([.ref a_t, .int p1, .int p2]) ++ List.replicate (3 - (lg_sl ([.ref a_t, .int p1, .int p2])).length) Slot.unset).toArray = ls at hl ⊢
  have hl : lv_has ls 3 [(0, .ref a_t), (1, .int p1), (2, .int p2)] := hl
  obtain ⟨y, hB, hK0⟩ : ∃ y, f_X9_mayBe v_t_needTold g_t_lines g_t_scribes p1 p2 = some y ∧ KEnd R0 y := ⟨R0, hB, rfl⟩
  have hKT := hK
  have hK := hK0
  show W p l e rm_X9_mayBe s m ([.ref a_t, .int p1, .int p2] : List Value).toArray below meth c s.heap [] 0 0 (MQ below (vp_Si (fun r => r = R0)) ([.ref a_t, .int p1, .int p2] : List Value).toArray s 0 0 (fun _ => False)) (F0 m 0 ls [])
  refine lv_iload_n hx hb dX9_mayBe_0 rfl (lv_at hl 1 rfl) ?_
  by_cases c_5_0 : p1 = 98
  · have hB := ifP c_5_0 hB
    refine lv_lookup (off := 53) (tgt := 54) hx hb dX9_mayBe_1 (by decide) (by rw [c_5_0]; decide) (by decide) ?_
    refine lv_aload_n hx hb dX9_mayBe_54 rfl (lv_at hl 0 rfl) ?_
    refine va_get (D := G) (ci := 9) (v := .ref a_t_lines) (C := RX9) (T := TX9) (N := 26) hx hb hg inX9 hown hKT hP 0 rfl rfl 4 (by decide) (hg _ gF_X9_17) (fun _ h9 => h9) rfl dX9_mayBe_55 ?_
    refine lv_iconst (v := 1) hx hb dX9_mayBe_58 (by decide) ?_
    refine va_iald hx hb hKT hP 1 0 rfl rfl (vinC (by decide)) dX9_mayBe_59 ?_
    refine lv_if_ne (tgt := 67) hx hb dX9_mayBe_60 (by decide) (fun c_1 => ?_) (fun c_1 => ?_)
    · have hB := ifN c_1 hB
      refine lv_iconst (v := 0) hx hb dX9_mayBe_67 (by decide) ?_
      have hK := leafK hB hK
      have hK : (0 : Int32) = R0 := hK
      subst hK
      exact W.zret (v := (0 : Int32)) (ty := .boolean) hx hb hr rfl (fun t ht hW => ⟨_, rfl, rfl, ht⟩) (fun _ h => by cases h) dX9_mayBe_68
    · have hB := ifP c_1 hB
      refine lv_iconst (v := 1) hx hb dX9_mayBe_63 (by decide) ?_
      refine lv_goto (tgt := 68) hx hb dX9_mayBe_64 (by decide) ?_
      have hK := leafK hB hK
      have hK : (1 : Int32) = R0 := hK
      subst hK
      exact W.zret (v := (1 : Int32)) (ty := .boolean) hx hb hr rfl (fun t ht hW => ⟨_, rfl, rfl, ht⟩) (fun _ h => by cases h) dX9_mayBe_68
  have hB := ifN c_5_0 hB
  by_cases c_5_1 : p1 = 110
  · have hB := ifP c_5_1 hB
    refine lv_lookup (off := 85) (tgt := 86) hx hb dX9_mayBe_1 (by decide) (by rw [c_5_1]; decide) (by decide) ?_
    refine lv_aload_n hx hb dX9_mayBe_86 rfl (lv_at hl 0 rfl) ?_
    refine va_get (D := G) (ci := 9) (v := .int v_t_needTold) (C := RX9) (T := TX9) (N := 26) hx hb hg inX9 hown hKT hP 0 rfl rfl 10 (by decide) (hg _ gF_X9_91) (fun _ h9 => h9) rfl dX9_mayBe_87 ?_
    refine lv_if_ne (tgt := 97) hx hb dX9_mayBe_90 (by decide) (fun c_2 => ?_) (fun c_2 => ?_)
    · have hB := ifN c_2 hB
      refine lv_iconst (v := 0) hx hb dX9_mayBe_97 (by decide) ?_
      have hK := leafK hB hK
      have hK : (0 : Int32) = R0 := hK
      subst hK
      exact W.zret (v := (0 : Int32)) (ty := .boolean) hx hb hr rfl (fun t ht hW => ⟨_, rfl, rfl, ht⟩) (fun _ h => by cases h) dX9_mayBe_98
    · have hB := ifP c_2 hB
      refine lv_iconst (v := 1) hx hb dX9_mayBe_93 (by decide) ?_
      refine lv_goto (tgt := 98) hx hb dX9_mayBe_94 (by decide) ?_
      have hK := leafK hB hK
      have hK : (1 : Int32) = R0 := hK
      subst hK
      exact W.zret (v := (1 : Int32)) (ty := .boolean) hx hb hr rfl (fun t ht hW => ⟨_, rfl, rfl, ht⟩) (fun _ h => by cases h) dX9_mayBe_98
  have hB := ifN c_5_1 hB
  by_cases c_5_2 : p1 = 111
  · have hB := ifP c_5_2 hB
    refine lv_lookup (off := 43) (tgt := 44) hx hb dX9_mayBe_1 (by decide) (by rw [c_5_2]; decide) (by decide) ?_
    refine lv_iload_n hx hb dX9_mayBe_44 rfl (lv_at hl 2 rfl) ?_
    refine lv_if_ne (tgt := 52) hx hb dX9_mayBe_45 (by decide) (fun c_3 => ?_) (fun c_3 => ?_)
    · have hB := ifN c_3 hB
      refine lv_iconst (v := 0) hx hb dX9_mayBe_52 (by decide) ?_
      have hK := leafK hB hK
      have hK : (0 : Int32) = R0 := hK
      subst hK
      exact W.zret (v := (0 : Int32)) (ty := .boolean) hx hb hr rfl (fun t ht hW => ⟨_, rfl, rfl, ht⟩) (fun _ h => by cases h) dX9_mayBe_53
    · have hB := ifP c_3 hB
      refine lv_iconst (v := 1) hx hb dX9_mayBe_48 (by decide) ?_
      refine lv_goto (tgt := 53) hx hb dX9_mayBe_49 (by decide) ?_
      have hK := leafK hB hK
      have hK : (1 : Int32) = R0 := hK
      subst hK
      exact W.zret (v := (1 : Int32)) (ty := .boolean) hx hb hr rfl (fun t ht hW => ⟨_, rfl, rfl, ht⟩) (fun _ h => by cases h) dX9_mayBe_53
  have hB := ifN c_5_2 hB
  by_cases c_5_3 : p1 = 115
  · have hB := ifP c_5_3 hB
    refine lv_lookup (off := 68) (tgt := 69) hx hb dX9_mayBe_1 (by decide) (by rw [c_5_3]; decide) (by decide) ?_
    refine lv_aload_n hx hb dX9_mayBe_69 rfl (lv_at hl 0 rfl) ?_
    refine va_get (D := G) (ci := 9) (v := .ref a_t_scribes) (C := RX9) (T := TX9) (N := 26) hx hb hg inX9 hown hKT hP 0 rfl rfl 6 (by decide) (hg _ gF_X9_23) (fun _ h9 => h9) rfl dX9_mayBe_70 ?_
    refine lv_iconst (v := 1) hx hb dX9_mayBe_73 (by decide) ?_
    refine va_iald hx hb hKT hP 2 0 rfl rfl (vinC (by decide)) dX9_mayBe_74 ?_
    refine lv_bipush (v := 6) hx hb dX9_mayBe_75 (by decide) ?_
    refine lv_icmp_ge (tgt := 84) hx hb dX9_mayBe_77 (by decide) (fun c_4 => ?_) (fun c_4 => ?_)
    · have hB := ifP c_4 hB
      refine lv_iconst (v := 0) hx hb dX9_mayBe_84 (by decide) ?_
      have hK := leafK hB hK
      have hK : (0 : Int32) = R0 := hK
      subst hK
      exact W.zret (v := (0 : Int32)) (ty := .boolean) hx hb hr rfl (fun t ht hW => ⟨_, rfl, rfl, ht⟩) (fun _ h => by cases h) dX9_mayBe_85
    · have hB := ifN c_4 hB
      refine lv_iconst (v := 1) hx hb dX9_mayBe_80 (by decide) ?_
      refine lv_goto (tgt := 85) hx hb dX9_mayBe_81 (by decide) ?_
      have hK := leafK hB hK
      have hK : (1 : Int32) = R0 := hK
      subst hK
      exact W.zret (v := (1 : Int32)) (ty := .boolean) hx hb hr rfl (fun t ht hW => ⟨_, rfl, rfl, ht⟩) (fun _ h => by cases h) dX9_mayBe_85
  have hB := ifN c_5_3 hB
  refine lv_lookup (off := 98) (tgt := 99) hx hb dX9_mayBe_1 (by decide) ((lv_osw c_5_0 rfl).trans ((lv_osw c_5_1 rfl).trans ((lv_osw c_5_2 rfl).trans ((lv_osw c_5_3 rfl).trans (rfl))))) (by decide) ?_
  refine lv_iconst (v := 0) hx hb dX9_mayBe_99 (by decide) ?_
  have hK := leafK hB hK
  have hK : (0 : Int32) = R0 := hK
  subst hK
  exact W.zret (v := (0 : Int32)) (ty := .boolean) hx hb hr rfl (fun t ht hW => ⟨_, rfl, rfl, ht⟩) (fun _ h => by cases h) dX9_mayBe_100
def wd_X9_readRow (cs : Nat → ClassId) (a_t a_t_text a_t_opinions a_t_lines a_t_draftBook a_t_scribes a_t_turn a_t_bent a_t_need a_t_now a_t_isKept a_t_far a_t_marginOf a_t_marginSays : Nat) (v_t_trace : Int64) (v_t_typed : Int32) (v_t_needTold : Int32) (v_t_at : Int32) (v_t_start : Int32) (v_t_sort : Int32) (v_t_value : Int32) (v_t_fault : Int32) (v_t_target : Int32) (v_t_went : Int32) (v_t_ender : Int32) (v_t_had : Int32) (v_t_margins : Int32) (g_t_text : Nat → Int32) (g_t_opinions : Nat → Int32) (g_t_lines : Nat → Int32) (g_t_draftBook : Nat → Int32) (g_t_scribes : Nat → Int32) (g_t_turn : Nat → Int32) (g_t_bent : Nat → Int32) (g_t_need : Nat → Int32) : va_W := [(a_t, .inr (9, [.long v_t_trace, .ref a_t_text, .int v_t_typed, .ref a_t_opinions, .ref a_t_lines, .ref a_t_draftBook, .ref a_t_scribes, .ref a_t_turn, .ref a_t_bent, .ref a_t_need, .int v_t_needTold, .int v_t_at, .int v_t_start, .int v_t_sort, .int v_t_value, .int v_t_fault, .ref a_t_now, .ref a_t_isKept, .int v_t_target, .int v_t_went, .int v_t_ender, .int v_t_had, .ref a_t_far, .ref a_t_marginOf, .ref a_t_marginSays, .int v_t_margins])), (a_t_text, .inl (cs 1, 120, .inl g_t_text)), (a_t_opinions, .inl (cs 0, 2, .inl g_t_opinions)), (a_t_lines, .inl (cs 0, 2, .inl g_t_lines)), (a_t_draftBook, .inl (cs 0, 4, .inl g_t_draftBook)), (a_t_scribes, .inl (cs 0, 2, .inl g_t_scribes)), (a_t_turn, .inl (cs 0, 12, .inl g_t_turn)), (a_t_bent, .inl (cs 0, 12, .inl g_t_bent)), (a_t_need, .inl (cs 0, 2, .inl g_t_need))]
def rm_X9_readRow : Room := { frames := 4, cells := 0, slots := 0, locals := 87 }
theorem mI_X9_readRow : MI yX9_readRow RX9 cX9_readRow 2 none 1 := ⟨gI_X9_readRow, gE_X9_readRow, gN_X9, gC_X9_readRow, by decide +kernel⟩
set_option maxHeartbeats 4000000 in
set_option maxRecDepth 100000 in
theorem k_X9_readRow (l : Launch) (G : va_G) (cs : Nat → ClassId) (a_t a_t_text a_t_opinions a_t_lines a_t_draftBook a_t_scribes a_t_turn a_t_bent a_t_need a_t_now a_t_isKept a_t_far a_t_marginOf a_t_marginSays : Nat) (v_t_trace : Int64) (v_t_typed : Int32) (v_t_needTold : Int32) (v_t_at : Int32) (v_t_start : Int32) (v_t_sort : Int32) (v_t_value : Int32) (v_t_fault : Int32) (v_t_target : Int32) (v_t_went : Int32) (v_t_ender : Int32) (v_t_had : Int32) (v_t_margins : Int32) (g_t_text : Nat → Int32) (g_t_opinions : Nat → Int32) (g_t_lines : Nat → Int32) (g_t_draftBook : Nat → Int32) (g_t_scribes : Nat → Int32) (g_t_turn : Nat → Int32) (g_t_bent : Nat → Int32) (g_t_need : Nat → Int32) (p1 : Int32) (sz : Nat) (R0 : Int32 × Int32 × Int32 × Int32 × Int32 × Int32 × (Nat → Int32) × (Nat → Int32) × (Nat → Int32) × (Nat → Int32) × (Nat → Int32) × (Nat → Int32) × (Nat → Int32)) (hB : f_X9_readRow v_t_typed v_t_needTold v_t_at v_t_start v_t_sort v_t_value v_t_fault g_t_text g_t_opinions g_t_lines g_t_draftBook g_t_scribes g_t_turn g_t_bent g_t_need p1 = some R0) : Met l yX9_readRow (.code yX9_readRow cX9_readRow 2 none :: GW) rm_X9_readRow (PcW G cs [.ref a_t, .int p1] (wd_X9_readRow cs a_t a_t_text a_t_opinions a_t_lines a_t_draftBook a_t_scribes a_t_turn a_t_bent a_t_need a_t_now a_t_isKept a_t_far a_t_marginOf a_t_marginSays v_t_trace v_t_typed v_t_needTold v_t_at v_t_start v_t_sort v_t_value v_t_fault v_t_target v_t_went v_t_ender v_t_had v_t_margins g_t_text g_t_opinions g_t_lines g_t_draftBook g_t_scribes g_t_turn g_t_bent g_t_need) sz) (QcV G (va_A (wd_X9_readRow cs a_t a_t_text a_t_opinions a_t_lines a_t_draftBook a_t_scribes a_t_turn a_t_bent a_t_need a_t_now a_t_isKept a_t_far a_t_marginOf a_t_marginSays v_t_trace v_t_typed v_t_needTold v_t_at v_t_start v_t_sort v_t_value v_t_fault v_t_target v_t_went v_t_ender v_t_had v_t_margins g_t_text g_t_opinions g_t_lines g_t_draftBook g_t_scribes g_t_turn g_t_bent g_t_need) sz) (wd_X9_readRow cs a_t a_t_text a_t_opinions a_t_lines a_t_draftBook a_t_scribes a_t_turn a_t_bent a_t_need a_t_now a_t_isKept a_t_far a_t_marginOf a_t_marginSays v_t_trace v_t_typed R0.1 R0.2.1 R0.2.2.1 R0.2.2.2.1 R0.2.2.2.2.1 R0.2.2.2.2.2.1 v_t_target v_t_went v_t_ender v_t_had v_t_margins g_t_text R0.2.2.2.2.2.2.1 R0.2.2.2.2.2.2.2.1 R0.2.2.2.2.2.2.2.2.1 R0.2.2.2.2.2.2.2.2.2.1 R0.2.2.2.2.2.2.2.2.2.2.1 R0.2.2.2.2.2.2.2.2.2.2.2.1 R0.2.2.2.2.2.2.2.2.2.2.2.2)) 0 0 (va_A (wd_X9_readRow cs a_t a_t_text a_t_opinions a_t_lines a_t_draftBook a_t_scribes a_t_turn a_t_bent a_t_need a_t_now a_t_isKept a_t_far a_t_marginOf a_t_marginSays v_t_trace v_t_typed v_t_needTold v_t_at v_t_start v_t_sort v_t_value v_t_fault v_t_target v_t_went v_t_ender v_t_had v_t_margins g_t_text g_t_opinions g_t_lines g_t_draftBook g_t_scribes g_t_turn g_t_bent g_t_need) sz) := by
  refine Met.ofW (cc := cX9_readRow) (maxL := 2) (ret := none) (by decide) rfl ?_
  intro p e s m args below meth c s₁ B hml hv
  obtain ⟨rfl, hsz, hP, hD0, hK, hN⟩ := hv
  have hx := B.exec
  have hb := B.bytes
  have hr := B.returns
  have hts := atoms_spec (ws := .code yX9_readRow cX9_readRow 2 none :: GW) B.pre
  have hg : ∀ w ∈ GW, w.before _ s = true := fun w h => hts w (List.mem_cons_of_mem _ h)
  have hown : s.vm.findClass RX9 = some m.cls := findClass_of_methodNamed B.named
  have hlocks := B.notSynchronized
  subst hsz
  have hD := hD0.self (sz := s.heap.size)
  generalize hAe : va_A (wd_X9_readRow cs a_t a_t_text a_t_opinions a_t_lines a_t_draftBook a_t_scribes a_t_turn a_t_bent a_t_need a_t_now a_t_isKept a_t_far a_t_marginOf a_t_marginSays v_t_trace v_t_typed v_t_needTold v_t_at v_t_start v_t_sort v_t_value v_t_fault v_t_target v_t_went v_t_ender v_t_had v_t_margins g_t_text g_t_opinions g_t_lines g_t_draftBook g_t_scribes g_t_turn g_t_bent g_t_need) s.heap.size = A at hD ⊢
  have hA : ∀ q : Nat, s.heap.size ≤ q → A q := fun q h => by rw [← hAe]; exact Or.inr h
  have hS : va_S A s.heap s.heap [] := va_S.rf
  have hl := lv_entry ([.ref a_t, .int p1]) (n := 2) (Nat.le_of_ble_eq_true rfl)
  rw [lg_entry_eq]
  generalize (lg_sl ([.ref a_t, .int p1]) ++ List.replicate (2 - (lg_sl ([.ref a_t, .int p1])).length) Slot.unset).toArray = ls at hl ⊢
  have hl : lv_has ls 2 [(0, .ref a_t), (1, .int p1)] := hl
  obtain ⟨y, hB, hK0⟩ : ∃ y, f_X9_readRow v_t_typed v_t_needTold v_t_at v_t_start v_t_sort v_t_value v_t_fault g_t_text g_t_opinions g_t_lines g_t_draftBook g_t_scribes g_t_turn g_t_bent g_t_need p1 = some y ∧ KEnd R0 y := ⟨R0, hB, rfl⟩
  have hKT := hK
  have hK := hK0
  obtain ⟨H, hHe⟩ : ∃ H, H = s.heap := ⟨_, rfl⟩
  obtain ⟨locs, hLe⟩ : ∃ L : List Loc, L = [] := ⟨_, rfl⟩
  rw [← hHe] at hP
  have hS : va_S A s.heap H locs := by rw [hHe, hLe]; exact hS
  show W p l e rm_X9_readRow s m ([.ref a_t, .int p1] : List Value).toArray below meth c s.heap [] 0 0 _ _
  suffices hgo : W p l e rm_X9_readRow s m ([.ref a_t, .int p1] : List Value).toArray below meth c H locs 0 0 (MQ below (QcV G A (wd_X9_readRow cs a_t a_t_text a_t_opinions a_t_lines a_t_draftBook a_t_scribes a_t_turn a_t_bent a_t_need a_t_now a_t_isKept a_t_far a_t_marginOf a_t_marginSays v_t_trace v_t_typed R0.1 R0.2.1 R0.2.2.1 R0.2.2.2.1 R0.2.2.2.2.1 R0.2.2.2.2.2.1 v_t_target v_t_went v_t_ender v_t_had v_t_margins g_t_text R0.2.2.2.2.2.2.1 R0.2.2.2.2.2.2.2.1 R0.2.2.2.2.2.2.2.2.1 R0.2.2.2.2.2.2.2.2.2.1 R0.2.2.2.2.2.2.2.2.2.2.1 R0.2.2.2.2.2.2.2.2.2.2.2.1 R0.2.2.2.2.2.2.2.2.2.2.2.2)) ([.ref a_t, .int p1] : List Value).toArray s 0 0 A) (F0 m 0 ls []) by rw [hHe, hLe] at hgo; exact hgo
  refine lv_iload_n hx hb dX9_readRow_0 rfl (lv_at hl 1 rfl) ?_
  by_cases c_14_0 : p1 = 98
  · have hB := ifP c_14_0 hB
    refine lv_lookup (off := 50) (tgt := 51) hx hb dX9_readRow_1 (by decide) (by rw [c_14_0]; decide) (by decide) ?_
    refine lv_aload_n hx hb dX9_readRow_51 rfl (lv_at hl 0 rfl) ?_
    refine va_get (D := G) (ci := 9) (v := .ref a_t_draftBook) (C := RX9) (T := TX9) (N := 26) hx hb hg inX9 hown hKT hP 0 rfl rfl 5 (by decide) (hg _ gF_X9_20) (fun _ h9 => h9) rfl dX9_readRow_52 ?_
    refine lv_iconst (v := 0) hx hb dX9_readRow_55 (by decide) ?_
    refine lv_aload_n hx hb dX9_readRow_56 rfl (lv_at hl 0 rfl) ?_
    refine lv_iconst (v := 0) hx hb dX9_readRow_57 (by decide) ?_
    refine lv_aload_n hx hb dX9_readRow_58 rfl (lv_at hl 0 rfl) ?_
    refine va_get (D := G) (ci := 9) (v := .ref a_t_opinions) (C := RX9) (T := TX9) (N := 26) hx hb hg inX9 hown hKT hP 0 rfl rfl 3 (by decide) (hg _ gF_X9_13) (fun _ h9 => h9) rfl dX9_readRow_59 ?_
    refine lv_iconst (v := 1) hx hb dX9_readRow_62 (by decide) ?_
    refine va_iald hx hb hKT hP 2 0 rfl rfl (vinC (by decide)) dX9_readRow_63 ?_
    refine lv_iconst (v := 1) hx hb dX9_readRow_64 (by decide) ?_
    refine lv_isub hx hb dX9_readRow_65 ?_
    obtain ⟨⟨q1_0, q1_1, q1_2, q1_3, q1_4, q1_5⟩, hq1, hB⟩ := bnd hB
    refine kw_i (WC := wd_X9_number cs a_t a_t_text a_t_opinions a_t_lines a_t_draftBook a_t_scribes a_t_turn a_t_bent a_t_need a_t_now a_t_isKept a_t_far a_t_marginOf a_t_marginSays v_t_trace v_t_typed v_t_needTold v_t_at v_t_start v_t_sort v_t_value v_t_fault v_t_target v_t_went v_t_ender v_t_had v_t_margins g_t_text) (W1 := wd_X9_number cs a_t a_t_text a_t_opinions a_t_lines a_t_draftBook a_t_scribes a_t_turn a_t_bent a_t_need a_t_now a_t_isKept a_t_far a_t_marginOf a_t_marginSays v_t_trace v_t_typed v_t_needTold q1_1 q1_2 q1_3 q1_4 q1_5 v_t_target v_t_went v_t_ender v_t_had v_t_margins g_t_text) (W2 := wd_X9_readRow cs a_t a_t_text a_t_opinions a_t_lines a_t_draftBook a_t_scribes a_t_turn a_t_bent a_t_need a_t_now a_t_isKept a_t_far a_t_marginOf a_t_marginSays v_t_trace v_t_typed v_t_needTold q1_1 q1_2 q1_3 q1_4 q1_5 v_t_target v_t_went v_t_ender v_t_had v_t_margins g_t_text g_t_opinions g_t_lines g_t_draftBook g_t_scribes g_t_turn g_t_bent g_t_need) (r0 := q1_0) (rw_V (As := [.int (0 : Int32), .int ((g_t_opinions (1 : Int32).toNatClampNeg) - (1 : Int32))]) (rest := [.int (0 : Int32), .ref a_t_draftBook]) ⟨hx, hb, hml, hown, hg⟩ (k_X9_number l G cs a_t a_t_text a_t_opinions a_t_lines a_t_draftBook a_t_scribes a_t_turn a_t_bent a_t_need a_t_now a_t_isKept a_t_far a_t_marginOf a_t_marginSays v_t_trace v_t_typed v_t_needTold v_t_at v_t_start v_t_sort v_t_value v_t_fault v_t_target v_t_went v_t_ender v_t_had v_t_margins g_t_text (0 : Int32) ((g_t_opinions (1 : Int32).toNatClampNeg) - (1 : Int32)) H.size (q1_0, q1_1, q1_2, q1_3, q1_4, q1_5) hq1) gM_X9_95 mI_X9_number (rmk rfl) hP hD hKT hN 0 rfl rfl [0, 1] rfl rfl rfl hl.1 rfl (Nat.le_of_ble_eq_true rfl) dX9_readRow_66) hP hD hS hA [0, 1] [2, 3, 4, 5, 6, 7, 8] [7, 8, 0, 1, 2, 3, 4, 5, 6] ⟨rfl, rfl, rfl, rfl, rfl, rfl, rfl⟩ (fun H locs hP hD hS => ?_)
    refine va_iast hx hb hKT hP hD hS 4 0 rfl rfl (vinC (by decide)) dX9_readRow_69 (fun H locs hP hD hS => ?_)
    have hP : va_P G vwCl (wd_X9_readRow cs a_t a_t_text a_t_opinions a_t_lines a_t_draftBook a_t_scribes a_t_turn a_t_bent a_t_need a_t_now a_t_isKept a_t_far a_t_marginOf a_t_marginSays v_t_trace v_t_typed v_t_needTold q1_1 q1_2 q1_3 q1_4 q1_5 v_t_target v_t_went v_t_ender v_t_had v_t_margins g_t_text g_t_opinions g_t_lines (upd g_t_draftBook (0 : Int32).toNatClampNeg q1_0) g_t_scribes g_t_turn g_t_bent g_t_need) H := hP
    have hD : va_D A (wd_X9_readRow cs a_t a_t_text a_t_opinions a_t_lines a_t_draftBook a_t_scribes a_t_turn a_t_bent a_t_need a_t_now a_t_isKept a_t_far a_t_marginOf a_t_marginSays v_t_trace v_t_typed v_t_needTold q1_1 q1_2 q1_3 q1_4 q1_5 v_t_target v_t_went v_t_ender v_t_had v_t_margins g_t_text g_t_opinions g_t_lines (upd g_t_draftBook (0 : Int32).toNatClampNeg q1_0) g_t_scribes g_t_turn g_t_bent g_t_need) := hD
    refine lv_aload_n hx hb dX9_readRow_70 rfl (lv_at hl 0 rfl) ?_
    refine va_get (D := G) (ci := 9) (v := .ref a_t_lines) (C := RX9) (T := TX9) (N := 26) hx hb hg inX9 hown hKT hP 0 rfl rfl 4 (by decide) (hg _ gF_X9_17) (fun _ h9 => h9) rfl dX9_readRow_71 ?_
    refine lv_iconst (v := 1) hx hb dX9_readRow_74 (by decide) ?_
    refine lv_iconst (v := 1) hx hb dX9_readRow_75 (by decide) ?_
    refine va_iast hx hb hKT hP hD hS 3 0 rfl rfl (vinC (by decide)) dX9_readRow_76 (fun H locs hP hD hS => ?_)
    have hP : va_P G vwCl (wd_X9_readRow cs a_t a_t_text a_t_opinions a_t_lines a_t_draftBook a_t_scribes a_t_turn a_t_bent a_t_need a_t_now a_t_isKept a_t_far a_t_marginOf a_t_marginSays v_t_trace v_t_typed v_t_needTold q1_1 q1_2 q1_3 q1_4 q1_5 v_t_target v_t_went v_t_ender v_t_had v_t_margins g_t_text g_t_opinions (upd g_t_lines (1 : Int32).toNatClampNeg (1 : Int32)) (upd g_t_draftBook (0 : Int32).toNatClampNeg q1_0) g_t_scribes g_t_turn g_t_bent g_t_need) H := hP
    have hD : va_D A (wd_X9_readRow cs a_t a_t_text a_t_opinions a_t_lines a_t_draftBook a_t_scribes a_t_turn a_t_bent a_t_need a_t_now a_t_isKept a_t_far a_t_marginOf a_t_marginSays v_t_trace v_t_typed v_t_needTold q1_1 q1_2 q1_3 q1_4 q1_5 v_t_target v_t_went v_t_ender v_t_had v_t_margins g_t_text g_t_opinions (upd g_t_lines (1 : Int32).toNatClampNeg (1 : Int32)) (upd g_t_draftBook (0 : Int32).toNatClampNeg q1_0) g_t_scribes g_t_turn g_t_bent g_t_need) := hD
    refine lp_ind (Wh := fun (z2 : Int32 × Int32 × Int32 × Int32 × Int32 × (Nat → Int32) × (Nat → Int32)) => ∀ (H : Heap) (locs : List Loc), va_P G vwCl (wd_X9_readRow cs a_t a_t_text a_t_opinions a_t_lines a_t_draftBook a_t_scribes a_t_turn a_t_bent a_t_need a_t_now a_t_isKept a_t_far a_t_marginOf a_t_marginSays v_t_trace v_t_typed v_t_needTold z2.1 z2.2.1 z2.2.2.1 z2.2.2.2.1 z2.2.2.2.2.1 v_t_target v_t_went v_t_ender v_t_had v_t_margins g_t_text g_t_opinions z2.2.2.2.2.2.1 z2.2.2.2.2.2.2 g_t_scribes g_t_turn g_t_bent g_t_need) H → va_D A (wd_X9_readRow cs a_t a_t_text a_t_opinions a_t_lines a_t_draftBook a_t_scribes a_t_turn a_t_bent a_t_need a_t_now a_t_isKept a_t_far a_t_marginOf a_t_marginSays v_t_trace v_t_typed v_t_needTold z2.1 z2.2.1 z2.2.2.1 z2.2.2.2.1 z2.2.2.2.2.1 v_t_target v_t_went v_t_ender v_t_had v_t_margins g_t_text g_t_opinions z2.2.2.2.2.2.1 z2.2.2.2.2.2.2 g_t_scribes g_t_turn g_t_bent g_t_need) → va_S A s.heap H locs → ∀ (ls : Array Slot), lv_has ls 2 [(0, .ref a_t)] → W p l e rm_X9_readRow s m ([.ref a_t, .int p1] : List Value).toArray below meth c H locs 0 0 (MQ below (QcV G A (wd_X9_readRow cs a_t a_t_text a_t_opinions a_t_lines a_t_draftBook a_t_scribes a_t_turn a_t_bent a_t_need a_t_now a_t_isKept a_t_far a_t_marginOf a_t_marginSays v_t_trace v_t_typed R0.1 R0.2.1 R0.2.2.1 R0.2.2.2.1 R0.2.2.2.2.1 R0.2.2.2.2.2.1 v_t_target v_t_went v_t_ender v_t_had v_t_margins g_t_text R0.2.2.2.2.2.2.1 R0.2.2.2.2.2.2.2.1 R0.2.2.2.2.2.2.2.2.1 R0.2.2.2.2.2.2.2.2.2.1 R0.2.2.2.2.2.2.2.2.2.2.1 R0.2.2.2.2.2.2.2.2.2.2.2.1 R0.2.2.2.2.2.2.2.2.2.2.2.2)) ([.ref a_t, .int p1] : List Value).toArray s 0 0 A) (F0 m 77 ls [])) ?_ FU _ _ hB hK H locs hP hD hS ls (lv_sub hl [0] rfl)
    rintro ⟨z2_0, z2_1, z2_2, z2_3, z2_4, z2_5, z2_6⟩ y hB hK H locs hP hD hS ls hl
    have hl : lv_has ls 2 [(0, .ref a_t)] := hl
    have hP : va_P G vwCl (wd_X9_readRow cs a_t a_t_text a_t_opinions a_t_lines a_t_draftBook a_t_scribes a_t_turn a_t_bent a_t_need a_t_now a_t_isKept a_t_far a_t_marginOf a_t_marginSays v_t_trace v_t_typed v_t_needTold z2_0 z2_1 z2_2 z2_3 z2_4 v_t_target v_t_went v_t_ender v_t_had v_t_margins g_t_text g_t_opinions z2_5 z2_6 g_t_scribes g_t_turn g_t_bent g_t_need) H := hP
    have hD : va_D A (wd_X9_readRow cs a_t a_t_text a_t_opinions a_t_lines a_t_draftBook a_t_scribes a_t_turn a_t_bent a_t_need a_t_now a_t_isKept a_t_far a_t_marginOf a_t_marginSays v_t_trace v_t_typed v_t_needTold z2_0 z2_1 z2_2 z2_3 z2_4 v_t_target v_t_went v_t_ender v_t_had v_t_margins g_t_text g_t_opinions z2_5 z2_6 g_t_scribes g_t_turn g_t_bent g_t_need) := hD
    refine lv_aload_n hx hb dX9_readRow_77 rfl (lv_at hl 0 rfl) ?_
    refine va_get (D := G) (ci := 9) (v := .int z2_4) (C := RX9) (T := TX9) (N := 26) hx hb hg inX9 hown hKT hP 0 rfl rfl 15 (by decide) (hg _ gF_X9_81) (fun _ h9 => h9) rfl dX9_readRow_78 ?_
    refine lv_bipush (v := -9) hx hb dX9_readRow_81 (by decide) ?_
    refine lv_icmp_ne (tgt := 213) hx hb dX9_readRow_83 (by decide) (fun c_3 => ?_) (fun c_3 => ?_)
    · have hB := ifN c_3 hB
      have hK := leafK hB hK
      have hK := elimR hK
      have hK : (v_t_needTold, z2_0, z2_1, z2_2, z2_3, z2_4, g_t_opinions, z2_5, z2_6, g_t_scribes, g_t_turn, g_t_bent, g_t_need) = R0 := hK
      subst hK
      exact W.vret hx hb hr (fun t ht hW => ⟨⟨(), rfl, trivial, by rw [ht]; exact hP, hD⟩, hS.F ht⟩) hS.2.2 dX9_readRow_213
    · have hB := ifP c_3 hB
      refine lv_aload_n hx hb dX9_readRow_86 rfl (lv_at hl 0 rfl) ?_
      refine va_get (D := G) (ci := 9) (v := .int z2_2) (C := RX9) (T := TX9) (N := 26) hx hb hg inX9 hown hKT hP 0 rfl rfl 13 (by decide) (hg _ gF_X9_78) (fun _ h9 => h9) rfl dX9_readRow_87 ?_
      refine lv_iconst (v := 1) hx hb dX9_readRow_90 (by decide) ?_
      refine lv_icmp_ne (tgt := 213) hx hb dX9_readRow_91 (by decide) (fun c_4 => ?_) (fun c_4 => ?_)
      · have hB := ifN c_4 hB
        have hK := leafK hB hK
        have hK := elimR hK
        have hK : (v_t_needTold, z2_0, z2_1, z2_2, z2_3, z2_4, g_t_opinions, z2_5, z2_6, g_t_scribes, g_t_turn, g_t_bent, g_t_need) = R0 := hK
        subst hK
        exact W.vret hx hb hr (fun t ht hW => ⟨⟨(), rfl, trivial, by rw [ht]; exact hP, hD⟩, hS.F ht⟩) hS.2.2 dX9_readRow_213
      · have hB := ifP c_4 hB
        refine lv_aload_n hx hb dX9_readRow_94 rfl (lv_at hl 0 rfl) ?_
        refine va_get (D := G) (ci := 9) (v := .ref a_t_lines) (C := RX9) (T := TX9) (N := 26) hx hb hg inX9 hown hKT hP 0 rfl rfl 4 (by decide) (hg _ gF_X9_17) (fun _ h9 => h9) rfl dX9_readRow_95 ?_
        refine lv_iconst (v := 1) hx hb dX9_readRow_98 (by decide) ?_
        refine va_iald hx hb hKT hP 3 0 rfl rfl (vinC (by decide)) dX9_readRow_99 ?_
        refine lv_iconst (v := 4) hx hb dX9_readRow_100 (by decide) ?_
        refine lv_icmp_ge (tgt := 213) hx hb dX9_readRow_101 (by decide) (fun c_5 => ?_) (fun c_5 => ?_)
        · have hB := ifP c_5 hB
          have hK := leafK hB hK
          have hK := elimR hK
          have hK : (v_t_needTold, z2_0, z2_1, z2_2, z2_3, z2_4, g_t_opinions, z2_5, z2_6, g_t_scribes, g_t_turn, g_t_bent, g_t_need) = R0 := hK
          subst hK
          exact W.vret hx hb hr (fun t ht hW => ⟨⟨(), rfl, trivial, by rw [ht]; exact hP, hD⟩, hS.F ht⟩) hS.2.2 dX9_readRow_213
        · have hB := ifN c_5 hB
          refine lv_aload_n hx hb dX9_readRow_104 rfl (lv_at hl 0 rfl) ?_
          refine va_get (D := G) (ci := 9) (v := .ref a_t_draftBook) (C := RX9) (T := TX9) (N := 26) hx hb hg inX9 hown hKT hP 0 rfl rfl 5 (by decide) (hg _ gF_X9_20) (fun _ h9 => h9) rfl dX9_readRow_105 ?_
          refine lv_aload_n hx hb dX9_readRow_108 rfl (lv_at hl 0 rfl) ?_
          refine va_get (D := G) (ci := 9) (v := .ref a_t_lines) (C := RX9) (T := TX9) (N := 26) hx hb hg inX9 hown hKT hP 0 rfl rfl 4 (by decide) (hg _ gF_X9_17) (fun _ h9 => h9) rfl dX9_readRow_109 ?_
          refine lv_iconst (v := 1) hx hb dX9_readRow_112 (by decide) ?_
          refine va_iald hx hb hKT hP 3 0 rfl rfl (vinC (by decide)) dX9_readRow_113 ?_
          refine lv_aload_n hx hb dX9_readRow_114 rfl (lv_at hl 0 rfl) ?_
          refine lv_iconst (v := 0) hx hb dX9_readRow_115 (by decide) ?_
          refine lv_aload_n hx hb dX9_readRow_116 rfl (lv_at hl 0 rfl) ?_
          refine va_get (D := G) (ci := 9) (v := .ref a_t_opinions) (C := RX9) (T := TX9) (N := 26) hx hb hg inX9 hown hKT hP 0 rfl rfl 3 (by decide) (hg _ gF_X9_13) (fun _ h9 => h9) rfl dX9_readRow_117 ?_
          refine lv_iconst (v := 1) hx hb dX9_readRow_120 (by decide) ?_
          refine va_iald hx hb hKT hP 2 0 rfl rfl (vinC (by decide)) dX9_readRow_121 ?_
          refine lv_iconst (v := 1) hx hb dX9_readRow_122 (by decide) ?_
          refine lv_isub hx hb dX9_readRow_123 ?_
          obtain ⟨⟨q6_0, q6_1, q6_2, q6_3, q6_4, q6_5⟩, hq6, hB⟩ := bnd hB
          refine kw_i (WC := wd_X9_number cs a_t a_t_text a_t_opinions a_t_lines a_t_draftBook a_t_scribes a_t_turn a_t_bent a_t_need a_t_now a_t_isKept a_t_far a_t_marginOf a_t_marginSays v_t_trace v_t_typed v_t_needTold z2_0 z2_1 z2_2 z2_3 z2_4 v_t_target v_t_went v_t_ender v_t_had v_t_margins g_t_text) (W1 := wd_X9_number cs a_t a_t_text a_t_opinions a_t_lines a_t_draftBook a_t_scribes a_t_turn a_t_bent a_t_need a_t_now a_t_isKept a_t_far a_t_marginOf a_t_marginSays v_t_trace v_t_typed v_t_needTold q6_1 q6_2 q6_3 q6_4 q6_5 v_t_target v_t_went v_t_ender v_t_had v_t_margins g_t_text) (W2 := wd_X9_readRow cs a_t a_t_text a_t_opinions a_t_lines a_t_draftBook a_t_scribes a_t_turn a_t_bent a_t_need a_t_now a_t_isKept a_t_far a_t_marginOf a_t_marginSays v_t_trace v_t_typed v_t_needTold q6_1 q6_2 q6_3 q6_4 q6_5 v_t_target v_t_went v_t_ender v_t_had v_t_margins g_t_text g_t_opinions z2_5 z2_6 g_t_scribes g_t_turn g_t_bent g_t_need) (r0 := q6_0) (rw_V (As := [.int (0 : Int32), .int ((g_t_opinions (1 : Int32).toNatClampNeg) - (1 : Int32))]) (rest := [.int (z2_5 (1 : Int32).toNatClampNeg), .ref a_t_draftBook]) ⟨hx, hb, hml, hown, hg⟩ (k_X9_number l G cs a_t a_t_text a_t_opinions a_t_lines a_t_draftBook a_t_scribes a_t_turn a_t_bent a_t_need a_t_now a_t_isKept a_t_far a_t_marginOf a_t_marginSays v_t_trace v_t_typed v_t_needTold z2_0 z2_1 z2_2 z2_3 z2_4 v_t_target v_t_went v_t_ender v_t_had v_t_margins g_t_text (0 : Int32) ((g_t_opinions (1 : Int32).toNatClampNeg) - (1 : Int32)) H.size (q6_0, q6_1, q6_2, q6_3, q6_4, q6_5) hq6) gM_X9_95 mI_X9_number (rmk rfl) hP hD hKT hN 0 rfl rfl [0, 1] rfl rfl rfl hl.1 rfl (Nat.le_of_ble_eq_true rfl) dX9_readRow_124) hP hD hS hA [0, 1] [2, 3, 4, 5, 6, 7, 8] [7, 8, 0, 1, 2, 3, 4, 5, 6] ⟨rfl, rfl, rfl, rfl, rfl, rfl, rfl⟩ (fun H locs hP hD hS => ?_)
          obtain ⟨h_7, hB⟩ := ifS hB
          refine va_iast hx hb hKT hP hD hS 4 0 rfl rfl h_7 dX9_readRow_127 (fun H locs hP hD hS => ?_)
          have hP : va_P G vwCl (wd_X9_readRow cs a_t a_t_text a_t_opinions a_t_lines a_t_draftBook a_t_scribes a_t_turn a_t_bent a_t_need a_t_now a_t_isKept a_t_far a_t_marginOf a_t_marginSays v_t_trace v_t_typed v_t_needTold q6_1 q6_2 q6_3 q6_4 q6_5 v_t_target v_t_went v_t_ender v_t_had v_t_margins g_t_text g_t_opinions z2_5 (upd z2_6 (z2_5 (1 : Int32).toNatClampNeg).toNatClampNeg q6_0) g_t_scribes g_t_turn g_t_bent g_t_need) H := hP
          have hD : va_D A (wd_X9_readRow cs a_t a_t_text a_t_opinions a_t_lines a_t_draftBook a_t_scribes a_t_turn a_t_bent a_t_need a_t_now a_t_isKept a_t_far a_t_marginOf a_t_marginSays v_t_trace v_t_typed v_t_needTold q6_1 q6_2 q6_3 q6_4 q6_5 v_t_target v_t_went v_t_ender v_t_had v_t_margins g_t_text g_t_opinions z2_5 (upd z2_6 (z2_5 (1 : Int32).toNatClampNeg).toNatClampNeg q6_0) g_t_scribes g_t_turn g_t_bent g_t_need) := hD
          refine lv_aload_n hx hb dX9_readRow_128 rfl (lv_at hl 0 rfl) ?_
          refine va_get (D := G) (ci := 9) (v := .ref a_t_lines) (C := RX9) (T := TX9) (N := 26) hx hb hg inX9 hown hKT hP 0 rfl rfl 4 (by decide) (hg _ gF_X9_17) (fun _ h9 => h9) rfl dX9_readRow_129 ?_
          refine lv_iconst (v := 1) hx hb dX9_readRow_132 (by decide) ?_
          refine lv_dup2_11 hx hb dX9_readRow_133 rfl rfl ?_
          refine va_iald hx hb hKT hP 3 0 rfl rfl (vinC (by decide)) dX9_readRow_134 ?_
          refine lv_iconst (v := 1) hx hb dX9_readRow_135 (by decide) ?_
          refine lv_iadd hx hb dX9_readRow_136 ?_
          refine va_iast hx hb hKT hP hD hS 3 0 rfl rfl (vinC (by decide)) dX9_readRow_137 (fun H locs hP hD hS => ?_)
          have hP : va_P G vwCl (wd_X9_readRow cs a_t a_t_text a_t_opinions a_t_lines a_t_draftBook a_t_scribes a_t_turn a_t_bent a_t_need a_t_now a_t_isKept a_t_far a_t_marginOf a_t_marginSays v_t_trace v_t_typed v_t_needTold q6_1 q6_2 q6_3 q6_4 q6_5 v_t_target v_t_went v_t_ender v_t_had v_t_margins g_t_text g_t_opinions (upd z2_5 (1 : Int32).toNatClampNeg ((z2_5 (1 : Int32).toNatClampNeg) + (1 : Int32))) (upd z2_6 (z2_5 (1 : Int32).toNatClampNeg).toNatClampNeg q6_0) g_t_scribes g_t_turn g_t_bent g_t_need) H := hP
          have hD : va_D A (wd_X9_readRow cs a_t a_t_text a_t_opinions a_t_lines a_t_draftBook a_t_scribes a_t_turn a_t_bent a_t_need a_t_now a_t_isKept a_t_far a_t_marginOf a_t_marginSays v_t_trace v_t_typed v_t_needTold q6_1 q6_2 q6_3 q6_4 q6_5 v_t_target v_t_went v_t_ender v_t_had v_t_margins g_t_text g_t_opinions (upd z2_5 (1 : Int32).toNatClampNeg ((z2_5 (1 : Int32).toNatClampNeg) + (1 : Int32))) (upd z2_6 (z2_5 (1 : Int32).toNatClampNeg).toNatClampNeg q6_0) g_t_scribes g_t_turn g_t_bent g_t_need) := hD
          refine lv_goto (tgt := 77) hx hb dX9_readRow_138 (by decide) ?_
          have hK := leafK hB hK
          have hK := elimL hK
          exact hK H locs hP hD hS ls (lv_sub hl [0] rfl)
  have hB := ifN c_14_0 hB
  by_cases c_14_1 : p1 = 111
  · have hB := ifP c_14_1 hB
    refine lv_lookup (off := 35) (tgt := 36) hx hb dX9_readRow_1 (by decide) (by rw [c_14_1]; decide) (by decide) ?_
    refine lv_aload_n hx hb dX9_readRow_36 rfl (lv_at hl 0 rfl) ?_
    refine va_get (D := G) (ci := 9) (v := .ref a_t_opinions) (C := RX9) (T := TX9) (N := 26) hx hb hg inX9 hown hKT hP 0 rfl rfl 3 (by decide) (hg _ gF_X9_13) (fun _ h9 => h9) rfl dX9_readRow_37 ?_
    refine lv_iconst (v := 1) hx hb dX9_readRow_40 (by decide) ?_
    refine lv_aload_n hx hb dX9_readRow_41 rfl (lv_at hl 0 rfl) ?_
    refine lv_iconst (v := 2) hx hb dX9_readRow_42 (by decide) ?_
    refine lv_iconst (v := 5) hx hb dX9_readRow_43 (by decide) ?_
    obtain ⟨⟨q8_0, q8_1, q8_2, q8_3, q8_4, q8_5⟩, hq8, hB⟩ := bnd hB
    refine kw_i (WC := wd_X9_number cs a_t a_t_text a_t_opinions a_t_lines a_t_draftBook a_t_scribes a_t_turn a_t_bent a_t_need a_t_now a_t_isKept a_t_far a_t_marginOf a_t_marginSays v_t_trace v_t_typed v_t_needTold v_t_at v_t_start v_t_sort v_t_value v_t_fault v_t_target v_t_went v_t_ender v_t_had v_t_margins g_t_text) (W1 := wd_X9_number cs a_t a_t_text a_t_opinions a_t_lines a_t_draftBook a_t_scribes a_t_turn a_t_bent a_t_need a_t_now a_t_isKept a_t_far a_t_marginOf a_t_marginSays v_t_trace v_t_typed v_t_needTold q8_1 q8_2 q8_3 q8_4 q8_5 v_t_target v_t_went v_t_ender v_t_had v_t_margins g_t_text) (W2 := wd_X9_readRow cs a_t a_t_text a_t_opinions a_t_lines a_t_draftBook a_t_scribes a_t_turn a_t_bent a_t_need a_t_now a_t_isKept a_t_far a_t_marginOf a_t_marginSays v_t_trace v_t_typed v_t_needTold q8_1 q8_2 q8_3 q8_4 q8_5 v_t_target v_t_went v_t_ender v_t_had v_t_margins g_t_text g_t_opinions g_t_lines g_t_draftBook g_t_scribes g_t_turn g_t_bent g_t_need) (r0 := q8_0) (rw_V (As := [.int (2 : Int32), .int (5 : Int32)]) (rest := [.int (1 : Int32), .ref a_t_opinions]) ⟨hx, hb, hml, hown, hg⟩ (k_X9_number l G cs a_t a_t_text a_t_opinions a_t_lines a_t_draftBook a_t_scribes a_t_turn a_t_bent a_t_need a_t_now a_t_isKept a_t_far a_t_marginOf a_t_marginSays v_t_trace v_t_typed v_t_needTold v_t_at v_t_start v_t_sort v_t_value v_t_fault v_t_target v_t_went v_t_ender v_t_had v_t_margins g_t_text (2 : Int32) (5 : Int32) H.size (q8_0, q8_1, q8_2, q8_3, q8_4, q8_5) hq8) gM_X9_95 mI_X9_number (rmk rfl) hP hD hKT hN 0 rfl rfl [0, 1] rfl rfl rfl hl.1 rfl (Nat.le_of_ble_eq_true rfl) dX9_readRow_44) hP hD hS hA [0, 1] [2, 3, 4, 5, 6, 7, 8] [7, 8, 0, 1, 2, 3, 4, 5, 6] ⟨rfl, rfl, rfl, rfl, rfl, rfl, rfl⟩ (fun H locs hP hD hS => ?_)
    refine va_iast hx hb hKT hP hD hS 2 0 rfl rfl (vinC (by decide)) dX9_readRow_47 (fun H locs hP hD hS => ?_)
    have hP : va_P G vwCl (wd_X9_readRow cs a_t a_t_text a_t_opinions a_t_lines a_t_draftBook a_t_scribes a_t_turn a_t_bent a_t_need a_t_now a_t_isKept a_t_far a_t_marginOf a_t_marginSays v_t_trace v_t_typed v_t_needTold q8_1 q8_2 q8_3 q8_4 q8_5 v_t_target v_t_went v_t_ender v_t_had v_t_margins g_t_text (upd g_t_opinions (1 : Int32).toNatClampNeg q8_0) g_t_lines g_t_draftBook g_t_scribes g_t_turn g_t_bent g_t_need) H := hP
    have hD : va_D A (wd_X9_readRow cs a_t a_t_text a_t_opinions a_t_lines a_t_draftBook a_t_scribes a_t_turn a_t_bent a_t_need a_t_now a_t_isKept a_t_far a_t_marginOf a_t_marginSays v_t_trace v_t_typed v_t_needTold q8_1 q8_2 q8_3 q8_4 q8_5 v_t_target v_t_went v_t_ender v_t_had v_t_margins g_t_text (upd g_t_opinions (1 : Int32).toNatClampNeg q8_0) g_t_lines g_t_draftBook g_t_scribes g_t_turn g_t_bent g_t_need) := hD
    refine lv_goto (tgt := 213) hx hb dX9_readRow_48 (by decide) ?_
    have hK := leafK hB hK
    have hK : (v_t_needTold, q8_1, q8_2, q8_3, q8_4, q8_5, upd g_t_opinions (1 : Int32).toNatClampNeg q8_0, g_t_lines, g_t_draftBook, g_t_scribes, g_t_turn, g_t_bent, g_t_need) = R0 := hK
    subst hK
    exact W.vret hx hb hr (fun t ht hW => ⟨⟨(), rfl, trivial, by rw [ht]; exact hP, hD⟩, hS.F ht⟩) hS.2.2 dX9_readRow_213
  have hB := ifN c_14_1 hB
  by_cases c_14_2 : p1 = 115
  · have hB := ifP c_14_2 hB
    refine lv_lookup (off := 140) (tgt := 141) hx hb dX9_readRow_1 (by decide) (by rw [c_14_2]; decide) (by decide) ?_
    refine lv_aload_n hx hb dX9_readRow_141 rfl (lv_at hl 0 rfl) ?_
    refine va_get (D := G) (ci := 9) (v := .ref a_t_turn) (C := RX9) (T := TX9) (N := 26) hx hb hg inX9 hown hKT hP 0 rfl rfl 7 (by decide) (hg _ gF_X9_26) (fun _ h9 => h9) rfl dX9_readRow_142 ?_
    refine lv_bipush (v := 6) hx hb dX9_readRow_145 (by decide) ?_
    refine lv_aload_n hx hb dX9_readRow_147 rfl (lv_at hl 0 rfl) ?_
    refine va_get (D := G) (ci := 9) (v := .ref a_t_scribes) (C := RX9) (T := TX9) (N := 26) hx hb hg inX9 hown hKT hP 0 rfl rfl 6 (by decide) (hg _ gF_X9_23) (fun _ h9 => h9) rfl dX9_readRow_148 ?_
    refine lv_iconst (v := 1) hx hb dX9_readRow_151 (by decide) ?_
    refine va_iald hx hb hKT hP 5 0 rfl rfl (vinC (by decide)) dX9_readRow_152 ?_
    refine lv_iadd hx hb dX9_readRow_153 ?_
    refine lv_aload_n hx hb dX9_readRow_154 rfl (lv_at hl 0 rfl) ?_
    refine lv_iconst (v := 0) hx hb dX9_readRow_155 (by decide) ?_
    refine lv_bipush (v := 6) hx hb dX9_readRow_156 (by decide) ?_
    obtain ⟨⟨q9_0, q9_1, q9_2, q9_3, q9_4, q9_5⟩, hq9, hB⟩ := bnd hB
    refine kw_i (WC := wd_X9_number cs a_t a_t_text a_t_opinions a_t_lines a_t_draftBook a_t_scribes a_t_turn a_t_bent a_t_need a_t_now a_t_isKept a_t_far a_t_marginOf a_t_marginSays v_t_trace v_t_typed v_t_needTold v_t_at v_t_start v_t_sort v_t_value v_t_fault v_t_target v_t_went v_t_ender v_t_had v_t_margins g_t_text) (W1 := wd_X9_number cs a_t a_t_text a_t_opinions a_t_lines a_t_draftBook a_t_scribes a_t_turn a_t_bent a_t_need a_t_now a_t_isKept a_t_far a_t_marginOf a_t_marginSays v_t_trace v_t_typed v_t_needTold q9_1 q9_2 q9_3 q9_4 q9_5 v_t_target v_t_went v_t_ender v_t_had v_t_margins g_t_text) (W2 := wd_X9_readRow cs a_t a_t_text a_t_opinions a_t_lines a_t_draftBook a_t_scribes a_t_turn a_t_bent a_t_need a_t_now a_t_isKept a_t_far a_t_marginOf a_t_marginSays v_t_trace v_t_typed v_t_needTold q9_1 q9_2 q9_3 q9_4 q9_5 v_t_target v_t_went v_t_ender v_t_had v_t_margins g_t_text g_t_opinions g_t_lines g_t_draftBook g_t_scribes g_t_turn g_t_bent g_t_need) (r0 := q9_0) (rw_V (As := [.int (0 : Int32), .int (6 : Int32)]) (rest := [.int ((6 : Int32) + (g_t_scribes (1 : Int32).toNatClampNeg)), .ref a_t_turn]) ⟨hx, hb, hml, hown, hg⟩ (k_X9_number l G cs a_t a_t_text a_t_opinions a_t_lines a_t_draftBook a_t_scribes a_t_turn a_t_bent a_t_need a_t_now a_t_isKept a_t_far a_t_marginOf a_t_marginSays v_t_trace v_t_typed v_t_needTold v_t_at v_t_start v_t_sort v_t_value v_t_fault v_t_target v_t_went v_t_ender v_t_had v_t_margins g_t_text (0 : Int32) (6 : Int32) H.size (q9_0, q9_1, q9_2, q9_3, q9_4, q9_5) hq9) gM_X9_95 mI_X9_number (rmk rfl) hP hD hKT hN 0 rfl rfl [0, 1] rfl rfl rfl hl.1 rfl (Nat.le_of_ble_eq_true rfl) dX9_readRow_158) hP hD hS hA [0, 1] [2, 3, 4, 5, 6, 7, 8] [7, 8, 0, 1, 2, 3, 4, 5, 6] ⟨rfl, rfl, rfl, rfl, rfl, rfl, rfl⟩ (fun H locs hP hD hS => ?_)
    obtain ⟨h_10, hB⟩ := ifS hB
    refine va_iast hx hb hKT hP hD hS 6 0 rfl rfl h_10 dX9_readRow_161 (fun H locs hP hD hS => ?_)
    have hP : va_P G vwCl (wd_X9_readRow cs a_t a_t_text a_t_opinions a_t_lines a_t_draftBook a_t_scribes a_t_turn a_t_bent a_t_need a_t_now a_t_isKept a_t_far a_t_marginOf a_t_marginSays v_t_trace v_t_typed v_t_needTold q9_1 q9_2 q9_3 q9_4 q9_5 v_t_target v_t_went v_t_ender v_t_had v_t_margins g_t_text g_t_opinions g_t_lines g_t_draftBook g_t_scribes (upd g_t_turn ((6 : Int32) + (g_t_scribes (1 : Int32).toNatClampNeg)).toNatClampNeg q9_0) g_t_bent g_t_need) H := hP
    have hD : va_D A (wd_X9_readRow cs a_t a_t_text a_t_opinions a_t_lines a_t_draftBook a_t_scribes a_t_turn a_t_bent a_t_need a_t_now a_t_isKept a_t_far a_t_marginOf a_t_marginSays v_t_trace v_t_typed v_t_needTold q9_1 q9_2 q9_3 q9_4 q9_5 v_t_target v_t_went v_t_ender v_t_had v_t_margins g_t_text g_t_opinions g_t_lines g_t_draftBook g_t_scribes (upd g_t_turn ((6 : Int32) + (g_t_scribes (1 : Int32).toNatClampNeg)).toNatClampNeg q9_0) g_t_bent g_t_need) := hD
    refine lv_aload_n hx hb dX9_readRow_162 rfl (lv_at hl 0 rfl) ?_
    refine va_get (D := G) (ci := 9) (v := .ref a_t_bent) (C := RX9) (T := TX9) (N := 26) hx hb hg inX9 hown hKT hP 0 rfl rfl 8 (by decide) (hg _ gF_X9_29) (fun _ h9 => h9) rfl dX9_readRow_163 ?_
    refine lv_bipush (v := 6) hx hb dX9_readRow_166 (by decide) ?_
    refine lv_aload_n hx hb dX9_readRow_168 rfl (lv_at hl 0 rfl) ?_
    refine va_get (D := G) (ci := 9) (v := .ref a_t_scribes) (C := RX9) (T := TX9) (N := 26) hx hb hg inX9 hown hKT hP 0 rfl rfl 6 (by decide) (hg _ gF_X9_23) (fun _ h9 => h9) rfl dX9_readRow_169 ?_
    refine lv_iconst (v := 1) hx hb dX9_readRow_172 (by decide) ?_
    refine va_iald hx hb hKT hP 5 0 rfl rfl (vinC (by decide)) dX9_readRow_173 ?_
    refine lv_iadd hx hb dX9_readRow_174 ?_
    refine lv_aload_n hx hb dX9_readRow_175 rfl (lv_at hl 0 rfl) ?_
    refine lv_iconst (v := 0) hx hb dX9_readRow_176 (by decide) ?_
    refine lv_bipush (v := 6) hx hb dX9_readRow_177 (by decide) ?_
    obtain ⟨⟨q11_0, q11_1, q11_2, q11_3, q11_4, q11_5⟩, hq11, hB⟩ := bnd hB
    refine kw_i (WC := wd_X9_number cs a_t a_t_text a_t_opinions a_t_lines a_t_draftBook a_t_scribes a_t_turn a_t_bent a_t_need a_t_now a_t_isKept a_t_far a_t_marginOf a_t_marginSays v_t_trace v_t_typed v_t_needTold q9_1 q9_2 q9_3 q9_4 q9_5 v_t_target v_t_went v_t_ender v_t_had v_t_margins g_t_text) (W1 := wd_X9_number cs a_t a_t_text a_t_opinions a_t_lines a_t_draftBook a_t_scribes a_t_turn a_t_bent a_t_need a_t_now a_t_isKept a_t_far a_t_marginOf a_t_marginSays v_t_trace v_t_typed v_t_needTold q11_1 q11_2 q11_3 q11_4 q11_5 v_t_target v_t_went v_t_ender v_t_had v_t_margins g_t_text) (W2 := wd_X9_readRow cs a_t a_t_text a_t_opinions a_t_lines a_t_draftBook a_t_scribes a_t_turn a_t_bent a_t_need a_t_now a_t_isKept a_t_far a_t_marginOf a_t_marginSays v_t_trace v_t_typed v_t_needTold q11_1 q11_2 q11_3 q11_4 q11_5 v_t_target v_t_went v_t_ender v_t_had v_t_margins g_t_text g_t_opinions g_t_lines g_t_draftBook g_t_scribes (upd g_t_turn ((6 : Int32) + (g_t_scribes (1 : Int32).toNatClampNeg)).toNatClampNeg q9_0) g_t_bent g_t_need) (r0 := q11_0) (rw_V (As := [.int (0 : Int32), .int (6 : Int32)]) (rest := [.int ((6 : Int32) + (g_t_scribes (1 : Int32).toNatClampNeg)), .ref a_t_bent]) ⟨hx, hb, hml, hown, hg⟩ (k_X9_number l G cs a_t a_t_text a_t_opinions a_t_lines a_t_draftBook a_t_scribes a_t_turn a_t_bent a_t_need a_t_now a_t_isKept a_t_far a_t_marginOf a_t_marginSays v_t_trace v_t_typed v_t_needTold q9_1 q9_2 q9_3 q9_4 q9_5 v_t_target v_t_went v_t_ender v_t_had v_t_margins g_t_text (0 : Int32) (6 : Int32) H.size (q11_0, q11_1, q11_2, q11_3, q11_4, q11_5) hq11) gM_X9_95 mI_X9_number (rmk rfl) hP hD hKT hN 0 rfl rfl [0, 1] rfl rfl rfl hl.1 rfl (Nat.le_of_ble_eq_true rfl) dX9_readRow_179) hP hD hS hA [0, 1] [2, 3, 4, 5, 6, 7, 8] [7, 8, 0, 1, 2, 3, 4, 5, 6] ⟨rfl, rfl, rfl, rfl, rfl, rfl, rfl⟩ (fun H locs hP hD hS => ?_)
    obtain ⟨h_12, hB⟩ := ifS hB
    refine va_iast hx hb hKT hP hD hS 7 0 rfl rfl h_12 dX9_readRow_182 (fun H locs hP hD hS => ?_)
    have hP : va_P G vwCl (wd_X9_readRow cs a_t a_t_text a_t_opinions a_t_lines a_t_draftBook a_t_scribes a_t_turn a_t_bent a_t_need a_t_now a_t_isKept a_t_far a_t_marginOf a_t_marginSays v_t_trace v_t_typed v_t_needTold q11_1 q11_2 q11_3 q11_4 q11_5 v_t_target v_t_went v_t_ender v_t_had v_t_margins g_t_text g_t_opinions g_t_lines g_t_draftBook g_t_scribes (upd g_t_turn ((6 : Int32) + (g_t_scribes (1 : Int32).toNatClampNeg)).toNatClampNeg q9_0) (upd g_t_bent ((6 : Int32) + (g_t_scribes (1 : Int32).toNatClampNeg)).toNatClampNeg q11_0) g_t_need) H := hP
    have hD : va_D A (wd_X9_readRow cs a_t a_t_text a_t_opinions a_t_lines a_t_draftBook a_t_scribes a_t_turn a_t_bent a_t_need a_t_now a_t_isKept a_t_far a_t_marginOf a_t_marginSays v_t_trace v_t_typed v_t_needTold q11_1 q11_2 q11_3 q11_4 q11_5 v_t_target v_t_went v_t_ender v_t_had v_t_margins g_t_text g_t_opinions g_t_lines g_t_draftBook g_t_scribes (upd g_t_turn ((6 : Int32) + (g_t_scribes (1 : Int32).toNatClampNeg)).toNatClampNeg q9_0) (upd g_t_bent ((6 : Int32) + (g_t_scribes (1 : Int32).toNatClampNeg)).toNatClampNeg q11_0) g_t_need) := hD
    refine lv_aload_n hx hb dX9_readRow_183 rfl (lv_at hl 0 rfl) ?_
    refine va_get (D := G) (ci := 9) (v := .ref a_t_scribes) (C := RX9) (T := TX9) (N := 26) hx hb hg inX9 hown hKT hP 0 rfl rfl 6 (by decide) (hg _ gF_X9_23) (fun _ h9 => h9) rfl dX9_readRow_184 ?_
    refine lv_iconst (v := 1) hx hb dX9_readRow_187 (by decide) ?_
    refine lv_dup2_11 hx hb dX9_readRow_188 rfl rfl ?_
    refine va_iald hx hb hKT hP 5 0 rfl rfl (vinC (by decide)) dX9_readRow_189 ?_
    refine lv_iconst (v := 1) hx hb dX9_readRow_190 (by decide) ?_
    refine lv_iadd hx hb dX9_readRow_191 ?_
    refine va_iast hx hb hKT hP hD hS 5 0 rfl rfl (vinC (by decide)) dX9_readRow_192 (fun H locs hP hD hS => ?_)
    have hP : va_P G vwCl (wd_X9_readRow cs a_t a_t_text a_t_opinions a_t_lines a_t_draftBook a_t_scribes a_t_turn a_t_bent a_t_need a_t_now a_t_isKept a_t_far a_t_marginOf a_t_marginSays v_t_trace v_t_typed v_t_needTold q11_1 q11_2 q11_3 q11_4 q11_5 v_t_target v_t_went v_t_ender v_t_had v_t_margins g_t_text g_t_opinions g_t_lines g_t_draftBook (upd g_t_scribes (1 : Int32).toNatClampNeg ((g_t_scribes (1 : Int32).toNatClampNeg) + (1 : Int32))) (upd g_t_turn ((6 : Int32) + (g_t_scribes (1 : Int32).toNatClampNeg)).toNatClampNeg q9_0) (upd g_t_bent ((6 : Int32) + (g_t_scribes (1 : Int32).toNatClampNeg)).toNatClampNeg q11_0) g_t_need) H := hP
    have hD : va_D A (wd_X9_readRow cs a_t a_t_text a_t_opinions a_t_lines a_t_draftBook a_t_scribes a_t_turn a_t_bent a_t_need a_t_now a_t_isKept a_t_far a_t_marginOf a_t_marginSays v_t_trace v_t_typed v_t_needTold q11_1 q11_2 q11_3 q11_4 q11_5 v_t_target v_t_went v_t_ender v_t_had v_t_margins g_t_text g_t_opinions g_t_lines g_t_draftBook (upd g_t_scribes (1 : Int32).toNatClampNeg ((g_t_scribes (1 : Int32).toNatClampNeg) + (1 : Int32))) (upd g_t_turn ((6 : Int32) + (g_t_scribes (1 : Int32).toNatClampNeg)).toNatClampNeg q9_0) (upd g_t_bent ((6 : Int32) + (g_t_scribes (1 : Int32).toNatClampNeg)).toNatClampNeg q11_0) g_t_need) := hD
    refine lv_goto (tgt := 213) hx hb dX9_readRow_193 (by decide) ?_
    have hK := leafK hB hK
    have hK : (v_t_needTold, q11_1, q11_2, q11_3, q11_4, q11_5, g_t_opinions, g_t_lines, g_t_draftBook, upd g_t_scribes (1 : Int32).toNatClampNeg ((g_t_scribes (1 : Int32).toNatClampNeg) + (1 : Int32)), upd g_t_turn ((6 : Int32) + (g_t_scribes (1 : Int32).toNatClampNeg)).toNatClampNeg q9_0, upd g_t_bent ((6 : Int32) + (g_t_scribes (1 : Int32).toNatClampNeg)).toNatClampNeg q11_0, g_t_need) = R0 := hK
    subst hK
    exact W.vret hx hb hr (fun t ht hW => ⟨⟨(), rfl, trivial, by rw [ht]; exact hP, hD⟩, hS.F ht⟩) hS.2.2 dX9_readRow_213
  have hB := ifN c_14_2 hB
  refine lv_lookup (off := 195) (tgt := 196) hx hb dX9_readRow_1 (by decide) ((lv_osw c_14_0 rfl).trans ((lv_osw c_14_1 rfl).trans ((lv_osw c_14_2 rfl).trans (rfl)))) (by decide) ?_
  refine lv_aload_n hx hb dX9_readRow_196 rfl (lv_at hl 0 rfl) ?_
  refine va_get (D := G) (ci := 9) (v := .ref a_t_need) (C := RX9) (T := TX9) (N := 26) hx hb hg inX9 hown hKT hP 0 rfl rfl 9 (by decide) (hg _ gF_X9_32) (fun _ h9 => h9) rfl dX9_readRow_197 ?_
  refine lv_iconst (v := 1) hx hb dX9_readRow_200 (by decide) ?_
  refine lv_aload_n hx hb dX9_readRow_201 rfl (lv_at hl 0 rfl) ?_
  refine lv_iconst (v := 1) hx hb dX9_readRow_202 (by decide) ?_
  refine lv_iconst (v := 4) hx hb dX9_readRow_203 (by decide) ?_
  obtain ⟨⟨q13_0, q13_1, q13_2, q13_3, q13_4, q13_5⟩, hq13, hB⟩ := bnd hB
  refine kw_i (WC := wd_X9_number cs a_t a_t_text a_t_opinions a_t_lines a_t_draftBook a_t_scribes a_t_turn a_t_bent a_t_need a_t_now a_t_isKept a_t_far a_t_marginOf a_t_marginSays v_t_trace v_t_typed v_t_needTold v_t_at v_t_start v_t_sort v_t_value v_t_fault v_t_target v_t_went v_t_ender v_t_had v_t_margins g_t_text) (W1 := wd_X9_number cs a_t a_t_text a_t_opinions a_t_lines a_t_draftBook a_t_scribes a_t_turn a_t_bent a_t_need a_t_now a_t_isKept a_t_far a_t_marginOf a_t_marginSays v_t_trace v_t_typed v_t_needTold q13_1 q13_2 q13_3 q13_4 q13_5 v_t_target v_t_went v_t_ender v_t_had v_t_margins g_t_text) (W2 := wd_X9_readRow cs a_t a_t_text a_t_opinions a_t_lines a_t_draftBook a_t_scribes a_t_turn a_t_bent a_t_need a_t_now a_t_isKept a_t_far a_t_marginOf a_t_marginSays v_t_trace v_t_typed v_t_needTold q13_1 q13_2 q13_3 q13_4 q13_5 v_t_target v_t_went v_t_ender v_t_had v_t_margins g_t_text g_t_opinions g_t_lines g_t_draftBook g_t_scribes g_t_turn g_t_bent g_t_need) (r0 := q13_0) (rw_V (As := [.int (1 : Int32), .int (4 : Int32)]) (rest := [.int (1 : Int32), .ref a_t_need]) ⟨hx, hb, hml, hown, hg⟩ (k_X9_number l G cs a_t a_t_text a_t_opinions a_t_lines a_t_draftBook a_t_scribes a_t_turn a_t_bent a_t_need a_t_now a_t_isKept a_t_far a_t_marginOf a_t_marginSays v_t_trace v_t_typed v_t_needTold v_t_at v_t_start v_t_sort v_t_value v_t_fault v_t_target v_t_went v_t_ender v_t_had v_t_margins g_t_text (1 : Int32) (4 : Int32) H.size (q13_0, q13_1, q13_2, q13_3, q13_4, q13_5) hq13) gM_X9_95 mI_X9_number (rmk rfl) hP hD hKT hN 0 rfl rfl [0, 1] rfl rfl rfl hl.1 rfl (Nat.le_of_ble_eq_true rfl) dX9_readRow_204) hP hD hS hA [0, 1] [2, 3, 4, 5, 6, 7, 8] [7, 8, 0, 1, 2, 3, 4, 5, 6] ⟨rfl, rfl, rfl, rfl, rfl, rfl, rfl⟩ (fun H locs hP hD hS => ?_)
  refine va_iast hx hb hKT hP hD hS 8 0 rfl rfl (vinC (by decide)) dX9_readRow_207 (fun H locs hP hD hS => ?_)
  have hP : va_P G vwCl (wd_X9_readRow cs a_t a_t_text a_t_opinions a_t_lines a_t_draftBook a_t_scribes a_t_turn a_t_bent a_t_need a_t_now a_t_isKept a_t_far a_t_marginOf a_t_marginSays v_t_trace v_t_typed v_t_needTold q13_1 q13_2 q13_3 q13_4 q13_5 v_t_target v_t_went v_t_ender v_t_had v_t_margins g_t_text g_t_opinions g_t_lines g_t_draftBook g_t_scribes g_t_turn g_t_bent (upd g_t_need (1 : Int32).toNatClampNeg q13_0)) H := hP
  have hD : va_D A (wd_X9_readRow cs a_t a_t_text a_t_opinions a_t_lines a_t_draftBook a_t_scribes a_t_turn a_t_bent a_t_need a_t_now a_t_isKept a_t_far a_t_marginOf a_t_marginSays v_t_trace v_t_typed v_t_needTold q13_1 q13_2 q13_3 q13_4 q13_5 v_t_target v_t_went v_t_ender v_t_had v_t_margins g_t_text g_t_opinions g_t_lines g_t_draftBook g_t_scribes g_t_turn g_t_bent (upd g_t_need (1 : Int32).toNatClampNeg q13_0)) := hD
  refine lv_aload_n hx hb dX9_readRow_208 rfl (lv_at hl 0 rfl) ?_
  refine lv_iconst (v := 1) hx hb dX9_readRow_209 (by decide) ?_
  refine va_put (D := G) (ci := 9) (v := .int (1 : Int32)) (ty := .boolean) (C := RX9) (T := TX9) (N := 26) hx hb hg inX9 tyX9 tyX9_ok nmX9 hown hKT hP hD hS 0 rfl rfl 10 (by decide) (hg _ gF_X9_91) (fun _ h9 => h9) rfl (by decide +kernel) rfl rfl (Nat.le_of_ble_eq_true rfl) dX9_readRow_210 (fun H locs hP hD hS => ?_)
  have hP : va_P G vwCl (wd_X9_readRow cs a_t a_t_text a_t_opinions a_t_lines a_t_draftBook a_t_scribes a_t_turn a_t_bent a_t_need a_t_now a_t_isKept a_t_far a_t_marginOf a_t_marginSays v_t_trace v_t_typed (1 : Int32) q13_1 q13_2 q13_3 q13_4 q13_5 v_t_target v_t_went v_t_ender v_t_had v_t_margins g_t_text g_t_opinions g_t_lines g_t_draftBook g_t_scribes g_t_turn g_t_bent (upd g_t_need (1 : Int32).toNatClampNeg q13_0)) H := hP
  have hD : va_D A (wd_X9_readRow cs a_t a_t_text a_t_opinions a_t_lines a_t_draftBook a_t_scribes a_t_turn a_t_bent a_t_need a_t_now a_t_isKept a_t_far a_t_marginOf a_t_marginSays v_t_trace v_t_typed (1 : Int32) q13_1 q13_2 q13_3 q13_4 q13_5 v_t_target v_t_went v_t_ender v_t_had v_t_margins g_t_text g_t_opinions g_t_lines g_t_draftBook g_t_scribes g_t_turn g_t_bent (upd g_t_need (1 : Int32).toNatClampNeg q13_0)) := hD
  have hK := leafK hB hK
  have hK : ((1 : Int32), q13_1, q13_2, q13_3, q13_4, q13_5, g_t_opinions, g_t_lines, g_t_draftBook, g_t_scribes, g_t_turn, g_t_bent, upd g_t_need (1 : Int32).toNatClampNeg q13_0) = R0 := hK
  subst hK
  exact W.vret hx hb hr (fun t ht hW => ⟨⟨(), rfl, trivial, by rw [ht]; exact hP, hD⟩, hS.F ht⟩) hS.2.2 dX9_readRow_213
def wd_X9_plain (cs : Nat → ClassId) (a_t a_t_text a_t_opinions a_t_lines a_t_draftBook a_t_scribes a_t_turn a_t_bent a_t_need a_t_now a_t_isKept a_t_far a_t_marginOf a_t_marginSays : Nat) (v_t_trace : Int64) (v_t_typed : Int32) (v_t_needTold : Int32) (v_t_at : Int32) (v_t_start : Int32) (v_t_sort : Int32) (v_t_value : Int32) (v_t_fault : Int32) (v_t_target : Int32) (v_t_went : Int32) (v_t_ender : Int32) (v_t_had : Int32) (v_t_margins : Int32) (g_t_opinions : Nat → Int32) (g_t_lines : Nat → Int32) (g_t_scribes : Nat → Int32) (g_t_need : Nat → Int32) : va_W := [(a_t, .inr (9, [.long v_t_trace, .ref a_t_text, .int v_t_typed, .ref a_t_opinions, .ref a_t_lines, .ref a_t_draftBook, .ref a_t_scribes, .ref a_t_turn, .ref a_t_bent, .ref a_t_need, .int v_t_needTold, .int v_t_at, .int v_t_start, .int v_t_sort, .int v_t_value, .int v_t_fault, .ref a_t_now, .ref a_t_isKept, .int v_t_target, .int v_t_went, .int v_t_ender, .int v_t_had, .ref a_t_far, .ref a_t_marginOf, .ref a_t_marginSays, .int v_t_margins])), (a_t_opinions, .inl (cs 0, 2, .inl g_t_opinions)), (a_t_lines, .inl (cs 0, 2, .inl g_t_lines)), (a_t_scribes, .inl (cs 0, 2, .inl g_t_scribes)), (a_t_need, .inl (cs 0, 2, .inl g_t_need))]
def rm_X9_plain : Room := { frames := 0, cells := 0, slots := 0, locals := 0 }
theorem mI_X9_plain : MI yX9_plain RX9 cX9_plain 1 none 0 := ⟨gI_X9_plain, gE_X9_plain, gN_X9, gC_X9_plain, by decide +kernel⟩
set_option maxHeartbeats 4000000 in
set_option maxRecDepth 100000 in
theorem k_X9_plain (l : Launch) (G : va_G) (cs : Nat → ClassId) (a_t a_t_text a_t_opinions a_t_lines a_t_draftBook a_t_scribes a_t_turn a_t_bent a_t_need a_t_now a_t_isKept a_t_far a_t_marginOf a_t_marginSays : Nat) (v_t_trace : Int64) (v_t_typed : Int32) (v_t_needTold : Int32) (v_t_at : Int32) (v_t_start : Int32) (v_t_sort : Int32) (v_t_value : Int32) (v_t_fault : Int32) (v_t_target : Int32) (v_t_went : Int32) (v_t_ender : Int32) (v_t_had : Int32) (v_t_margins : Int32) (g_t_opinions : Nat → Int32) (g_t_lines : Nat → Int32) (g_t_scribes : Nat → Int32) (g_t_need : Nat → Int32) (sz : Nat) (R0 : Int32 × (Nat → Int32) × (Nat → Int32) × (Nat → Int32) × (Nat → Int32)) (hB : f_X9_plain g_t_opinions g_t_lines g_t_scribes g_t_need = some R0) : Met l yX9_plain (.code yX9_plain cX9_plain 1 none :: GW) rm_X9_plain (PcW G cs [.ref a_t] (wd_X9_plain cs a_t a_t_text a_t_opinions a_t_lines a_t_draftBook a_t_scribes a_t_turn a_t_bent a_t_need a_t_now a_t_isKept a_t_far a_t_marginOf a_t_marginSays v_t_trace v_t_typed v_t_needTold v_t_at v_t_start v_t_sort v_t_value v_t_fault v_t_target v_t_went v_t_ender v_t_had v_t_margins g_t_opinions g_t_lines g_t_scribes g_t_need) sz) (QcV G (va_A (wd_X9_plain cs a_t a_t_text a_t_opinions a_t_lines a_t_draftBook a_t_scribes a_t_turn a_t_bent a_t_need a_t_now a_t_isKept a_t_far a_t_marginOf a_t_marginSays v_t_trace v_t_typed v_t_needTold v_t_at v_t_start v_t_sort v_t_value v_t_fault v_t_target v_t_went v_t_ender v_t_had v_t_margins g_t_opinions g_t_lines g_t_scribes g_t_need) sz) (wd_X9_plain cs a_t a_t_text a_t_opinions a_t_lines a_t_draftBook a_t_scribes a_t_turn a_t_bent a_t_need a_t_now a_t_isKept a_t_far a_t_marginOf a_t_marginSays v_t_trace v_t_typed R0.1 v_t_at v_t_start v_t_sort v_t_value v_t_fault v_t_target v_t_went v_t_ender v_t_had v_t_margins R0.2.1 R0.2.2.1 R0.2.2.2.1 R0.2.2.2.2)) 0 0 (va_A (wd_X9_plain cs a_t a_t_text a_t_opinions a_t_lines a_t_draftBook a_t_scribes a_t_turn a_t_bent a_t_need a_t_now a_t_isKept a_t_far a_t_marginOf a_t_marginSays v_t_trace v_t_typed v_t_needTold v_t_at v_t_start v_t_sort v_t_value v_t_fault v_t_target v_t_went v_t_ender v_t_had v_t_margins g_t_opinions g_t_lines g_t_scribes g_t_need) sz) := by
  refine Met.ofW (cc := cX9_plain) (maxL := 1) (ret := none) (by decide) rfl ?_
  intro p e s m args below meth c s₁ B hml hv
  obtain ⟨rfl, hsz, hP, hD0, hK, hN⟩ := hv
  have hx := B.exec
  have hb := B.bytes
  have hr := B.returns
  have hts := atoms_spec (ws := .code yX9_plain cX9_plain 1 none :: GW) B.pre
  have hg : ∀ w ∈ GW, w.before _ s = true := fun w h => hts w (List.mem_cons_of_mem _ h)
  have hown : s.vm.findClass RX9 = some m.cls := findClass_of_methodNamed B.named
  have hlocks := B.notSynchronized
  subst hsz
  have hD := hD0.self (sz := s.heap.size)
  generalize hAe : va_A (wd_X9_plain cs a_t a_t_text a_t_opinions a_t_lines a_t_draftBook a_t_scribes a_t_turn a_t_bent a_t_need a_t_now a_t_isKept a_t_far a_t_marginOf a_t_marginSays v_t_trace v_t_typed v_t_needTold v_t_at v_t_start v_t_sort v_t_value v_t_fault v_t_target v_t_went v_t_ender v_t_had v_t_margins g_t_opinions g_t_lines g_t_scribes g_t_need) s.heap.size = A at hD ⊢
  have hA : ∀ q : Nat, s.heap.size ≤ q → A q := fun q h => by rw [← hAe]; exact Or.inr h
  have hS : va_S A s.heap s.heap [] := va_S.rf
  have hl := lv_entry ([.ref a_t]) (n := 1) (Nat.le_of_ble_eq_true rfl)
  rw [lg_entry_eq]
  generalize (lg_sl ([.ref a_t]) ++ List.replicate (1 - (lg_sl ([.ref a_t])).length) Slot.unset).toArray = ls at hl ⊢
  have hl : lv_has ls 1 [(0, .ref a_t)] := hl
  obtain ⟨y, hB, hK0⟩ : ∃ y, f_X9_plain g_t_opinions g_t_lines g_t_scribes g_t_need = some y ∧ KEnd R0 y := ⟨R0, hB, rfl⟩
  have hKT := hK
  have hK := hK0
  obtain ⟨H, hHe⟩ : ∃ H, H = s.heap := ⟨_, rfl⟩
  obtain ⟨locs, hLe⟩ : ∃ L : List Loc, L = [] := ⟨_, rfl⟩
  rw [← hHe] at hP
  have hS : va_S A s.heap H locs := by rw [hHe, hLe]; exact hS
  show W p l e rm_X9_plain s m ([.ref a_t] : List Value).toArray below meth c s.heap [] 0 0 _ _
  suffices hgo : W p l e rm_X9_plain s m ([.ref a_t] : List Value).toArray below meth c H locs 0 0 (MQ below (QcV G A (wd_X9_plain cs a_t a_t_text a_t_opinions a_t_lines a_t_draftBook a_t_scribes a_t_turn a_t_bent a_t_need a_t_now a_t_isKept a_t_far a_t_marginOf a_t_marginSays v_t_trace v_t_typed R0.1 v_t_at v_t_start v_t_sort v_t_value v_t_fault v_t_target v_t_went v_t_ender v_t_had v_t_margins R0.2.1 R0.2.2.1 R0.2.2.2.1 R0.2.2.2.2)) ([.ref a_t] : List Value).toArray s 0 0 A) (F0 m 0 ls []) by rw [hHe, hLe] at hgo; exact hgo
  refine lv_aload_n hx hb dX9_plain_0 rfl (lv_at hl 0 rfl) ?_
  refine va_get (D := G) (ci := 9) (v := .ref a_t_opinions) (C := RX9) (T := TX9) (N := 26) hx hb hg inX9 hown hKT hP 0 rfl rfl 3 (by decide) (hg _ gF_X9_13) (fun _ h9 => h9) rfl dX9_plain_1 ?_
  refine lv_iconst (v := 1) hx hb dX9_plain_4 (by decide) ?_
  refine lv_iconst (v := 5) hx hb dX9_plain_5 (by decide) ?_
  refine va_iast hx hb hKT hP hD hS 1 0 rfl rfl (vinC (by decide)) dX9_plain_6 (fun H locs hP hD hS => ?_)
  have hP : va_P G vwCl (wd_X9_plain cs a_t a_t_text a_t_opinions a_t_lines a_t_draftBook a_t_scribes a_t_turn a_t_bent a_t_need a_t_now a_t_isKept a_t_far a_t_marginOf a_t_marginSays v_t_trace v_t_typed v_t_needTold v_t_at v_t_start v_t_sort v_t_value v_t_fault v_t_target v_t_went v_t_ender v_t_had v_t_margins (upd g_t_opinions (1 : Int32).toNatClampNeg (5 : Int32)) g_t_lines g_t_scribes g_t_need) H := hP
  have hD : va_D A (wd_X9_plain cs a_t a_t_text a_t_opinions a_t_lines a_t_draftBook a_t_scribes a_t_turn a_t_bent a_t_need a_t_now a_t_isKept a_t_far a_t_marginOf a_t_marginSays v_t_trace v_t_typed v_t_needTold v_t_at v_t_start v_t_sort v_t_value v_t_fault v_t_target v_t_went v_t_ender v_t_had v_t_margins (upd g_t_opinions (1 : Int32).toNatClampNeg (5 : Int32)) g_t_lines g_t_scribes g_t_need) := hD
  refine lv_aload_n hx hb dX9_plain_7 rfl (lv_at hl 0 rfl) ?_
  refine va_get (D := G) (ci := 9) (v := .ref a_t_lines) (C := RX9) (T := TX9) (N := 26) hx hb hg inX9 hown hKT hP 0 rfl rfl 4 (by decide) (hg _ gF_X9_17) (fun _ h9 => h9) rfl dX9_plain_8 ?_
  refine lv_iconst (v := 1) hx hb dX9_plain_11 (by decide) ?_
  refine lv_iconst (v := 0) hx hb dX9_plain_12 (by decide) ?_
  refine va_iast hx hb hKT hP hD hS 2 0 rfl rfl (vinC (by decide)) dX9_plain_13 (fun H locs hP hD hS => ?_)
  have hP : va_P G vwCl (wd_X9_plain cs a_t a_t_text a_t_opinions a_t_lines a_t_draftBook a_t_scribes a_t_turn a_t_bent a_t_need a_t_now a_t_isKept a_t_far a_t_marginOf a_t_marginSays v_t_trace v_t_typed v_t_needTold v_t_at v_t_start v_t_sort v_t_value v_t_fault v_t_target v_t_went v_t_ender v_t_had v_t_margins (upd g_t_opinions (1 : Int32).toNatClampNeg (5 : Int32)) (upd g_t_lines (1 : Int32).toNatClampNeg (0 : Int32)) g_t_scribes g_t_need) H := hP
  have hD : va_D A (wd_X9_plain cs a_t a_t_text a_t_opinions a_t_lines a_t_draftBook a_t_scribes a_t_turn a_t_bent a_t_need a_t_now a_t_isKept a_t_far a_t_marginOf a_t_marginSays v_t_trace v_t_typed v_t_needTold v_t_at v_t_start v_t_sort v_t_value v_t_fault v_t_target v_t_went v_t_ender v_t_had v_t_margins (upd g_t_opinions (1 : Int32).toNatClampNeg (5 : Int32)) (upd g_t_lines (1 : Int32).toNatClampNeg (0 : Int32)) g_t_scribes g_t_need) := hD
  refine lv_aload_n hx hb dX9_plain_14 rfl (lv_at hl 0 rfl) ?_
  refine va_get (D := G) (ci := 9) (v := .ref a_t_scribes) (C := RX9) (T := TX9) (N := 26) hx hb hg inX9 hown hKT hP 0 rfl rfl 6 (by decide) (hg _ gF_X9_23) (fun _ h9 => h9) rfl dX9_plain_15 ?_
  refine lv_iconst (v := 1) hx hb dX9_plain_18 (by decide) ?_
  refine lv_iconst (v := 0) hx hb dX9_plain_19 (by decide) ?_
  refine va_iast hx hb hKT hP hD hS 3 0 rfl rfl (vinC (by decide)) dX9_plain_20 (fun H locs hP hD hS => ?_)
  have hP : va_P G vwCl (wd_X9_plain cs a_t a_t_text a_t_opinions a_t_lines a_t_draftBook a_t_scribes a_t_turn a_t_bent a_t_need a_t_now a_t_isKept a_t_far a_t_marginOf a_t_marginSays v_t_trace v_t_typed v_t_needTold v_t_at v_t_start v_t_sort v_t_value v_t_fault v_t_target v_t_went v_t_ender v_t_had v_t_margins (upd g_t_opinions (1 : Int32).toNatClampNeg (5 : Int32)) (upd g_t_lines (1 : Int32).toNatClampNeg (0 : Int32)) (upd g_t_scribes (1 : Int32).toNatClampNeg (0 : Int32)) g_t_need) H := hP
  have hD : va_D A (wd_X9_plain cs a_t a_t_text a_t_opinions a_t_lines a_t_draftBook a_t_scribes a_t_turn a_t_bent a_t_need a_t_now a_t_isKept a_t_far a_t_marginOf a_t_marginSays v_t_trace v_t_typed v_t_needTold v_t_at v_t_start v_t_sort v_t_value v_t_fault v_t_target v_t_went v_t_ender v_t_had v_t_margins (upd g_t_opinions (1 : Int32).toNatClampNeg (5 : Int32)) (upd g_t_lines (1 : Int32).toNatClampNeg (0 : Int32)) (upd g_t_scribes (1 : Int32).toNatClampNeg (0 : Int32)) g_t_need) := hD
  refine lv_aload_n hx hb dX9_plain_21 rfl (lv_at hl 0 rfl) ?_
  refine va_get (D := G) (ci := 9) (v := .ref a_t_need) (C := RX9) (T := TX9) (N := 26) hx hb hg inX9 hown hKT hP 0 rfl rfl 9 (by decide) (hg _ gF_X9_32) (fun _ h9 => h9) rfl dX9_plain_22 ?_
  refine lv_iconst (v := 1) hx hb dX9_plain_25 (by decide) ?_
  refine lv_iconst (v := 1) hx hb dX9_plain_26 (by decide) ?_
  refine va_iast hx hb hKT hP hD hS 4 0 rfl rfl (vinC (by decide)) dX9_plain_27 (fun H locs hP hD hS => ?_)
  have hP : va_P G vwCl (wd_X9_plain cs a_t a_t_text a_t_opinions a_t_lines a_t_draftBook a_t_scribes a_t_turn a_t_bent a_t_need a_t_now a_t_isKept a_t_far a_t_marginOf a_t_marginSays v_t_trace v_t_typed v_t_needTold v_t_at v_t_start v_t_sort v_t_value v_t_fault v_t_target v_t_went v_t_ender v_t_had v_t_margins (upd g_t_opinions (1 : Int32).toNatClampNeg (5 : Int32)) (upd g_t_lines (1 : Int32).toNatClampNeg (0 : Int32)) (upd g_t_scribes (1 : Int32).toNatClampNeg (0 : Int32)) (upd g_t_need (1 : Int32).toNatClampNeg (1 : Int32))) H := hP
  have hD : va_D A (wd_X9_plain cs a_t a_t_text a_t_opinions a_t_lines a_t_draftBook a_t_scribes a_t_turn a_t_bent a_t_need a_t_now a_t_isKept a_t_far a_t_marginOf a_t_marginSays v_t_trace v_t_typed v_t_needTold v_t_at v_t_start v_t_sort v_t_value v_t_fault v_t_target v_t_went v_t_ender v_t_had v_t_margins (upd g_t_opinions (1 : Int32).toNatClampNeg (5 : Int32)) (upd g_t_lines (1 : Int32).toNatClampNeg (0 : Int32)) (upd g_t_scribes (1 : Int32).toNatClampNeg (0 : Int32)) (upd g_t_need (1 : Int32).toNatClampNeg (1 : Int32))) := hD
  refine lv_aload_n hx hb dX9_plain_28 rfl (lv_at hl 0 rfl) ?_
  refine lv_iconst (v := 0) hx hb dX9_plain_29 (by decide) ?_
  refine va_put (D := G) (ci := 9) (v := .int (0 : Int32)) (ty := .boolean) (C := RX9) (T := TX9) (N := 26) hx hb hg inX9 tyX9 tyX9_ok nmX9 hown hKT hP hD hS 0 rfl rfl 10 (by decide) (hg _ gF_X9_91) (fun _ h9 => h9) rfl (by decide +kernel) rfl rfl (Nat.le_of_ble_eq_true rfl) dX9_plain_30 (fun H locs hP hD hS => ?_)
  have hP : va_P G vwCl (wd_X9_plain cs a_t a_t_text a_t_opinions a_t_lines a_t_draftBook a_t_scribes a_t_turn a_t_bent a_t_need a_t_now a_t_isKept a_t_far a_t_marginOf a_t_marginSays v_t_trace v_t_typed (0 : Int32) v_t_at v_t_start v_t_sort v_t_value v_t_fault v_t_target v_t_went v_t_ender v_t_had v_t_margins (upd g_t_opinions (1 : Int32).toNatClampNeg (5 : Int32)) (upd g_t_lines (1 : Int32).toNatClampNeg (0 : Int32)) (upd g_t_scribes (1 : Int32).toNatClampNeg (0 : Int32)) (upd g_t_need (1 : Int32).toNatClampNeg (1 : Int32))) H := hP
  have hD : va_D A (wd_X9_plain cs a_t a_t_text a_t_opinions a_t_lines a_t_draftBook a_t_scribes a_t_turn a_t_bent a_t_need a_t_now a_t_isKept a_t_far a_t_marginOf a_t_marginSays v_t_trace v_t_typed (0 : Int32) v_t_at v_t_start v_t_sort v_t_value v_t_fault v_t_target v_t_went v_t_ender v_t_had v_t_margins (upd g_t_opinions (1 : Int32).toNatClampNeg (5 : Int32)) (upd g_t_lines (1 : Int32).toNatClampNeg (0 : Int32)) (upd g_t_scribes (1 : Int32).toNatClampNeg (0 : Int32)) (upd g_t_need (1 : Int32).toNatClampNeg (1 : Int32))) := hD
  have hK := leafK hB hK
  have hK : ((0 : Int32), upd g_t_opinions (1 : Int32).toNatClampNeg (5 : Int32), upd g_t_lines (1 : Int32).toNatClampNeg (0 : Int32), upd g_t_scribes (1 : Int32).toNatClampNeg (0 : Int32), upd g_t_need (1 : Int32).toNatClampNeg (1 : Int32)) = R0 := hK
  subst hK
  exact W.vret hx hb hr (fun t ht hW => ⟨⟨(), rfl, trivial, by rw [ht]; exact hP, hD⟩, hS.F ht⟩) hS.2.2 dX9_plain_33
def wd_X9_takeDraft (cs : Nat → ClassId) (a_t a_t_text a_t_opinions a_t_lines a_t_draftBook a_t_scribes a_t_turn a_t_bent a_t_need a_t_now a_t_isKept a_t_far a_t_marginOf a_t_marginSays : Nat) (v_t_trace : Int64) (v_t_typed : Int32) (v_t_needTold : Int32) (v_t_at : Int32) (v_t_start : Int32) (v_t_sort : Int32) (v_t_value : Int32) (v_t_fault : Int32) (v_t_target : Int32) (v_t_went : Int32) (v_t_ender : Int32) (v_t_had : Int32) (v_t_margins : Int32) (g_t_opinions : Nat → Int32) (g_t_lines : Nat → Int32) (g_t_draftBook : Nat → Int32) (g_t_scribes : Nat → Int32) (g_t_turn : Nat → Int32) (g_t_bent : Nat → Int32) (g_t_need : Nat → Int32) (g_t_now : Nat → Int32) (g_t_isKept : Nat → Int32) : va_W := [(a_t, .inr (9, [.long v_t_trace, .ref a_t_text, .int v_t_typed, .ref a_t_opinions, .ref a_t_lines, .ref a_t_draftBook, .ref a_t_scribes, .ref a_t_turn, .ref a_t_bent, .ref a_t_need, .int v_t_needTold, .int v_t_at, .int v_t_start, .int v_t_sort, .int v_t_value, .int v_t_fault, .ref a_t_now, .ref a_t_isKept, .int v_t_target, .int v_t_went, .int v_t_ender, .int v_t_had, .ref a_t_far, .ref a_t_marginOf, .ref a_t_marginSays, .int v_t_margins])), (a_t_opinions, .inl (cs 0, 2, .inl g_t_opinions)), (a_t_lines, .inl (cs 0, 2, .inl g_t_lines)), (a_t_draftBook, .inl (cs 0, 4, .inl g_t_draftBook)), (a_t_scribes, .inl (cs 0, 2, .inl g_t_scribes)), (a_t_turn, .inl (cs 0, 12, .inl g_t_turn)), (a_t_bent, .inl (cs 0, 12, .inl g_t_bent)), (a_t_need, .inl (cs 0, 2, .inl g_t_need)), (a_t_now, .inl (cs 0, 300, .inl g_t_now)), (a_t_isKept, .inl (cs 2, 2, .inl g_t_isKept))]
def rm_X9_takeDraft : Room := { frames := 0, cells := 0, slots := 0, locals := 0 }
theorem mI_X9_takeDraft : MI yX9_takeDraft RX9 cX9_takeDraft 2 none 0 := ⟨gI_X9_takeDraft, gE_X9_takeDraft, gN_X9, gC_X9_takeDraft, by decide +kernel⟩
set_option maxHeartbeats 4000000 in
set_option maxRecDepth 100000 in
theorem k_X9_takeDraft (l : Launch) (G : va_G) (cs : Nat → ClassId) (a_t a_t_text a_t_opinions a_t_lines a_t_draftBook a_t_scribes a_t_turn a_t_bent a_t_need a_t_now a_t_isKept a_t_far a_t_marginOf a_t_marginSays : Nat) (v_t_trace : Int64) (v_t_typed : Int32) (v_t_needTold : Int32) (v_t_at : Int32) (v_t_start : Int32) (v_t_sort : Int32) (v_t_value : Int32) (v_t_fault : Int32) (v_t_target : Int32) (v_t_went : Int32) (v_t_ender : Int32) (v_t_had : Int32) (v_t_margins : Int32) (g_t_opinions : Nat → Int32) (g_t_lines : Nat → Int32) (g_t_draftBook : Nat → Int32) (g_t_scribes : Nat → Int32) (g_t_turn : Nat → Int32) (g_t_bent : Nat → Int32) (g_t_need : Nat → Int32) (g_t_now : Nat → Int32) (g_t_isKept : Nat → Int32) (sz : Nat) (R0 : Int32 × Int32 × (Nat → Int32) × (Nat → Int32) × (Nat → Int32) × (Nat → Int32) × (Nat → Int32) × (Nat → Int32) × (Nat → Int32) × (Nat → Int32)) (hB : f_X9_takeDraft g_t_opinions g_t_lines g_t_draftBook g_t_scribes g_t_turn g_t_bent g_t_need g_t_now g_t_isKept = some R0) : Met l yX9_takeDraft (.code yX9_takeDraft cX9_takeDraft 2 none :: GW) rm_X9_takeDraft (PcW G cs [.ref a_t] (wd_X9_takeDraft cs a_t a_t_text a_t_opinions a_t_lines a_t_draftBook a_t_scribes a_t_turn a_t_bent a_t_need a_t_now a_t_isKept a_t_far a_t_marginOf a_t_marginSays v_t_trace v_t_typed v_t_needTold v_t_at v_t_start v_t_sort v_t_value v_t_fault v_t_target v_t_went v_t_ender v_t_had v_t_margins g_t_opinions g_t_lines g_t_draftBook g_t_scribes g_t_turn g_t_bent g_t_need g_t_now g_t_isKept) sz) (QcV G (va_A (wd_X9_takeDraft cs a_t a_t_text a_t_opinions a_t_lines a_t_draftBook a_t_scribes a_t_turn a_t_bent a_t_need a_t_now a_t_isKept a_t_far a_t_marginOf a_t_marginSays v_t_trace v_t_typed v_t_needTold v_t_at v_t_start v_t_sort v_t_value v_t_fault v_t_target v_t_went v_t_ender v_t_had v_t_margins g_t_opinions g_t_lines g_t_draftBook g_t_scribes g_t_turn g_t_bent g_t_need g_t_now g_t_isKept) sz) (wd_X9_takeDraft cs a_t a_t_text a_t_opinions a_t_lines a_t_draftBook a_t_scribes a_t_turn a_t_bent a_t_need a_t_now a_t_isKept a_t_far a_t_marginOf a_t_marginSays v_t_trace v_t_typed v_t_needTold v_t_at v_t_start v_t_sort v_t_value v_t_fault R0.1 v_t_went v_t_ender v_t_had R0.2.1 R0.2.2.1 R0.2.2.2.1 g_t_draftBook R0.2.2.2.2.1 R0.2.2.2.2.2.1 R0.2.2.2.2.2.2.1 R0.2.2.2.2.2.2.2.1 R0.2.2.2.2.2.2.2.2.1 R0.2.2.2.2.2.2.2.2.2)) 0 0 (va_A (wd_X9_takeDraft cs a_t a_t_text a_t_opinions a_t_lines a_t_draftBook a_t_scribes a_t_turn a_t_bent a_t_need a_t_now a_t_isKept a_t_far a_t_marginOf a_t_marginSays v_t_trace v_t_typed v_t_needTold v_t_at v_t_start v_t_sort v_t_value v_t_fault v_t_target v_t_went v_t_ender v_t_had v_t_margins g_t_opinions g_t_lines g_t_draftBook g_t_scribes g_t_turn g_t_bent g_t_need g_t_now g_t_isKept) sz) := by
  refine Met.ofW (cc := cX9_takeDraft) (maxL := 2) (ret := none) (by decide) rfl ?_
  intro p e s m args below meth c s₁ B hml hv
  obtain ⟨rfl, hsz, hP, hD0, hK, hN⟩ := hv
  have hx := B.exec
  have hb := B.bytes
  have hr := B.returns
  have hts := atoms_spec (ws := .code yX9_takeDraft cX9_takeDraft 2 none :: GW) B.pre
  have hg : ∀ w ∈ GW, w.before _ s = true := fun w h => hts w (List.mem_cons_of_mem _ h)
  have hown : s.vm.findClass RX9 = some m.cls := findClass_of_methodNamed B.named
  have hlocks := B.notSynchronized
  subst hsz
  have hD := hD0.self (sz := s.heap.size)
  generalize hAe : va_A (wd_X9_takeDraft cs a_t a_t_text a_t_opinions a_t_lines a_t_draftBook a_t_scribes a_t_turn a_t_bent a_t_need a_t_now a_t_isKept a_t_far a_t_marginOf a_t_marginSays v_t_trace v_t_typed v_t_needTold v_t_at v_t_start v_t_sort v_t_value v_t_fault v_t_target v_t_went v_t_ender v_t_had v_t_margins g_t_opinions g_t_lines g_t_draftBook g_t_scribes g_t_turn g_t_bent g_t_need g_t_now g_t_isKept) s.heap.size = A at hD ⊢
  have hA : ∀ q : Nat, s.heap.size ≤ q → A q := fun q h => by rw [← hAe]; exact Or.inr h
  have hS : va_S A s.heap s.heap [] := va_S.rf
  have hl := lv_entry ([.ref a_t]) (n := 2) (Nat.le_of_ble_eq_true rfl)
  rw [lg_entry_eq]
  generalize (lg_sl ([.ref a_t]) ++ List.replicate (2 - (lg_sl ([.ref a_t])).length) Slot.unset).toArray = ls at hl ⊢
  have hl : lv_has ls 2 [(0, .ref a_t)] := hl
  obtain ⟨y, hB, hK0⟩ : ∃ y, f_X9_takeDraft g_t_opinions g_t_lines g_t_draftBook g_t_scribes g_t_turn g_t_bent g_t_need g_t_now g_t_isKept = some y ∧ KEnd R0 y := ⟨R0, hB, rfl⟩
  have hKT := hK
  have hK := hK0
  obtain ⟨H, hHe⟩ : ∃ H, H = s.heap := ⟨_, rfl⟩
  obtain ⟨locs, hLe⟩ : ∃ L : List Loc, L = [] := ⟨_, rfl⟩
  rw [← hHe] at hP
  have hS : va_S A s.heap H locs := by rw [hHe, hLe]; exact hS
  show W p l e rm_X9_takeDraft s m ([.ref a_t] : List Value).toArray below meth c s.heap [] 0 0 _ _
  suffices hgo : W p l e rm_X9_takeDraft s m ([.ref a_t] : List Value).toArray below meth c H locs 0 0 (MQ below (QcV G A (wd_X9_takeDraft cs a_t a_t_text a_t_opinions a_t_lines a_t_draftBook a_t_scribes a_t_turn a_t_bent a_t_need a_t_now a_t_isKept a_t_far a_t_marginOf a_t_marginSays v_t_trace v_t_typed v_t_needTold v_t_at v_t_start v_t_sort v_t_value v_t_fault R0.1 v_t_went v_t_ender v_t_had R0.2.1 R0.2.2.1 R0.2.2.2.1 g_t_draftBook R0.2.2.2.2.1 R0.2.2.2.2.2.1 R0.2.2.2.2.2.2.1 R0.2.2.2.2.2.2.2.1 R0.2.2.2.2.2.2.2.2.1 R0.2.2.2.2.2.2.2.2.2)) ([.ref a_t] : List Value).toArray s 0 0 A) (F0 m 0 ls []) by rw [hHe, hLe] at hgo; exact hgo
  refine lv_aload_n hx hb dX9_takeDraft_0 rfl (lv_at hl 0 rfl) ?_
  refine va_get (D := G) (ci := 9) (v := .ref a_t_opinions) (C := RX9) (T := TX9) (N := 26) hx hb hg inX9 hown hKT hP 0 rfl rfl 3 (by decide) (hg _ gF_X9_13) (fun _ h9 => h9) rfl dX9_takeDraft_1 ?_
  refine lv_iconst (v := 0) hx hb dX9_takeDraft_4 (by decide) ?_
  refine lv_aload_n hx hb dX9_takeDraft_5 rfl (lv_at hl 0 rfl) ?_
  refine va_get (D := G) (ci := 9) (v := .ref a_t_opinions) (C := RX9) (T := TX9) (N := 26) hx hb hg inX9 hown hKT hP 0 rfl rfl 3 (by decide) (hg _ gF_X9_13) (fun _ h9 => h9) rfl dX9_takeDraft_6 ?_
  refine lv_iconst (v := 1) hx hb dX9_takeDraft_9 (by decide) ?_
  refine va_iald hx hb hKT hP 1 0 rfl rfl (vinC (by decide)) dX9_takeDraft_10 ?_
  refine va_iast hx hb hKT hP hD hS 1 0 rfl rfl (vinC (by decide)) dX9_takeDraft_11 (fun H locs hP hD hS => ?_)
  have hP : va_P G vwCl (wd_X9_takeDraft cs a_t a_t_text a_t_opinions a_t_lines a_t_draftBook a_t_scribes a_t_turn a_t_bent a_t_need a_t_now a_t_isKept a_t_far a_t_marginOf a_t_marginSays v_t_trace v_t_typed v_t_needTold v_t_at v_t_start v_t_sort v_t_value v_t_fault v_t_target v_t_went v_t_ender v_t_had v_t_margins (upd g_t_opinions (0 : Int32).toNatClampNeg (g_t_opinions (1 : Int32).toNatClampNeg)) g_t_lines g_t_draftBook g_t_scribes g_t_turn g_t_bent g_t_need g_t_now g_t_isKept) H := hP
  have hD : va_D A (wd_X9_takeDraft cs a_t a_t_text a_t_opinions a_t_lines a_t_draftBook a_t_scribes a_t_turn a_t_bent a_t_need a_t_now a_t_isKept a_t_far a_t_marginOf a_t_marginSays v_t_trace v_t_typed v_t_needTold v_t_at v_t_start v_t_sort v_t_value v_t_fault v_t_target v_t_went v_t_ender v_t_had v_t_margins (upd g_t_opinions (0 : Int32).toNatClampNeg (g_t_opinions (1 : Int32).toNatClampNeg)) g_t_lines g_t_draftBook g_t_scribes g_t_turn g_t_bent g_t_need g_t_now g_t_isKept) := hD
  refine lv_aload_n hx hb dX9_takeDraft_12 rfl (lv_at hl 0 rfl) ?_
  refine va_get (D := G) (ci := 9) (v := .ref a_t_lines) (C := RX9) (T := TX9) (N := 26) hx hb hg inX9 hown hKT hP 0 rfl rfl 4 (by decide) (hg _ gF_X9_17) (fun _ h9 => h9) rfl dX9_takeDraft_13 ?_
  refine lv_iconst (v := 0) hx hb dX9_takeDraft_16 (by decide) ?_
  refine lv_aload_n hx hb dX9_takeDraft_17 rfl (lv_at hl 0 rfl) ?_
  refine va_get (D := G) (ci := 9) (v := .ref a_t_lines) (C := RX9) (T := TX9) (N := 26) hx hb hg inX9 hown hKT hP 0 rfl rfl 4 (by decide) (hg _ gF_X9_17) (fun _ h9 => h9) rfl dX9_takeDraft_18 ?_
  refine lv_iconst (v := 1) hx hb dX9_takeDraft_21 (by decide) ?_
  refine va_iald hx hb hKT hP 2 0 rfl rfl (vinC (by decide)) dX9_takeDraft_22 ?_
  refine va_iast hx hb hKT hP hD hS 2 0 rfl rfl (vinC (by decide)) dX9_takeDraft_23 (fun H locs hP hD hS => ?_)
  have hP : va_P G vwCl (wd_X9_takeDraft cs a_t a_t_text a_t_opinions a_t_lines a_t_draftBook a_t_scribes a_t_turn a_t_bent a_t_need a_t_now a_t_isKept a_t_far a_t_marginOf a_t_marginSays v_t_trace v_t_typed v_t_needTold v_t_at v_t_start v_t_sort v_t_value v_t_fault v_t_target v_t_went v_t_ender v_t_had v_t_margins (upd g_t_opinions (0 : Int32).toNatClampNeg (g_t_opinions (1 : Int32).toNatClampNeg)) (upd g_t_lines (0 : Int32).toNatClampNeg (g_t_lines (1 : Int32).toNatClampNeg)) g_t_draftBook g_t_scribes g_t_turn g_t_bent g_t_need g_t_now g_t_isKept) H := hP
  have hD : va_D A (wd_X9_takeDraft cs a_t a_t_text a_t_opinions a_t_lines a_t_draftBook a_t_scribes a_t_turn a_t_bent a_t_need a_t_now a_t_isKept a_t_far a_t_marginOf a_t_marginSays v_t_trace v_t_typed v_t_needTold v_t_at v_t_start v_t_sort v_t_value v_t_fault v_t_target v_t_went v_t_ender v_t_had v_t_margins (upd g_t_opinions (0 : Int32).toNatClampNeg (g_t_opinions (1 : Int32).toNatClampNeg)) (upd g_t_lines (0 : Int32).toNatClampNeg (g_t_lines (1 : Int32).toNatClampNeg)) g_t_draftBook g_t_scribes g_t_turn g_t_bent g_t_need g_t_now g_t_isKept) := hD
  refine lv_aload_n hx hb dX9_takeDraft_24 rfl (lv_at hl 0 rfl) ?_
  refine va_get (D := G) (ci := 9) (v := .ref a_t_scribes) (C := RX9) (T := TX9) (N := 26) hx hb hg inX9 hown hKT hP 0 rfl rfl 6 (by decide) (hg _ gF_X9_23) (fun _ h9 => h9) rfl dX9_takeDraft_25 ?_
  refine lv_iconst (v := 0) hx hb dX9_takeDraft_28 (by decide) ?_
  refine lv_aload_n hx hb dX9_takeDraft_29 rfl (lv_at hl 0 rfl) ?_
  refine va_get (D := G) (ci := 9) (v := .ref a_t_scribes) (C := RX9) (T := TX9) (N := 26) hx hb hg inX9 hown hKT hP 0 rfl rfl 6 (by decide) (hg _ gF_X9_23) (fun _ h9 => h9) rfl dX9_takeDraft_30 ?_
  refine lv_iconst (v := 1) hx hb dX9_takeDraft_33 (by decide) ?_
  refine va_iald hx hb hKT hP 4 0 rfl rfl (vinC (by decide)) dX9_takeDraft_34 ?_
  refine va_iast hx hb hKT hP hD hS 4 0 rfl rfl (vinC (by decide)) dX9_takeDraft_35 (fun H locs hP hD hS => ?_)
  have hP : va_P G vwCl (wd_X9_takeDraft cs a_t a_t_text a_t_opinions a_t_lines a_t_draftBook a_t_scribes a_t_turn a_t_bent a_t_need a_t_now a_t_isKept a_t_far a_t_marginOf a_t_marginSays v_t_trace v_t_typed v_t_needTold v_t_at v_t_start v_t_sort v_t_value v_t_fault v_t_target v_t_went v_t_ender v_t_had v_t_margins (upd g_t_opinions (0 : Int32).toNatClampNeg (g_t_opinions (1 : Int32).toNatClampNeg)) (upd g_t_lines (0 : Int32).toNatClampNeg (g_t_lines (1 : Int32).toNatClampNeg)) g_t_draftBook (upd g_t_scribes (0 : Int32).toNatClampNeg (g_t_scribes (1 : Int32).toNatClampNeg)) g_t_turn g_t_bent g_t_need g_t_now g_t_isKept) H := hP
  have hD : va_D A (wd_X9_takeDraft cs a_t a_t_text a_t_opinions a_t_lines a_t_draftBook a_t_scribes a_t_turn a_t_bent a_t_need a_t_now a_t_isKept a_t_far a_t_marginOf a_t_marginSays v_t_trace v_t_typed v_t_needTold v_t_at v_t_start v_t_sort v_t_value v_t_fault v_t_target v_t_went v_t_ender v_t_had v_t_margins (upd g_t_opinions (0 : Int32).toNatClampNeg (g_t_opinions (1 : Int32).toNatClampNeg)) (upd g_t_lines (0 : Int32).toNatClampNeg (g_t_lines (1 : Int32).toNatClampNeg)) g_t_draftBook (upd g_t_scribes (0 : Int32).toNatClampNeg (g_t_scribes (1 : Int32).toNatClampNeg)) g_t_turn g_t_bent g_t_need g_t_now g_t_isKept) := hD
  refine lv_aload_n hx hb dX9_takeDraft_36 rfl (lv_at hl 0 rfl) ?_
  refine va_get (D := G) (ci := 9) (v := .ref a_t_need) (C := RX9) (T := TX9) (N := 26) hx hb hg inX9 hown hKT hP 0 rfl rfl 9 (by decide) (hg _ gF_X9_32) (fun _ h9 => h9) rfl dX9_takeDraft_37 ?_
  refine lv_iconst (v := 0) hx hb dX9_takeDraft_40 (by decide) ?_
  refine lv_aload_n hx hb dX9_takeDraft_41 rfl (lv_at hl 0 rfl) ?_
  refine va_get (D := G) (ci := 9) (v := .ref a_t_need) (C := RX9) (T := TX9) (N := 26) hx hb hg inX9 hown hKT hP 0 rfl rfl 9 (by decide) (hg _ gF_X9_32) (fun _ h9 => h9) rfl dX9_takeDraft_42 ?_
  refine lv_iconst (v := 1) hx hb dX9_takeDraft_45 (by decide) ?_
  refine va_iald hx hb hKT hP 7 0 rfl rfl (vinC (by decide)) dX9_takeDraft_46 ?_
  refine va_iast hx hb hKT hP hD hS 7 0 rfl rfl (vinC (by decide)) dX9_takeDraft_47 (fun H locs hP hD hS => ?_)
  have hP : va_P G vwCl (wd_X9_takeDraft cs a_t a_t_text a_t_opinions a_t_lines a_t_draftBook a_t_scribes a_t_turn a_t_bent a_t_need a_t_now a_t_isKept a_t_far a_t_marginOf a_t_marginSays v_t_trace v_t_typed v_t_needTold v_t_at v_t_start v_t_sort v_t_value v_t_fault v_t_target v_t_went v_t_ender v_t_had v_t_margins (upd g_t_opinions (0 : Int32).toNatClampNeg (g_t_opinions (1 : Int32).toNatClampNeg)) (upd g_t_lines (0 : Int32).toNatClampNeg (g_t_lines (1 : Int32).toNatClampNeg)) g_t_draftBook (upd g_t_scribes (0 : Int32).toNatClampNeg (g_t_scribes (1 : Int32).toNatClampNeg)) g_t_turn g_t_bent (upd g_t_need (0 : Int32).toNatClampNeg (g_t_need (1 : Int32).toNatClampNeg)) g_t_now g_t_isKept) H := hP
  have hD : va_D A (wd_X9_takeDraft cs a_t a_t_text a_t_opinions a_t_lines a_t_draftBook a_t_scribes a_t_turn a_t_bent a_t_need a_t_now a_t_isKept a_t_far a_t_marginOf a_t_marginSays v_t_trace v_t_typed v_t_needTold v_t_at v_t_start v_t_sort v_t_value v_t_fault v_t_target v_t_went v_t_ender v_t_had v_t_margins (upd g_t_opinions (0 : Int32).toNatClampNeg (g_t_opinions (1 : Int32).toNatClampNeg)) (upd g_t_lines (0 : Int32).toNatClampNeg (g_t_lines (1 : Int32).toNatClampNeg)) g_t_draftBook (upd g_t_scribes (0 : Int32).toNatClampNeg (g_t_scribes (1 : Int32).toNatClampNeg)) g_t_turn g_t_bent (upd g_t_need (0 : Int32).toNatClampNeg (g_t_need (1 : Int32).toNatClampNeg)) g_t_now g_t_isKept) := hD
  refine lv_iconst (v := 0) hx hb dX9_takeDraft_48 (by decide) ?_
  refine lv_istore_n (lv' := [(1, .int (0 : Int32)), (0, .ref a_t)]) hx hb dX9_takeDraft_49 rfl hl (by decide) rfl (fun ls hl => ?_)
  refine lp_ind (Wh := fun (z1 : Int32 × (Nat → Int32) × (Nat → Int32)) => ∀ (H : Heap) (locs : List Loc), va_P G vwCl (wd_X9_takeDraft cs a_t a_t_text a_t_opinions a_t_lines a_t_draftBook a_t_scribes a_t_turn a_t_bent a_t_need a_t_now a_t_isKept a_t_far a_t_marginOf a_t_marginSays v_t_trace v_t_typed v_t_needTold v_t_at v_t_start v_t_sort v_t_value v_t_fault v_t_target v_t_went v_t_ender v_t_had v_t_margins (upd g_t_opinions (0 : Int32).toNatClampNeg (g_t_opinions (1 : Int32).toNatClampNeg)) (upd g_t_lines (0 : Int32).toNatClampNeg (g_t_lines (1 : Int32).toNatClampNeg)) g_t_draftBook (upd g_t_scribes (0 : Int32).toNatClampNeg (g_t_scribes (1 : Int32).toNatClampNeg)) z1.2.1 z1.2.2 (upd g_t_need (0 : Int32).toNatClampNeg (g_t_need (1 : Int32).toNatClampNeg)) g_t_now g_t_isKept) H → va_D A (wd_X9_takeDraft cs a_t a_t_text a_t_opinions a_t_lines a_t_draftBook a_t_scribes a_t_turn a_t_bent a_t_need a_t_now a_t_isKept a_t_far a_t_marginOf a_t_marginSays v_t_trace v_t_typed v_t_needTold v_t_at v_t_start v_t_sort v_t_value v_t_fault v_t_target v_t_went v_t_ender v_t_had v_t_margins (upd g_t_opinions (0 : Int32).toNatClampNeg (g_t_opinions (1 : Int32).toNatClampNeg)) (upd g_t_lines (0 : Int32).toNatClampNeg (g_t_lines (1 : Int32).toNatClampNeg)) g_t_draftBook (upd g_t_scribes (0 : Int32).toNatClampNeg (g_t_scribes (1 : Int32).toNatClampNeg)) z1.2.1 z1.2.2 (upd g_t_need (0 : Int32).toNatClampNeg (g_t_need (1 : Int32).toNatClampNeg)) g_t_now g_t_isKept) → va_S A s.heap H locs → ∀ (ls : Array Slot), lv_has ls 2 [(0, .ref a_t), (1, .int z1.1)] → W p l e rm_X9_takeDraft s m ([.ref a_t] : List Value).toArray below meth c H locs 0 0 (MQ below (QcV G A (wd_X9_takeDraft cs a_t a_t_text a_t_opinions a_t_lines a_t_draftBook a_t_scribes a_t_turn a_t_bent a_t_need a_t_now a_t_isKept a_t_far a_t_marginOf a_t_marginSays v_t_trace v_t_typed v_t_needTold v_t_at v_t_start v_t_sort v_t_value v_t_fault R0.1 v_t_went v_t_ender v_t_had R0.2.1 R0.2.2.1 R0.2.2.2.1 g_t_draftBook R0.2.2.2.2.1 R0.2.2.2.2.2.1 R0.2.2.2.2.2.2.1 R0.2.2.2.2.2.2.2.1 R0.2.2.2.2.2.2.2.2.1 R0.2.2.2.2.2.2.2.2.2)) ([.ref a_t] : List Value).toArray s 0 0 A) (F0 m 50 ls [])) ?_ FU _ _ hB hK H locs hP hD hS ls (lv_sub hl [1, 0] rfl)
  rintro ⟨z1_0, z1_1, z1_2⟩ y hB hK H locs hP hD hS ls hl
  have hl : lv_has ls 2 [(0, .ref a_t), (1, .int z1_0)] := hl
  have hP : va_P G vwCl (wd_X9_takeDraft cs a_t a_t_text a_t_opinions a_t_lines a_t_draftBook a_t_scribes a_t_turn a_t_bent a_t_need a_t_now a_t_isKept a_t_far a_t_marginOf a_t_marginSays v_t_trace v_t_typed v_t_needTold v_t_at v_t_start v_t_sort v_t_value v_t_fault v_t_target v_t_went v_t_ender v_t_had v_t_margins (upd g_t_opinions (0 : Int32).toNatClampNeg (g_t_opinions (1 : Int32).toNatClampNeg)) (upd g_t_lines (0 : Int32).toNatClampNeg (g_t_lines (1 : Int32).toNatClampNeg)) g_t_draftBook (upd g_t_scribes (0 : Int32).toNatClampNeg (g_t_scribes (1 : Int32).toNatClampNeg)) z1_1 z1_2 (upd g_t_need (0 : Int32).toNatClampNeg (g_t_need (1 : Int32).toNatClampNeg)) g_t_now g_t_isKept) H := hP
  have hD : va_D A (wd_X9_takeDraft cs a_t a_t_text a_t_opinions a_t_lines a_t_draftBook a_t_scribes a_t_turn a_t_bent a_t_need a_t_now a_t_isKept a_t_far a_t_marginOf a_t_marginSays v_t_trace v_t_typed v_t_needTold v_t_at v_t_start v_t_sort v_t_value v_t_fault v_t_target v_t_went v_t_ender v_t_had v_t_margins (upd g_t_opinions (0 : Int32).toNatClampNeg (g_t_opinions (1 : Int32).toNatClampNeg)) (upd g_t_lines (0 : Int32).toNatClampNeg (g_t_lines (1 : Int32).toNatClampNeg)) g_t_draftBook (upd g_t_scribes (0 : Int32).toNatClampNeg (g_t_scribes (1 : Int32).toNatClampNeg)) z1_1 z1_2 (upd g_t_need (0 : Int32).toNatClampNeg (g_t_need (1 : Int32).toNatClampNeg)) g_t_now g_t_isKept) := hD
  refine lv_iload_n hx hb dX9_takeDraft_50 rfl (lv_at hl 1 rfl) ?_
  refine lv_bipush (v := 6) hx hb dX9_takeDraft_51 (by decide) ?_
  refine lv_icmp_ge (tgt := 92) hx hb dX9_takeDraft_53 (by decide) (fun c_2 => ?_) (fun c_2 => ?_)
  · have hB := ifP c_2 hB
    refine lv_iconst (v := 0) hx hb dX9_takeDraft_92 (by decide) ?_
    refine lv_istore_n (lv' := [(1, .int (0 : Int32)), (0, .ref a_t)]) hx hb dX9_takeDraft_93 rfl hl (by decide) rfl (fun ls hl => ?_)
    obtain ⟨y3, hB, hy3⟩ := bnd hB
    have hK := leafK hy3 hK
    have hK := elimR hK
    refine lp_ind (Wh := fun (z4 : Int32 × (Nat → Int32)) => ∀ (H : Heap) (locs : List Loc), va_P G vwCl (wd_X9_takeDraft cs a_t a_t_text a_t_opinions a_t_lines a_t_draftBook a_t_scribes a_t_turn a_t_bent a_t_need a_t_now a_t_isKept a_t_far a_t_marginOf a_t_marginSays v_t_trace v_t_typed v_t_needTold v_t_at v_t_start v_t_sort v_t_value v_t_fault v_t_target v_t_went v_t_ender v_t_had v_t_margins (upd g_t_opinions (0 : Int32).toNatClampNeg (g_t_opinions (1 : Int32).toNatClampNeg)) (upd g_t_lines (0 : Int32).toNatClampNeg (g_t_lines (1 : Int32).toNatClampNeg)) g_t_draftBook (upd g_t_scribes (0 : Int32).toNatClampNeg (g_t_scribes (1 : Int32).toNatClampNeg)) z1_1 z1_2 (upd g_t_need (0 : Int32).toNatClampNeg (g_t_need (1 : Int32).toNatClampNeg)) z4.2 g_t_isKept) H → va_D A (wd_X9_takeDraft cs a_t a_t_text a_t_opinions a_t_lines a_t_draftBook a_t_scribes a_t_turn a_t_bent a_t_need a_t_now a_t_isKept a_t_far a_t_marginOf a_t_marginSays v_t_trace v_t_typed v_t_needTold v_t_at v_t_start v_t_sort v_t_value v_t_fault v_t_target v_t_went v_t_ender v_t_had v_t_margins (upd g_t_opinions (0 : Int32).toNatClampNeg (g_t_opinions (1 : Int32).toNatClampNeg)) (upd g_t_lines (0 : Int32).toNatClampNeg (g_t_lines (1 : Int32).toNatClampNeg)) g_t_draftBook (upd g_t_scribes (0 : Int32).toNatClampNeg (g_t_scribes (1 : Int32).toNatClampNeg)) z1_1 z1_2 (upd g_t_need (0 : Int32).toNatClampNeg (g_t_need (1 : Int32).toNatClampNeg)) z4.2 g_t_isKept) → va_S A s.heap H locs → ∀ (ls : Array Slot), lv_has ls 2 [(0, .ref a_t), (1, .int z4.1)] → W p l e rm_X9_takeDraft s m ([.ref a_t] : List Value).toArray below meth c H locs 0 0 (MQ below (QcV G A (wd_X9_takeDraft cs a_t a_t_text a_t_opinions a_t_lines a_t_draftBook a_t_scribes a_t_turn a_t_bent a_t_need a_t_now a_t_isKept a_t_far a_t_marginOf a_t_marginSays v_t_trace v_t_typed v_t_needTold v_t_at v_t_start v_t_sort v_t_value v_t_fault R0.1 v_t_went v_t_ender v_t_had R0.2.1 R0.2.2.1 R0.2.2.2.1 g_t_draftBook R0.2.2.2.2.1 R0.2.2.2.2.2.1 R0.2.2.2.2.2.2.1 R0.2.2.2.2.2.2.2.1 R0.2.2.2.2.2.2.2.2.1 R0.2.2.2.2.2.2.2.2.2)) ([.ref a_t] : List Value).toArray s 0 0 A) (F0 m 94 ls [])) ?_ FU _ _ hB hK H locs hP hD hS ls (lv_sub hl [1, 0] rfl)
    rintro ⟨z4_0, z4_1⟩ y hB hK H locs hP hD hS ls hl
    have hl : lv_has ls 2 [(0, .ref a_t), (1, .int z4_0)] := hl
    have hP : va_P G vwCl (wd_X9_takeDraft cs a_t a_t_text a_t_opinions a_t_lines a_t_draftBook a_t_scribes a_t_turn a_t_bent a_t_need a_t_now a_t_isKept a_t_far a_t_marginOf a_t_marginSays v_t_trace v_t_typed v_t_needTold v_t_at v_t_start v_t_sort v_t_value v_t_fault v_t_target v_t_went v_t_ender v_t_had v_t_margins (upd g_t_opinions (0 : Int32).toNatClampNeg (g_t_opinions (1 : Int32).toNatClampNeg)) (upd g_t_lines (0 : Int32).toNatClampNeg (g_t_lines (1 : Int32).toNatClampNeg)) g_t_draftBook (upd g_t_scribes (0 : Int32).toNatClampNeg (g_t_scribes (1 : Int32).toNatClampNeg)) z1_1 z1_2 (upd g_t_need (0 : Int32).toNatClampNeg (g_t_need (1 : Int32).toNatClampNeg)) z4_1 g_t_isKept) H := hP
    have hD : va_D A (wd_X9_takeDraft cs a_t a_t_text a_t_opinions a_t_lines a_t_draftBook a_t_scribes a_t_turn a_t_bent a_t_need a_t_now a_t_isKept a_t_far a_t_marginOf a_t_marginSays v_t_trace v_t_typed v_t_needTold v_t_at v_t_start v_t_sort v_t_value v_t_fault v_t_target v_t_went v_t_ender v_t_had v_t_margins (upd g_t_opinions (0 : Int32).toNatClampNeg (g_t_opinions (1 : Int32).toNatClampNeg)) (upd g_t_lines (0 : Int32).toNatClampNeg (g_t_lines (1 : Int32).toNatClampNeg)) g_t_draftBook (upd g_t_scribes (0 : Int32).toNatClampNeg (g_t_scribes (1 : Int32).toNatClampNeg)) z1_1 z1_2 (upd g_t_need (0 : Int32).toNatClampNeg (g_t_need (1 : Int32).toNatClampNeg)) z4_1 g_t_isKept) := hD
    refine lv_iload_n hx hb dX9_takeDraft_94 rfl (lv_at hl 1 rfl) ?_
    refine lv_bipush (v := 9) hx hb dX9_takeDraft_95 (by decide) ?_
    refine lv_icmp_ge (tgt := 113) hx hb dX9_takeDraft_97 (by decide) (fun c_5 => ?_) (fun c_5 => ?_)
    · have hB := ifP c_5 hB
      refine lv_iconst (v := 0) hx hb dX9_takeDraft_113 (by decide) ?_
      refine lv_istore_n (lv' := [(1, .int (0 : Int32)), (0, .ref a_t)]) hx hb dX9_takeDraft_114 rfl hl (by decide) rfl (fun ls hl => ?_)
      obtain ⟨y6, hB, hy6⟩ := bnd hB
      have hK := leafK hy6 hK
      have hK := elimR hK
      refine lp_ind (Wh := fun (z7 : Int32 × (Nat → Int32)) => ∀ (H : Heap) (locs : List Loc), va_P G vwCl (wd_X9_takeDraft cs a_t a_t_text a_t_opinions a_t_lines a_t_draftBook a_t_scribes a_t_turn a_t_bent a_t_need a_t_now a_t_isKept a_t_far a_t_marginOf a_t_marginSays v_t_trace v_t_typed v_t_needTold v_t_at v_t_start v_t_sort v_t_value v_t_fault v_t_target v_t_went v_t_ender v_t_had v_t_margins (upd g_t_opinions (0 : Int32).toNatClampNeg (g_t_opinions (1 : Int32).toNatClampNeg)) (upd g_t_lines (0 : Int32).toNatClampNeg (g_t_lines (1 : Int32).toNatClampNeg)) g_t_draftBook (upd g_t_scribes (0 : Int32).toNatClampNeg (g_t_scribes (1 : Int32).toNatClampNeg)) z1_1 z1_2 (upd g_t_need (0 : Int32).toNatClampNeg (g_t_need (1 : Int32).toNatClampNeg)) z7.2 g_t_isKept) H → va_D A (wd_X9_takeDraft cs a_t a_t_text a_t_opinions a_t_lines a_t_draftBook a_t_scribes a_t_turn a_t_bent a_t_need a_t_now a_t_isKept a_t_far a_t_marginOf a_t_marginSays v_t_trace v_t_typed v_t_needTold v_t_at v_t_start v_t_sort v_t_value v_t_fault v_t_target v_t_went v_t_ender v_t_had v_t_margins (upd g_t_opinions (0 : Int32).toNatClampNeg (g_t_opinions (1 : Int32).toNatClampNeg)) (upd g_t_lines (0 : Int32).toNatClampNeg (g_t_lines (1 : Int32).toNatClampNeg)) g_t_draftBook (upd g_t_scribes (0 : Int32).toNatClampNeg (g_t_scribes (1 : Int32).toNatClampNeg)) z1_1 z1_2 (upd g_t_need (0 : Int32).toNatClampNeg (g_t_need (1 : Int32).toNatClampNeg)) z7.2 g_t_isKept) → va_S A s.heap H locs → ∀ (ls : Array Slot), lv_has ls 2 [(0, .ref a_t), (1, .int z7.1)] → W p l e rm_X9_takeDraft s m ([.ref a_t] : List Value).toArray below meth c H locs 0 0 (MQ below (QcV G A (wd_X9_takeDraft cs a_t a_t_text a_t_opinions a_t_lines a_t_draftBook a_t_scribes a_t_turn a_t_bent a_t_need a_t_now a_t_isKept a_t_far a_t_marginOf a_t_marginSays v_t_trace v_t_typed v_t_needTold v_t_at v_t_start v_t_sort v_t_value v_t_fault R0.1 v_t_went v_t_ender v_t_had R0.2.1 R0.2.2.1 R0.2.2.2.1 g_t_draftBook R0.2.2.2.2.1 R0.2.2.2.2.2.1 R0.2.2.2.2.2.2.1 R0.2.2.2.2.2.2.2.1 R0.2.2.2.2.2.2.2.2.1 R0.2.2.2.2.2.2.2.2.2)) ([.ref a_t] : List Value).toArray s 0 0 A) (F0 m 115 ls [])) ?_ FU _ _ hB hK H locs hP hD hS ls (lv_sub hl [1, 0] rfl)
      rintro ⟨z7_0, z7_1⟩ y hB hK H locs hP hD hS ls hl
      have hl : lv_has ls 2 [(0, .ref a_t), (1, .int z7_0)] := hl
      have hP : va_P G vwCl (wd_X9_takeDraft cs a_t a_t_text a_t_opinions a_t_lines a_t_draftBook a_t_scribes a_t_turn a_t_bent a_t_need a_t_now a_t_isKept a_t_far a_t_marginOf a_t_marginSays v_t_trace v_t_typed v_t_needTold v_t_at v_t_start v_t_sort v_t_value v_t_fault v_t_target v_t_went v_t_ender v_t_had v_t_margins (upd g_t_opinions (0 : Int32).toNatClampNeg (g_t_opinions (1 : Int32).toNatClampNeg)) (upd g_t_lines (0 : Int32).toNatClampNeg (g_t_lines (1 : Int32).toNatClampNeg)) g_t_draftBook (upd g_t_scribes (0 : Int32).toNatClampNeg (g_t_scribes (1 : Int32).toNatClampNeg)) z1_1 z1_2 (upd g_t_need (0 : Int32).toNatClampNeg (g_t_need (1 : Int32).toNatClampNeg)) z7_1 g_t_isKept) H := hP
      have hD : va_D A (wd_X9_takeDraft cs a_t a_t_text a_t_opinions a_t_lines a_t_draftBook a_t_scribes a_t_turn a_t_bent a_t_need a_t_now a_t_isKept a_t_far a_t_marginOf a_t_marginSays v_t_trace v_t_typed v_t_needTold v_t_at v_t_start v_t_sort v_t_value v_t_fault v_t_target v_t_went v_t_ender v_t_had v_t_margins (upd g_t_opinions (0 : Int32).toNatClampNeg (g_t_opinions (1 : Int32).toNatClampNeg)) (upd g_t_lines (0 : Int32).toNatClampNeg (g_t_lines (1 : Int32).toNatClampNeg)) g_t_draftBook (upd g_t_scribes (0 : Int32).toNatClampNeg (g_t_scribes (1 : Int32).toNatClampNeg)) z1_1 z1_2 (upd g_t_need (0 : Int32).toNatClampNeg (g_t_need (1 : Int32).toNatClampNeg)) z7_1 g_t_isKept) := hD
      refine lv_iload_n hx hb dX9_takeDraft_115 rfl (lv_at hl 1 rfl) ?_
      refine lv_aload_n hx hb dX9_takeDraft_116 rfl (lv_at hl 0 rfl) ?_
      refine va_get (D := G) (ci := 9) (v := .ref a_t_lines) (C := RX9) (T := TX9) (N := 26) hx hb hg inX9 hown hKT hP 0 rfl rfl 4 (by decide) (hg _ gF_X9_17) (fun _ h9 => h9) rfl dX9_takeDraft_117 ?_
      refine lv_iconst (v := 0) hx hb dX9_takeDraft_120 (by decide) ?_
      refine va_iald hx hb hKT hP 2 0 rfl rfl (vinC (by decide)) dX9_takeDraft_121 ?_
      refine lv_icmp_ge (tgt := 157) hx hb dX9_takeDraft_122 (by decide) (fun c_8 => ?_) (fun c_8 => ?_)
      · have hB := ifP c_8 hB
        refine lv_aload_n hx hb dX9_takeDraft_157 rfl (lv_at hl 0 rfl) ?_
        refine lv_aload_n hx hb dX9_takeDraft_158 rfl (lv_at hl 0 rfl) ?_
        refine va_get (D := G) (ci := 9) (v := .ref a_t_now) (C := RX9) (T := TX9) (N := 26) hx hb hg inX9 hown hKT hP 0 rfl rfl 16 (by decide) (hg _ gF_X9_35) (fun _ h9 => h9) rfl dX9_takeDraft_159 ?_
        refine lv_iconst (v := 0) hx hb dX9_takeDraft_162 (by decide) ?_
        refine va_iald hx hb hKT hP 8 0 rfl rfl (vinC (by decide)) dX9_takeDraft_163 ?_
        refine va_put (D := G) (ci := 9) (v := .int (z7_1 (0 : Int32).toNatClampNeg)) (ty := .int) (C := RX9) (T := TX9) (N := 26) hx hb hg inX9 tyX9 tyX9_ok nmX9 hown hKT hP hD hS 0 rfl rfl 18 (by decide) (hg _ gF_X9_99) (fun _ h9 => h9) rfl (by decide +kernel) rfl rfl (Nat.le_of_ble_eq_true rfl) dX9_takeDraft_164 (fun H locs hP hD hS => ?_)
        have hP : va_P G vwCl (wd_X9_takeDraft cs a_t a_t_text a_t_opinions a_t_lines a_t_draftBook a_t_scribes a_t_turn a_t_bent a_t_need a_t_now a_t_isKept a_t_far a_t_marginOf a_t_marginSays v_t_trace v_t_typed v_t_needTold v_t_at v_t_start v_t_sort v_t_value v_t_fault (z7_1 (0 : Int32).toNatClampNeg) v_t_went v_t_ender v_t_had v_t_margins (upd g_t_opinions (0 : Int32).toNatClampNeg (g_t_opinions (1 : Int32).toNatClampNeg)) (upd g_t_lines (0 : Int32).toNatClampNeg (g_t_lines (1 : Int32).toNatClampNeg)) g_t_draftBook (upd g_t_scribes (0 : Int32).toNatClampNeg (g_t_scribes (1 : Int32).toNatClampNeg)) z1_1 z1_2 (upd g_t_need (0 : Int32).toNatClampNeg (g_t_need (1 : Int32).toNatClampNeg)) z7_1 g_t_isKept) H := hP
        have hD : va_D A (wd_X9_takeDraft cs a_t a_t_text a_t_opinions a_t_lines a_t_draftBook a_t_scribes a_t_turn a_t_bent a_t_need a_t_now a_t_isKept a_t_far a_t_marginOf a_t_marginSays v_t_trace v_t_typed v_t_needTold v_t_at v_t_start v_t_sort v_t_value v_t_fault (z7_1 (0 : Int32).toNatClampNeg) v_t_went v_t_ender v_t_had v_t_margins (upd g_t_opinions (0 : Int32).toNatClampNeg (g_t_opinions (1 : Int32).toNatClampNeg)) (upd g_t_lines (0 : Int32).toNatClampNeg (g_t_lines (1 : Int32).toNatClampNeg)) g_t_draftBook (upd g_t_scribes (0 : Int32).toNatClampNeg (g_t_scribes (1 : Int32).toNatClampNeg)) z1_1 z1_2 (upd g_t_need (0 : Int32).toNatClampNeg (g_t_need (1 : Int32).toNatClampNeg)) z7_1 g_t_isKept) := hD
        refine lv_aload_n hx hb dX9_takeDraft_167 rfl (lv_at hl 0 rfl) ?_
        refine va_get (D := G) (ci := 9) (v := .ref a_t_now) (C := RX9) (T := TX9) (N := 26) hx hb hg inX9 hown hKT hP 0 rfl rfl 16 (by decide) (hg _ gF_X9_35) (fun _ h9 => h9) rfl dX9_takeDraft_168 ?_
        refine lv_bipush (v := 9) hx hb dX9_takeDraft_171 (by decide) ?_
        refine lv_iconst (v := 0) hx hb dX9_takeDraft_173 (by decide) ?_
        refine va_iast hx hb hKT hP hD hS 8 0 rfl rfl (vinC (by decide)) dX9_takeDraft_174 (fun H locs hP hD hS => ?_)
        have hP : va_P G vwCl (wd_X9_takeDraft cs a_t a_t_text a_t_opinions a_t_lines a_t_draftBook a_t_scribes a_t_turn a_t_bent a_t_need a_t_now a_t_isKept a_t_far a_t_marginOf a_t_marginSays v_t_trace v_t_typed v_t_needTold v_t_at v_t_start v_t_sort v_t_value v_t_fault (z7_1 (0 : Int32).toNatClampNeg) v_t_went v_t_ender v_t_had v_t_margins (upd g_t_opinions (0 : Int32).toNatClampNeg (g_t_opinions (1 : Int32).toNatClampNeg)) (upd g_t_lines (0 : Int32).toNatClampNeg (g_t_lines (1 : Int32).toNatClampNeg)) g_t_draftBook (upd g_t_scribes (0 : Int32).toNatClampNeg (g_t_scribes (1 : Int32).toNatClampNeg)) z1_1 z1_2 (upd g_t_need (0 : Int32).toNatClampNeg (g_t_need (1 : Int32).toNatClampNeg)) (upd z7_1 (9 : Int32).toNatClampNeg (0 : Int32)) g_t_isKept) H := hP
        have hD : va_D A (wd_X9_takeDraft cs a_t a_t_text a_t_opinions a_t_lines a_t_draftBook a_t_scribes a_t_turn a_t_bent a_t_need a_t_now a_t_isKept a_t_far a_t_marginOf a_t_marginSays v_t_trace v_t_typed v_t_needTold v_t_at v_t_start v_t_sort v_t_value v_t_fault (z7_1 (0 : Int32).toNatClampNeg) v_t_went v_t_ender v_t_had v_t_margins (upd g_t_opinions (0 : Int32).toNatClampNeg (g_t_opinions (1 : Int32).toNatClampNeg)) (upd g_t_lines (0 : Int32).toNatClampNeg (g_t_lines (1 : Int32).toNatClampNeg)) g_t_draftBook (upd g_t_scribes (0 : Int32).toNatClampNeg (g_t_scribes (1 : Int32).toNatClampNeg)) z1_1 z1_2 (upd g_t_need (0 : Int32).toNatClampNeg (g_t_need (1 : Int32).toNatClampNeg)) (upd z7_1 (9 : Int32).toNatClampNeg (0 : Int32)) g_t_isKept) := hD
        refine lv_aload_n hx hb dX9_takeDraft_175 rfl (lv_at hl 0 rfl) ?_
        refine lv_iconst (v := 0) hx hb dX9_takeDraft_176 (by decide) ?_
        refine va_put (D := G) (ci := 9) (v := .int (0 : Int32)) (ty := .int) (C := RX9) (T := TX9) (N := 26) hx hb hg inX9 tyX9 tyX9_ok nmX9 hown hKT hP hD hS 0 rfl rfl 25 (by decide) (hg _ gF_X9_102) (fun _ h9 => h9) rfl (by decide +kernel) rfl rfl (Nat.le_of_ble_eq_true rfl) dX9_takeDraft_177 (fun H locs hP hD hS => ?_)
        have hP : va_P G vwCl (wd_X9_takeDraft cs a_t a_t_text a_t_opinions a_t_lines a_t_draftBook a_t_scribes a_t_turn a_t_bent a_t_need a_t_now a_t_isKept a_t_far a_t_marginOf a_t_marginSays v_t_trace v_t_typed v_t_needTold v_t_at v_t_start v_t_sort v_t_value v_t_fault (z7_1 (0 : Int32).toNatClampNeg) v_t_went v_t_ender v_t_had (0 : Int32) (upd g_t_opinions (0 : Int32).toNatClampNeg (g_t_opinions (1 : Int32).toNatClampNeg)) (upd g_t_lines (0 : Int32).toNatClampNeg (g_t_lines (1 : Int32).toNatClampNeg)) g_t_draftBook (upd g_t_scribes (0 : Int32).toNatClampNeg (g_t_scribes (1 : Int32).toNatClampNeg)) z1_1 z1_2 (upd g_t_need (0 : Int32).toNatClampNeg (g_t_need (1 : Int32).toNatClampNeg)) (upd z7_1 (9 : Int32).toNatClampNeg (0 : Int32)) g_t_isKept) H := hP
        have hD : va_D A (wd_X9_takeDraft cs a_t a_t_text a_t_opinions a_t_lines a_t_draftBook a_t_scribes a_t_turn a_t_bent a_t_need a_t_now a_t_isKept a_t_far a_t_marginOf a_t_marginSays v_t_trace v_t_typed v_t_needTold v_t_at v_t_start v_t_sort v_t_value v_t_fault (z7_1 (0 : Int32).toNatClampNeg) v_t_went v_t_ender v_t_had (0 : Int32) (upd g_t_opinions (0 : Int32).toNatClampNeg (g_t_opinions (1 : Int32).toNatClampNeg)) (upd g_t_lines (0 : Int32).toNatClampNeg (g_t_lines (1 : Int32).toNatClampNeg)) g_t_draftBook (upd g_t_scribes (0 : Int32).toNatClampNeg (g_t_scribes (1 : Int32).toNatClampNeg)) z1_1 z1_2 (upd g_t_need (0 : Int32).toNatClampNeg (g_t_need (1 : Int32).toNatClampNeg)) (upd z7_1 (9 : Int32).toNatClampNeg (0 : Int32)) g_t_isKept) := hD
        refine lv_aload_n hx hb dX9_takeDraft_180 rfl (lv_at hl 0 rfl) ?_
        refine va_get (D := G) (ci := 9) (v := .ref a_t_isKept) (C := RX9) (T := TX9) (N := 26) hx hb hg inX9 hown hKT hP 0 rfl rfl 17 (by decide) (hg _ gF_X9_38) (fun _ h9 => h9) rfl dX9_takeDraft_181 ?_
        refine lv_iconst (v := 0) hx hb dX9_takeDraft_184 (by decide) ?_
        refine lv_iconst (v := 0) hx hb dX9_takeDraft_185 (by decide) ?_
        refine va_zast hx hb hKT hP hD hS 9 2 rfl rfl (vinC (by decide)) dX9_takeDraft_186 (fun H locs hP hD hS => ?_)
        have hP : va_P G vwCl (wd_X9_takeDraft cs a_t a_t_text a_t_opinions a_t_lines a_t_draftBook a_t_scribes a_t_turn a_t_bent a_t_need a_t_now a_t_isKept a_t_far a_t_marginOf a_t_marginSays v_t_trace v_t_typed v_t_needTold v_t_at v_t_start v_t_sort v_t_value v_t_fault (z7_1 (0 : Int32).toNatClampNeg) v_t_went v_t_ender v_t_had (0 : Int32) (upd g_t_opinions (0 : Int32).toNatClampNeg (g_t_opinions (1 : Int32).toNatClampNeg)) (upd g_t_lines (0 : Int32).toNatClampNeg (g_t_lines (1 : Int32).toNatClampNeg)) g_t_draftBook (upd g_t_scribes (0 : Int32).toNatClampNeg (g_t_scribes (1 : Int32).toNatClampNeg)) z1_1 z1_2 (upd g_t_need (0 : Int32).toNatClampNeg (g_t_need (1 : Int32).toNatClampNeg)) (upd z7_1 (9 : Int32).toNatClampNeg (0 : Int32)) (upd g_t_isKept (0 : Int32).toNatClampNeg (vp_nar .boolean (0 : Int32)))) H := hP
        have hD : va_D A (wd_X9_takeDraft cs a_t a_t_text a_t_opinions a_t_lines a_t_draftBook a_t_scribes a_t_turn a_t_bent a_t_need a_t_now a_t_isKept a_t_far a_t_marginOf a_t_marginSays v_t_trace v_t_typed v_t_needTold v_t_at v_t_start v_t_sort v_t_value v_t_fault (z7_1 (0 : Int32).toNatClampNeg) v_t_went v_t_ender v_t_had (0 : Int32) (upd g_t_opinions (0 : Int32).toNatClampNeg (g_t_opinions (1 : Int32).toNatClampNeg)) (upd g_t_lines (0 : Int32).toNatClampNeg (g_t_lines (1 : Int32).toNatClampNeg)) g_t_draftBook (upd g_t_scribes (0 : Int32).toNatClampNeg (g_t_scribes (1 : Int32).toNatClampNeg)) z1_1 z1_2 (upd g_t_need (0 : Int32).toNatClampNeg (g_t_need (1 : Int32).toNatClampNeg)) (upd z7_1 (9 : Int32).toNatClampNeg (0 : Int32)) (upd g_t_isKept (0 : Int32).toNatClampNeg (vp_nar .boolean (0 : Int32)))) := hD
        refine lv_aload_n hx hb dX9_takeDraft_187 rfl (lv_at hl 0 rfl) ?_
        refine va_get (D := G) (ci := 9) (v := .ref a_t_isKept) (C := RX9) (T := TX9) (N := 26) hx hb hg inX9 hown hKT hP 0 rfl rfl 17 (by decide) (hg _ gF_X9_38) (fun _ h9 => h9) rfl dX9_takeDraft_188 ?_
        refine lv_iconst (v := 1) hx hb dX9_takeDraft_191 (by decide) ?_
        refine lv_iconst (v := 0) hx hb dX9_takeDraft_192 (by decide) ?_
        refine va_zast hx hb hKT hP hD hS 9 2 rfl rfl (vinC (by decide)) dX9_takeDraft_193 (fun H locs hP hD hS => ?_)
        have hP : va_P G vwCl (wd_X9_takeDraft cs a_t a_t_text a_t_opinions a_t_lines a_t_draftBook a_t_scribes a_t_turn a_t_bent a_t_need a_t_now a_t_isKept a_t_far a_t_marginOf a_t_marginSays v_t_trace v_t_typed v_t_needTold v_t_at v_t_start v_t_sort v_t_value v_t_fault (z7_1 (0 : Int32).toNatClampNeg) v_t_went v_t_ender v_t_had (0 : Int32) (upd g_t_opinions (0 : Int32).toNatClampNeg (g_t_opinions (1 : Int32).toNatClampNeg)) (upd g_t_lines (0 : Int32).toNatClampNeg (g_t_lines (1 : Int32).toNatClampNeg)) g_t_draftBook (upd g_t_scribes (0 : Int32).toNatClampNeg (g_t_scribes (1 : Int32).toNatClampNeg)) z1_1 z1_2 (upd g_t_need (0 : Int32).toNatClampNeg (g_t_need (1 : Int32).toNatClampNeg)) (upd z7_1 (9 : Int32).toNatClampNeg (0 : Int32)) (upd (upd g_t_isKept (0 : Int32).toNatClampNeg (vp_nar .boolean (0 : Int32))) (1 : Int32).toNatClampNeg (vp_nar .boolean (0 : Int32)))) H := hP
        have hD : va_D A (wd_X9_takeDraft cs a_t a_t_text a_t_opinions a_t_lines a_t_draftBook a_t_scribes a_t_turn a_t_bent a_t_need a_t_now a_t_isKept a_t_far a_t_marginOf a_t_marginSays v_t_trace v_t_typed v_t_needTold v_t_at v_t_start v_t_sort v_t_value v_t_fault (z7_1 (0 : Int32).toNatClampNeg) v_t_went v_t_ender v_t_had (0 : Int32) (upd g_t_opinions (0 : Int32).toNatClampNeg (g_t_opinions (1 : Int32).toNatClampNeg)) (upd g_t_lines (0 : Int32).toNatClampNeg (g_t_lines (1 : Int32).toNatClampNeg)) g_t_draftBook (upd g_t_scribes (0 : Int32).toNatClampNeg (g_t_scribes (1 : Int32).toNatClampNeg)) z1_1 z1_2 (upd g_t_need (0 : Int32).toNatClampNeg (g_t_need (1 : Int32).toNatClampNeg)) (upd z7_1 (9 : Int32).toNatClampNeg (0 : Int32)) (upd (upd g_t_isKept (0 : Int32).toNatClampNeg (vp_nar .boolean (0 : Int32))) (1 : Int32).toNatClampNeg (vp_nar .boolean (0 : Int32)))) := hD
        have hK := leafK hB hK
        have hK := elimR hK
        have hK : (z7_1 (0 : Int32).toNatClampNeg, (0 : Int32), upd g_t_opinions (0 : Int32).toNatClampNeg (g_t_opinions (1 : Int32).toNatClampNeg), upd g_t_lines (0 : Int32).toNatClampNeg (g_t_lines (1 : Int32).toNatClampNeg), upd g_t_scribes (0 : Int32).toNatClampNeg (g_t_scribes (1 : Int32).toNatClampNeg), z1_1, z1_2, upd g_t_need (0 : Int32).toNatClampNeg (g_t_need (1 : Int32).toNatClampNeg), upd z7_1 (9 : Int32).toNatClampNeg (0 : Int32), upd (upd g_t_isKept (0 : Int32).toNatClampNeg (vp_nar .boolean (0 : Int32))) (1 : Int32).toNatClampNeg (vp_nar .boolean (0 : Int32))) = R0 := hK
        subst hK
        exact W.vret hx hb hr (fun t ht hW => ⟨⟨(), rfl, trivial, by rw [ht]; exact hP, hD⟩, hS.F ht⟩) hS.2.2 dX9_takeDraft_194
      · have hB := ifN c_8 hB
        refine lv_aload_n hx hb dX9_takeDraft_125 rfl (lv_at hl 0 rfl) ?_
        refine va_get (D := G) (ci := 9) (v := .ref a_t_now) (C := RX9) (T := TX9) (N := 26) hx hb hg inX9 hown hKT hP 0 rfl rfl 16 (by decide) (hg _ gF_X9_35) (fun _ h9 => h9) rfl dX9_takeDraft_126 ?_
        refine lv_iconst (v := 0) hx hb dX9_takeDraft_129 (by decide) ?_
        refine lv_aload_n hx hb dX9_takeDraft_130 rfl (lv_at hl 0 rfl) ?_
        refine va_get (D := G) (ci := 9) (v := .ref a_t_now) (C := RX9) (T := TX9) (N := 26) hx hb hg inX9 hown hKT hP 0 rfl rfl 16 (by decide) (hg _ gF_X9_35) (fun _ h9 => h9) rfl dX9_takeDraft_131 ?_
        refine lv_iconst (v := 0) hx hb dX9_takeDraft_134 (by decide) ?_
        refine va_iald hx hb hKT hP 8 0 rfl rfl (vinC (by decide)) dX9_takeDraft_135 ?_
        refine lv_aload_n hx hb dX9_takeDraft_136 rfl (lv_at hl 0 rfl) ?_
        refine va_get (D := G) (ci := 9) (v := .ref a_t_opinions) (C := RX9) (T := TX9) (N := 26) hx hb hg inX9 hown hKT hP 0 rfl rfl 3 (by decide) (hg _ gF_X9_13) (fun _ h9 => h9) rfl dX9_takeDraft_137 ?_
        refine lv_iconst (v := 0) hx hb dX9_takeDraft_140 (by decide) ?_
        refine va_iald hx hb hKT hP 1 0 rfl rfl (vinC (by decide)) dX9_takeDraft_141 ?_
        refine lv_imul hx hb dX9_takeDraft_142 ?_
        refine lv_aload_n hx hb dX9_takeDraft_143 rfl (lv_at hl 0 rfl) ?_
        refine va_get (D := G) (ci := 9) (v := .ref a_t_draftBook) (C := RX9) (T := TX9) (N := 26) hx hb hg inX9 hown hKT hP 0 rfl rfl 5 (by decide) (hg _ gF_X9_20) (fun _ h9 => h9) rfl dX9_takeDraft_144 ?_
        refine lv_iload_n hx hb dX9_takeDraft_147 rfl (lv_at hl 1 rfl) ?_
        obtain ⟨h_9, hB⟩ := ifS hB
        refine va_iald hx hb hKT hP 3 0 rfl rfl h_9 dX9_takeDraft_148 ?_
        refine lv_iadd hx hb dX9_takeDraft_149 ?_
        refine va_iast hx hb hKT hP hD hS 8 0 rfl rfl (vinC (by decide)) dX9_takeDraft_150 (fun H locs hP hD hS => ?_)
        have hP : va_P G vwCl (wd_X9_takeDraft cs a_t a_t_text a_t_opinions a_t_lines a_t_draftBook a_t_scribes a_t_turn a_t_bent a_t_need a_t_now a_t_isKept a_t_far a_t_marginOf a_t_marginSays v_t_trace v_t_typed v_t_needTold v_t_at v_t_start v_t_sort v_t_value v_t_fault v_t_target v_t_went v_t_ender v_t_had v_t_margins (upd g_t_opinions (0 : Int32).toNatClampNeg (g_t_opinions (1 : Int32).toNatClampNeg)) (upd g_t_lines (0 : Int32).toNatClampNeg (g_t_lines (1 : Int32).toNatClampNeg)) g_t_draftBook (upd g_t_scribes (0 : Int32).toNatClampNeg (g_t_scribes (1 : Int32).toNatClampNeg)) z1_1 z1_2 (upd g_t_need (0 : Int32).toNatClampNeg (g_t_need (1 : Int32).toNatClampNeg)) (upd z7_1 (0 : Int32).toNatClampNeg (((z7_1 (0 : Int32).toNatClampNeg) * ((upd g_t_opinions (0 : Int32).toNatClampNeg (g_t_opinions (1 : Int32).toNatClampNeg)) (0 : Int32).toNatClampNeg)) + (g_t_draftBook z7_0.toNatClampNeg))) g_t_isKept) H := hP
        have hD : va_D A (wd_X9_takeDraft cs a_t a_t_text a_t_opinions a_t_lines a_t_draftBook a_t_scribes a_t_turn a_t_bent a_t_need a_t_now a_t_isKept a_t_far a_t_marginOf a_t_marginSays v_t_trace v_t_typed v_t_needTold v_t_at v_t_start v_t_sort v_t_value v_t_fault v_t_target v_t_went v_t_ender v_t_had v_t_margins (upd g_t_opinions (0 : Int32).toNatClampNeg (g_t_opinions (1 : Int32).toNatClampNeg)) (upd g_t_lines (0 : Int32).toNatClampNeg (g_t_lines (1 : Int32).toNatClampNeg)) g_t_draftBook (upd g_t_scribes (0 : Int32).toNatClampNeg (g_t_scribes (1 : Int32).toNatClampNeg)) z1_1 z1_2 (upd g_t_need (0 : Int32).toNatClampNeg (g_t_need (1 : Int32).toNatClampNeg)) (upd z7_1 (0 : Int32).toNatClampNeg (((z7_1 (0 : Int32).toNatClampNeg) * ((upd g_t_opinions (0 : Int32).toNatClampNeg (g_t_opinions (1 : Int32).toNatClampNeg)) (0 : Int32).toNatClampNeg)) + (g_t_draftBook z7_0.toNatClampNeg))) g_t_isKept) := hD
        refine lv_iinc (v := z7_0 + (1 : Int32)) (lv' := [(1, .int (z7_0 + (1 : Int32))), (0, .ref a_t)]) hx hb dX9_takeDraft_151 hl (k := 1) rfl (inc_ok (by decide)) (by decide) rfl (fun ls hl => ?_)
        refine lv_goto (tgt := 115) hx hb dX9_takeDraft_154 (by decide) ?_
        have hK := leafK hB hK
        have hK := elimL hK
        exact hK H locs hP hD hS ls (lv_sub hl [1, 0] rfl)
    · have hB := ifN c_5 hB
      refine lv_aload_n hx hb dX9_takeDraft_100 rfl (lv_at hl 0 rfl) ?_
      refine va_get (D := G) (ci := 9) (v := .ref a_t_now) (C := RX9) (T := TX9) (N := 26) hx hb hg inX9 hown hKT hP 0 rfl rfl 16 (by decide) (hg _ gF_X9_35) (fun _ h9 => h9) rfl dX9_takeDraft_101 ?_
      refine lv_iload_n hx hb dX9_takeDraft_104 rfl (lv_at hl 1 rfl) ?_
      refine lv_iconst (v := 0) hx hb dX9_takeDraft_105 (by decide) ?_
      obtain ⟨h_10, hB⟩ := ifS hB
      refine va_iast hx hb hKT hP hD hS 8 0 rfl rfl h_10 dX9_takeDraft_106 (fun H locs hP hD hS => ?_)
      have hP : va_P G vwCl (wd_X9_takeDraft cs a_t a_t_text a_t_opinions a_t_lines a_t_draftBook a_t_scribes a_t_turn a_t_bent a_t_need a_t_now a_t_isKept a_t_far a_t_marginOf a_t_marginSays v_t_trace v_t_typed v_t_needTold v_t_at v_t_start v_t_sort v_t_value v_t_fault v_t_target v_t_went v_t_ender v_t_had v_t_margins (upd g_t_opinions (0 : Int32).toNatClampNeg (g_t_opinions (1 : Int32).toNatClampNeg)) (upd g_t_lines (0 : Int32).toNatClampNeg (g_t_lines (1 : Int32).toNatClampNeg)) g_t_draftBook (upd g_t_scribes (0 : Int32).toNatClampNeg (g_t_scribes (1 : Int32).toNatClampNeg)) z1_1 z1_2 (upd g_t_need (0 : Int32).toNatClampNeg (g_t_need (1 : Int32).toNatClampNeg)) (upd z4_1 z4_0.toNatClampNeg (0 : Int32)) g_t_isKept) H := hP
      have hD : va_D A (wd_X9_takeDraft cs a_t a_t_text a_t_opinions a_t_lines a_t_draftBook a_t_scribes a_t_turn a_t_bent a_t_need a_t_now a_t_isKept a_t_far a_t_marginOf a_t_marginSays v_t_trace v_t_typed v_t_needTold v_t_at v_t_start v_t_sort v_t_value v_t_fault v_t_target v_t_went v_t_ender v_t_had v_t_margins (upd g_t_opinions (0 : Int32).toNatClampNeg (g_t_opinions (1 : Int32).toNatClampNeg)) (upd g_t_lines (0 : Int32).toNatClampNeg (g_t_lines (1 : Int32).toNatClampNeg)) g_t_draftBook (upd g_t_scribes (0 : Int32).toNatClampNeg (g_t_scribes (1 : Int32).toNatClampNeg)) z1_1 z1_2 (upd g_t_need (0 : Int32).toNatClampNeg (g_t_need (1 : Int32).toNatClampNeg)) (upd z4_1 z4_0.toNatClampNeg (0 : Int32)) g_t_isKept) := hD
      refine lv_iinc (v := z4_0 + (1 : Int32)) (lv' := [(1, .int (z4_0 + (1 : Int32))), (0, .ref a_t)]) hx hb dX9_takeDraft_107 hl (k := 1) rfl (inc_ok (by decide)) (by decide) rfl (fun ls hl => ?_)
      refine lv_goto (tgt := 94) hx hb dX9_takeDraft_110 (by decide) ?_
      have hK := leafK hB hK
      have hK := elimL hK
      exact hK H locs hP hD hS ls (lv_sub hl [1, 0] rfl)
  · have hB := ifN c_2 hB
    refine lv_aload_n hx hb dX9_takeDraft_56 rfl (lv_at hl 0 rfl) ?_
    refine va_get (D := G) (ci := 9) (v := .ref a_t_turn) (C := RX9) (T := TX9) (N := 26) hx hb hg inX9 hown hKT hP 0 rfl rfl 7 (by decide) (hg _ gF_X9_26) (fun _ h9 => h9) rfl dX9_takeDraft_57 ?_
    refine lv_iload_n hx hb dX9_takeDraft_60 rfl (lv_at hl 1 rfl) ?_
    refine lv_aload_n hx hb dX9_takeDraft_61 rfl (lv_at hl 0 rfl) ?_
    refine va_get (D := G) (ci := 9) (v := .ref a_t_turn) (C := RX9) (T := TX9) (N := 26) hx hb hg inX9 hown hKT hP 0 rfl rfl 7 (by decide) (hg _ gF_X9_26) (fun _ h9 => h9) rfl dX9_takeDraft_62 ?_
    refine lv_bipush (v := 6) hx hb dX9_takeDraft_65 (by decide) ?_
    refine lv_iload_n hx hb dX9_takeDraft_67 rfl (lv_at hl 1 rfl) ?_
    refine lv_iadd hx hb dX9_takeDraft_68 ?_
    obtain ⟨h_11, hB⟩ := ifS hB
    refine va_iald hx hb hKT hP 5 0 rfl rfl h_11 dX9_takeDraft_69 ?_
    obtain ⟨h_12, hB⟩ := ifS hB
    refine va_iast hx hb hKT hP hD hS 5 0 rfl rfl h_12 dX9_takeDraft_70 (fun H locs hP hD hS => ?_)
    have hP : va_P G vwCl (wd_X9_takeDraft cs a_t a_t_text a_t_opinions a_t_lines a_t_draftBook a_t_scribes a_t_turn a_t_bent a_t_need a_t_now a_t_isKept a_t_far a_t_marginOf a_t_marginSays v_t_trace v_t_typed v_t_needTold v_t_at v_t_start v_t_sort v_t_value v_t_fault v_t_target v_t_went v_t_ender v_t_had v_t_margins (upd g_t_opinions (0 : Int32).toNatClampNeg (g_t_opinions (1 : Int32).toNatClampNeg)) (upd g_t_lines (0 : Int32).toNatClampNeg (g_t_lines (1 : Int32).toNatClampNeg)) g_t_draftBook (upd g_t_scribes (0 : Int32).toNatClampNeg (g_t_scribes (1 : Int32).toNatClampNeg)) (upd z1_1 z1_0.toNatClampNeg (z1_1 ((6 : Int32) + z1_0).toNatClampNeg)) z1_2 (upd g_t_need (0 : Int32).toNatClampNeg (g_t_need (1 : Int32).toNatClampNeg)) g_t_now g_t_isKept) H := hP
    have hD : va_D A (wd_X9_takeDraft cs a_t a_t_text a_t_opinions a_t_lines a_t_draftBook a_t_scribes a_t_turn a_t_bent a_t_need a_t_now a_t_isKept a_t_far a_t_marginOf a_t_marginSays v_t_trace v_t_typed v_t_needTold v_t_at v_t_start v_t_sort v_t_value v_t_fault v_t_target v_t_went v_t_ender v_t_had v_t_margins (upd g_t_opinions (0 : Int32).toNatClampNeg (g_t_opinions (1 : Int32).toNatClampNeg)) (upd g_t_lines (0 : Int32).toNatClampNeg (g_t_lines (1 : Int32).toNatClampNeg)) g_t_draftBook (upd g_t_scribes (0 : Int32).toNatClampNeg (g_t_scribes (1 : Int32).toNatClampNeg)) (upd z1_1 z1_0.toNatClampNeg (z1_1 ((6 : Int32) + z1_0).toNatClampNeg)) z1_2 (upd g_t_need (0 : Int32).toNatClampNeg (g_t_need (1 : Int32).toNatClampNeg)) g_t_now g_t_isKept) := hD
    refine lv_aload_n hx hb dX9_takeDraft_71 rfl (lv_at hl 0 rfl) ?_
    refine va_get (D := G) (ci := 9) (v := .ref a_t_bent) (C := RX9) (T := TX9) (N := 26) hx hb hg inX9 hown hKT hP 0 rfl rfl 8 (by decide) (hg _ gF_X9_29) (fun _ h9 => h9) rfl dX9_takeDraft_72 ?_
    refine lv_iload_n hx hb dX9_takeDraft_75 rfl (lv_at hl 1 rfl) ?_
    refine lv_aload_n hx hb dX9_takeDraft_76 rfl (lv_at hl 0 rfl) ?_
    refine va_get (D := G) (ci := 9) (v := .ref a_t_bent) (C := RX9) (T := TX9) (N := 26) hx hb hg inX9 hown hKT hP 0 rfl rfl 8 (by decide) (hg _ gF_X9_29) (fun _ h9 => h9) rfl dX9_takeDraft_77 ?_
    refine lv_bipush (v := 6) hx hb dX9_takeDraft_80 (by decide) ?_
    refine lv_iload_n hx hb dX9_takeDraft_82 rfl (lv_at hl 1 rfl) ?_
    refine lv_iadd hx hb dX9_takeDraft_83 ?_
    obtain ⟨h_13, hB⟩ := ifS hB
    refine va_iald hx hb hKT hP 6 0 rfl rfl h_13 dX9_takeDraft_84 ?_
    obtain ⟨h_14, hB⟩ := ifS hB
    refine va_iast hx hb hKT hP hD hS 6 0 rfl rfl h_14 dX9_takeDraft_85 (fun H locs hP hD hS => ?_)
    have hP : va_P G vwCl (wd_X9_takeDraft cs a_t a_t_text a_t_opinions a_t_lines a_t_draftBook a_t_scribes a_t_turn a_t_bent a_t_need a_t_now a_t_isKept a_t_far a_t_marginOf a_t_marginSays v_t_trace v_t_typed v_t_needTold v_t_at v_t_start v_t_sort v_t_value v_t_fault v_t_target v_t_went v_t_ender v_t_had v_t_margins (upd g_t_opinions (0 : Int32).toNatClampNeg (g_t_opinions (1 : Int32).toNatClampNeg)) (upd g_t_lines (0 : Int32).toNatClampNeg (g_t_lines (1 : Int32).toNatClampNeg)) g_t_draftBook (upd g_t_scribes (0 : Int32).toNatClampNeg (g_t_scribes (1 : Int32).toNatClampNeg)) (upd z1_1 z1_0.toNatClampNeg (z1_1 ((6 : Int32) + z1_0).toNatClampNeg)) (upd z1_2 z1_0.toNatClampNeg (z1_2 ((6 : Int32) + z1_0).toNatClampNeg)) (upd g_t_need (0 : Int32).toNatClampNeg (g_t_need (1 : Int32).toNatClampNeg)) g_t_now g_t_isKept) H := hP
    have hD : va_D A (wd_X9_takeDraft cs a_t a_t_text a_t_opinions a_t_lines a_t_draftBook a_t_scribes a_t_turn a_t_bent a_t_need a_t_now a_t_isKept a_t_far a_t_marginOf a_t_marginSays v_t_trace v_t_typed v_t_needTold v_t_at v_t_start v_t_sort v_t_value v_t_fault v_t_target v_t_went v_t_ender v_t_had v_t_margins (upd g_t_opinions (0 : Int32).toNatClampNeg (g_t_opinions (1 : Int32).toNatClampNeg)) (upd g_t_lines (0 : Int32).toNatClampNeg (g_t_lines (1 : Int32).toNatClampNeg)) g_t_draftBook (upd g_t_scribes (0 : Int32).toNatClampNeg (g_t_scribes (1 : Int32).toNatClampNeg)) (upd z1_1 z1_0.toNatClampNeg (z1_1 ((6 : Int32) + z1_0).toNatClampNeg)) (upd z1_2 z1_0.toNatClampNeg (z1_2 ((6 : Int32) + z1_0).toNatClampNeg)) (upd g_t_need (0 : Int32).toNatClampNeg (g_t_need (1 : Int32).toNatClampNeg)) g_t_now g_t_isKept) := hD
    refine lv_iinc (v := z1_0 + (1 : Int32)) (lv' := [(1, .int (z1_0 + (1 : Int32))), (0, .ref a_t)]) hx hb dX9_takeDraft_86 hl (k := 1) rfl (inc_ok (by decide)) (by decide) rfl (fun ls hl => ?_)
    refine lv_goto (tgt := 50) hx hb dX9_takeDraft_89 (by decide) ?_
    have hK := leafK hB hK
    have hK := elimL hK
    exact hK H locs hP hD hS ls (lv_sub hl [1, 0] rfl)
