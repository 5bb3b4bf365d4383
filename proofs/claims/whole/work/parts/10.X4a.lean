theorem inX4 : ∀ w ∈ u_ws RX4 TX4 8, w ∈ GW := by
  intro w h
  obtain ⟨k, hk, rfl⟩ := List.mem_map.mp h
  have hk := List.mem_range.mp hk
  rcases (show k = 0 ∨ k = 1 ∨ k = 2 ∨ k = 3 ∨ k = 4 ∨ k = 5 ∨ k = 6 ∨ k = 7 by omega) with rfl | rfl | rfl | rfl | rfl | rfl | rfl | rfl
  · exact gY_X4_text
  · exact gY_X4_length
  · exact gY_X4_next
  · exact gY_X4_place
  · exact gY_X4_sort
  · exact gY_X4_value
  · exact gY_X4_bookTold
  · exact gY_X4_needTold
def wd_X4_add (cs : Nat → ClassId) (a_t a_t_text : Nat) (v_t_length : Int32) (v_t_next : Int32) (v_t_place : Int32) (v_t_sort : Int32) (v_t_value : Int32) (v_t_bookTold : Int32) (v_t_needTold : Int32) (g_t_text : Nat → Int32) : va_W := [(a_t, .inr (4, [.ref a_t_text, .int v_t_length, .int v_t_next, .int v_t_place, .int v_t_sort, .int v_t_value, .int v_t_bookTold, .int v_t_needTold])), (a_t_text, .inl (cs 0, 120, .inl g_t_text))]
def rm_X4_add : Room := { frames := 0, cells := 0, slots := 0, locals := 0 }
theorem mI_X4_add : MI yX4_add RX4 cX4_add 2 (some .boolean) 1 := ⟨gI_X4_add, gE_X4_add, gN_X4, gC_X4_add, by decide +kernel⟩
set_option maxHeartbeats 4000000 in
set_option maxRecDepth 100000 in
theorem k_X4_add (l : Launch) (G : va_G) (cs : Nat → ClassId) (a_t a_t_text : Nat) (v_t_length : Int32) (v_t_next : Int32) (v_t_place : Int32) (v_t_sort : Int32) (v_t_value : Int32) (v_t_bookTold : Int32) (v_t_needTold : Int32) (g_t_text : Nat → Int32) (p1 : Int32) (sz : Nat) (R0 : Int32 × Int32 × (Nat → Int32)) (hB : f_X4_add v_t_length g_t_text p1 = some R0) : Met l yX4_add (.code yX4_add cX4_add 2 (some .boolean) :: GW) rm_X4_add (PcW G cs [.ref a_t, .int p1] (wd_X4_add cs a_t a_t_text v_t_length v_t_next v_t_place v_t_sort v_t_value v_t_bookTold v_t_needTold g_t_text) sz) (QcI G (va_A (wd_X4_add cs a_t a_t_text v_t_length v_t_next v_t_place v_t_sort v_t_value v_t_bookTold v_t_needTold g_t_text) sz) (wd_X4_add cs a_t a_t_text R0.2.1 v_t_next v_t_place v_t_sort v_t_value v_t_bookTold v_t_needTold R0.2.2) R0.1) 0 0 (va_A (wd_X4_add cs a_t a_t_text v_t_length v_t_next v_t_place v_t_sort v_t_value v_t_bookTold v_t_needTold g_t_text) sz) := by
  refine Met.ofW (cc := cX4_add) (maxL := 2) (ret := (some .boolean)) (by decide) rfl ?_
  intro p e s m args below meth c s₁ B hml hv
  obtain ⟨rfl, hsz, hP, hD0, hK, hN⟩ := hv
  have hx := B.exec
  have hb := B.bytes
  have hr := B.returns
  have hts := atoms_spec (ws := .code yX4_add cX4_add 2 (some .boolean) :: GW) B.pre
  have hg : ∀ w ∈ GW, w.before _ s = true := fun w h => hts w (List.mem_cons_of_mem _ h)
  have hown : s.vm.findClass RX4 = some m.cls := findClass_of_methodNamed B.named
  have hlocks := B.notSynchronized
  subst hsz
  have hD := hD0.self (sz := s.heap.size)
  generalize hAe : va_A (wd_X4_add cs a_t a_t_text v_t_length v_t_next v_t_place v_t_sort v_t_value v_t_bookTold v_t_needTold g_t_text) s.heap.size = A at hD ⊢
  have hA : ∀ q : Nat, s.heap.size ≤ q → A q := fun q h => by rw [← hAe]; exact Or.inr h
  have hS : va_S A s.heap s.heap [] := va_S.rf
  have hl := lv_entry ([.ref a_t, .int p1]) (n := 2) (Nat.le_of_ble_eq_true rfl)
  rw [lg_entry_eq]
  generalize (lg_sl ([.ref a_t, .int p1]) ++ List.replicate (2 - (lg_sl ([.ref a_t, .int p1])).length) Slot.unset).toArray = ls at hl ⊢
  have hl : lv_has ls 2 [(0, .ref a_t), (1, .int p1)] := hl
  obtain ⟨y, hB, hK0⟩ : ∃ y, f_X4_add v_t_length g_t_text p1 = some y ∧ KEnd R0 y := ⟨R0, hB, rfl⟩
  have hKT := hK
  have hK := hK0
  obtain ⟨H, hHe⟩ : ∃ H, H = s.heap := ⟨_, rfl⟩
  obtain ⟨locs, hLe⟩ : ∃ L : List Loc, L = [] := ⟨_, rfl⟩
  rw [← hHe] at hP
  have hS : va_S A s.heap H locs := by rw [hHe, hLe]; exact hS
  show W p l e rm_X4_add s m ([.ref a_t, .int p1] : List Value).toArray below meth c s.heap [] 0 0 _ _
  suffices hgo : W p l e rm_X4_add s m ([.ref a_t, .int p1] : List Value).toArray below meth c H locs 0 0 (MQ below (QcI G A (wd_X4_add cs a_t a_t_text R0.2.1 v_t_next v_t_place v_t_sort v_t_value v_t_bookTold v_t_needTold R0.2.2) R0.1) ([.ref a_t, .int p1] : List Value).toArray s 0 0 A) (F0 m 0 ls []) by rw [hHe, hLe] at hgo; exact hgo
  refine lv_aload_n hx hb dX4_add_0 rfl (lv_at hl 0 rfl) ?_
  refine va_get (D := G) (ci := 4) (v := .int v_t_length) (C := RX4) (T := TX4) (N := 8) hx hb hg inX4 hown hKT hP 0 rfl rfl 1 (by decide) (hg _ gF_X4_15) (fun _ h9 => h9) rfl dX4_add_1 ?_
  refine lv_if_lt (tgt := 16) hx hb dX4_add_4 (by decide) (fun c_1 => ?_) (fun c_1 => ?_)
  · have hB := ifP c_1 hB
    refine lv_iconst (v := 0) hx hb dX4_add_16 (by decide) ?_
    have hK := leafK hB hK
    have hK : ((0 : Int32), v_t_length, g_t_text) = R0 := hK
    subst hK
    exact W.zret (v := (0 : Int32)) (ty := .boolean) hx hb hr rfl (fun t ht hW => ⟨⟨_, (), rfl, rfl, by rw [ht]; exact hP, hD⟩, hS.F ht⟩) hS.2.2 dX4_add_17
  · have hB := ifN c_1 hB
    refine lv_aload_n hx hb dX4_add_7 rfl (lv_at hl 0 rfl) ?_
    refine va_get (D := G) (ci := 4) (v := .int v_t_length) (C := RX4) (T := TX4) (N := 8) hx hb hg inX4 hown hKT hP 0 rfl rfl 1 (by decide) (hg _ gF_X4_15) (fun _ h9 => h9) rfl dX4_add_8 ?_
    refine lv_bipush (v := 120) hx hb dX4_add_11 (by decide) ?_
    refine lv_icmp_lt (tgt := 18) hx hb dX4_add_13 (by decide) (fun c_2 => ?_) (fun c_2 => ?_)
    · have hB := ifP c_2 hB
      refine lv_aload_n hx hb dX4_add_18 rfl (lv_at hl 0 rfl) ?_
      refine va_get (D := G) (ci := 4) (v := .ref a_t_text) (C := RX4) (T := TX4) (N := 8) hx hb hg inX4 hown hKT hP 0 rfl rfl 0 (by decide) (hg _ gF_X4_11) (fun _ h9 => h9) rfl dX4_add_19 ?_
      refine lv_aload_n hx hb dX4_add_22 rfl (lv_at hl 0 rfl) ?_
      refine va_get (D := G) (ci := 4) (v := .int v_t_length) (C := RX4) (T := TX4) (N := 8) hx hb hg inX4 hown hKT hP 0 rfl rfl 1 (by decide) (hg _ gF_X4_15) (fun _ h9 => h9) rfl dX4_add_23 ?_
      refine lv_iload_n hx hb dX4_add_26 rfl (lv_at hl 1 rfl) ?_
      obtain ⟨h_3, hB⟩ := ifS hB
      refine va_iast hx hb hKT hP hD hS 1 0 rfl rfl h_3 dX4_add_27 (fun H locs hP hD hS => ?_)
      have hP : va_P G vwCl (wd_X4_add cs a_t a_t_text v_t_length v_t_next v_t_place v_t_sort v_t_value v_t_bookTold v_t_needTold (upd g_t_text v_t_length.toNatClampNeg p1)) H := hP
      have hD : va_D A (wd_X4_add cs a_t a_t_text v_t_length v_t_next v_t_place v_t_sort v_t_value v_t_bookTold v_t_needTold (upd g_t_text v_t_length.toNatClampNeg p1)) := hD
      refine lv_aload_n hx hb dX4_add_28 rfl (lv_at hl 0 rfl) ?_
      refine lv_dup hx hb dX4_add_29 rfl ?_
      refine va_get (D := G) (ci := 4) (v := .int v_t_length) (C := RX4) (T := TX4) (N := 8) hx hb hg inX4 hown hKT hP 0 rfl rfl 1 (by decide) (hg _ gF_X4_15) (fun _ h9 => h9) rfl dX4_add_30 ?_
      refine lv_iconst (v := 1) hx hb dX4_add_33 (by decide) ?_
      refine lv_iadd hx hb dX4_add_34 ?_
      refine va_put (D := G) (ci := 4) (v := .int (v_t_length + (1 : Int32))) (ty := .int) (C := RX4) (T := TX4) (N := 8) hx hb hg inX4 tyX4 tyX4_ok nmX4 hown hKT hP hD hS 0 rfl rfl 1 (by decide) (hg _ gF_X4_15) (fun _ h9 => h9) rfl (by decide +kernel) rfl rfl (Nat.le_of_ble_eq_true rfl) dX4_add_35 (fun H locs hP hD hS => ?_)
      have hP : va_P G vwCl (wd_X4_add cs a_t a_t_text (v_t_length + (1 : Int32)) v_t_next v_t_place v_t_sort v_t_value v_t_bookTold v_t_needTold (upd g_t_text v_t_length.toNatClampNeg p1)) H := hP
      have hD : va_D A (wd_X4_add cs a_t a_t_text (v_t_length + (1 : Int32)) v_t_next v_t_place v_t_sort v_t_value v_t_bookTold v_t_needTold (upd g_t_text v_t_length.toNatClampNeg p1)) := hD
      refine lv_iconst (v := 1) hx hb dX4_add_38 (by decide) ?_
      have hK := leafK hB hK
      have hK : ((1 : Int32), v_t_length + (1 : Int32), upd g_t_text v_t_length.toNatClampNeg p1) = R0 := hK
      subst hK
      exact W.zret (v := (1 : Int32)) (ty := .boolean) hx hb hr rfl (fun t ht hW => ⟨⟨_, (), rfl, rfl, by rw [ht]; exact hP, hD⟩, hS.F ht⟩) hS.2.2 dX4_add_39
    · have hB := ifN c_2 hB
      refine lv_iconst (v := 0) hx hb dX4_add_16 (by decide) ?_
      have hK := leafK hB hK
      have hK : ((0 : Int32), v_t_length, g_t_text) = R0 := hK
      subst hK
      exact W.zret (v := (0 : Int32)) (ty := .boolean) hx hb hr rfl (fun t ht hW => ⟨⟨_, (), rfl, rfl, by rw [ht]; exact hP, hD⟩, hS.F ht⟩) hS.2.2 dX4_add_17
def wd_X4_empty (cs : Nat → ClassId) (a_t a_t_text : Nat) (v_t_length : Int32) (v_t_next : Int32) (v_t_place : Int32) (v_t_sort : Int32) (v_t_value : Int32) (v_t_bookTold : Int32) (v_t_needTold : Int32) : va_W := [(a_t, .inr (4, [.ref a_t_text, .int v_t_length, .int v_t_next, .int v_t_place, .int v_t_sort, .int v_t_value, .int v_t_bookTold, .int v_t_needTold]))]
def rm_X4_empty : Room := { frames := 0, cells := 0, slots := 0, locals := 0 }
theorem mI_X4_empty : MI yX4_empty RX4 cX4_empty 2 (some .int) 0 := ⟨gI_X4_empty, gE_X4_empty, gN_X4, gC_X4_empty, by decide +kernel⟩
set_option maxHeartbeats 4000000 in
set_option maxRecDepth 100000 in
theorem k_X4_empty (l : Launch) (G : va_G) (cs : Nat → ClassId) (a_t a_t_text : Nat) (v_t_length : Int32) (v_t_next : Int32) (v_t_place : Int32) (v_t_sort : Int32) (v_t_value : Int32) (v_t_bookTold : Int32) (v_t_needTold : Int32) (sz : Nat) (R0 : Int32 × Int32) (hB : f_X4_empty v_t_length = some R0) : Met l yX4_empty (.code yX4_empty cX4_empty 2 (some .int) :: GW) rm_X4_empty (PcW G cs [.ref a_t] (wd_X4_empty cs a_t a_t_text v_t_length v_t_next v_t_place v_t_sort v_t_value v_t_bookTold v_t_needTold) sz) (QcI G (va_A (wd_X4_empty cs a_t a_t_text v_t_length v_t_next v_t_place v_t_sort v_t_value v_t_bookTold v_t_needTold) sz) (wd_X4_empty cs a_t a_t_text R0.2 v_t_next v_t_place v_t_sort v_t_value v_t_bookTold v_t_needTold) R0.1) 0 0 (va_A (wd_X4_empty cs a_t a_t_text v_t_length v_t_next v_t_place v_t_sort v_t_value v_t_bookTold v_t_needTold) sz) := by
  refine Met.ofW (cc := cX4_empty) (maxL := 2) (ret := (some .int)) (by decide) rfl ?_
  intro p e s m args below meth c s₁ B hml hv
  obtain ⟨rfl, hsz, hP, hD0, hK, hN⟩ := hv
  have hx := B.exec
  have hb := B.bytes
  have hr := B.returns
  have hts := atoms_spec (ws := .code yX4_empty cX4_empty 2 (some .int) :: GW) B.pre
  have hg : ∀ w ∈ GW, w.before _ s = true := fun w h => hts w (List.mem_cons_of_mem _ h)
  have hown : s.vm.findClass RX4 = some m.cls := findClass_of_methodNamed B.named
  have hlocks := B.notSynchronized
  subst hsz
  have hD := hD0.self (sz := s.heap.size)
  generalize hAe : va_A (wd_X4_empty cs a_t a_t_text v_t_length v_t_next v_t_place v_t_sort v_t_value v_t_bookTold v_t_needTold) s.heap.size = A at hD ⊢
  have hA : ∀ q : Nat, s.heap.size ≤ q → A q := fun q h => by rw [← hAe]; exact Or.inr h
  have hS : va_S A s.heap s.heap [] := va_S.rf
  have hl := lv_entry ([.ref a_t]) (n := 2) (Nat.le_of_ble_eq_true rfl)
  rw [lg_entry_eq]
  generalize (lg_sl ([.ref a_t]) ++ List.replicate (2 - (lg_sl ([.ref a_t])).length) Slot.unset).toArray = ls at hl ⊢
  have hl : lv_has ls 2 [(0, .ref a_t)] := hl
  obtain ⟨y, hB, hK0⟩ : ∃ y, f_X4_empty v_t_length = some y ∧ KEnd R0 y := ⟨R0, hB, rfl⟩
  have hKT := hK
  have hK := hK0
  obtain ⟨H, hHe⟩ : ∃ H, H = s.heap := ⟨_, rfl⟩
  obtain ⟨locs, hLe⟩ : ∃ L : List Loc, L = [] := ⟨_, rfl⟩
  rw [← hHe] at hP
  have hS : va_S A s.heap H locs := by rw [hHe, hLe]; exact hS
  show W p l e rm_X4_empty s m ([.ref a_t] : List Value).toArray below meth c s.heap [] 0 0 _ _
  suffices hgo : W p l e rm_X4_empty s m ([.ref a_t] : List Value).toArray below meth c H locs 0 0 (MQ below (QcI G A (wd_X4_empty cs a_t a_t_text R0.2 v_t_next v_t_place v_t_sort v_t_value v_t_bookTold v_t_needTold) R0.1) ([.ref a_t] : List Value).toArray s 0 0 A) (F0 m 0 ls []) by rw [hHe, hLe] at hgo; exact hgo
  refine lv_aload_n hx hb dX4_empty_0 rfl (lv_at hl 0 rfl) ?_
  refine va_get (D := G) (ci := 4) (v := .int v_t_length) (C := RX4) (T := TX4) (N := 8) hx hb hg inX4 hown hKT hP 0 rfl rfl 1 (by decide) (hg _ gF_X4_15) (fun _ h9 => h9) rfl dX4_empty_1 ?_
  refine lv_istore_n (lv' := [(1, .int v_t_length), (0, .ref a_t)]) hx hb dX4_empty_4 rfl hl (by decide) rfl (fun ls hl => ?_)
  refine lv_aload_n hx hb dX4_empty_5 rfl (lv_at hl 1 rfl) ?_
  refine lv_iconst (v := 0) hx hb dX4_empty_6 (by decide) ?_
  refine va_put (D := G) (ci := 4) (v := .int (0 : Int32)) (ty := .int) (C := RX4) (T := TX4) (N := 8) hx hb hg inX4 tyX4 tyX4_ok nmX4 hown hKT hP hD hS 0 rfl rfl 1 (by decide) (hg _ gF_X4_15) (fun _ h9 => h9) rfl (by decide +kernel) rfl rfl (Nat.le_of_ble_eq_true rfl) dX4_empty_7 (fun H locs hP hD hS => ?_)
  have hP : va_P G vwCl (wd_X4_empty cs a_t a_t_text (0 : Int32) v_t_next v_t_place v_t_sort v_t_value v_t_bookTold v_t_needTold) H := hP
  have hD : va_D A (wd_X4_empty cs a_t a_t_text (0 : Int32) v_t_next v_t_place v_t_sort v_t_value v_t_bookTold v_t_needTold) := hD
  refine lv_iload_n hx hb dX4_empty_10 rfl (lv_at hl 0 rfl) ?_
  have hK := leafK hB hK
  have hK : (v_t_length, (0 : Int32)) = R0 := hK
  subst hK
  exact W.iret (v := v_t_length) hx hb hr (fun t ht hW => ⟨⟨_, (), rfl, rfl, by rw [ht]; exact hP, hD⟩, hS.F ht⟩) hS.2.2 dX4_empty_11
def wd_X4_byteAt (cs : Nat → ClassId) (a_t a_t_text : Nat) (v_t_length : Int32) (v_t_next : Int32) (v_t_place : Int32) (v_t_sort : Int32) (v_t_value : Int32) (v_t_bookTold : Int32) (v_t_needTold : Int32) (g_t_text : Nat → Int32) : va_W := [(a_t, .inr (4, [.ref a_t_text, .int v_t_length, .int v_t_next, .int v_t_place, .int v_t_sort, .int v_t_value, .int v_t_bookTold, .int v_t_needTold])), (a_t_text, .inl (cs 0, 120, .inl g_t_text))]
def rm_X4_byteAt : Room := { frames := 0, cells := 0, slots := 0, locals := 0 }
theorem mI_X4_byteAt : MI yX4_byteAt RX4 cX4_byteAt 2 (some .int) 1 := ⟨gI_X4_byteAt, gE_X4_byteAt, gN_X4, gC_X4_byteAt, by decide +kernel⟩
set_option maxHeartbeats 4000000 in
set_option maxRecDepth 100000 in
theorem k_X4_byteAt (l : Launch) (G : va_G) (cs : Nat → ClassId) (a_t a_t_text : Nat) (v_t_length : Int32) (v_t_next : Int32) (v_t_place : Int32) (v_t_sort : Int32) (v_t_value : Int32) (v_t_bookTold : Int32) (v_t_needTold : Int32) (g_t_text : Nat → Int32) (p1 : Int32) (R0 : Int32) (hB : f_X4_byteAt v_t_length g_t_text p1 = some R0) : Met l yX4_byteAt (.code yX4_byteAt cX4_byteAt 2 (some .int) :: GW) rm_X4_byteAt (PcR G cs [.ref a_t, .int p1] (wd_X4_byteAt cs a_t a_t_text v_t_length v_t_next v_t_place v_t_sort v_t_value v_t_bookTold v_t_needTold g_t_text)) (vp_Si (fun r => r = R0)) 0 0 (fun _ => False) := by
  refine Met.ofW (cc := cX4_byteAt) (maxL := 2) (ret := (some .int)) (by decide) rfl ?_
  intro p e s m args below meth c s₁ B hml hv
  obtain ⟨rfl, hP, hK, hN⟩ := hv
  have hx := B.exec
  have hb := B.bytes
  have hr := B.returns
  have hts := atoms_spec (ws := .code yX4_byteAt cX4_byteAt 2 (some .int) :: GW) B.pre
  have hg : ∀ w ∈ GW, w.before _ s = true := fun w h => hts w (List.mem_cons_of_mem _ h)
  have hown : s.vm.findClass RX4 = some m.cls := findClass_of_methodNamed B.named
  have hlocks := B.notSynchronized
  have hl := lv_entry ([.ref a_t, .int p1]) (n := 2) (Nat.le_of_ble_eq_true rfl)
  rw [lg_entry_eq]
  generalize (lg_sl ([.ref a_t, .int p1]) ++ List.replicate (2 - (lg_sl ([.ref a_t, .int p1])).length) Slot.unset).toArray = ls at hl ⊢
  have hl : lv_has ls 2 [(0, .ref a_t), (1, .int p1)] := hl
  obtain ⟨y, hB, hK0⟩ : ∃ y, f_X4_byteAt v_t_length g_t_text p1 = some y ∧ KEnd R0 y := ⟨R0, hB, rfl⟩
  have hKT := hK
  have hK := hK0
  show W p l e rm_X4_byteAt s m ([.ref a_t, .int p1] : List Value).toArray below meth c s.heap [] 0 0 (MQ below (vp_Si (fun r => r = R0)) ([.ref a_t, .int p1] : List Value).toArray s 0 0 (fun _ => False)) (F0 m 0 ls [])
  refine lv_iload_n hx hb dX4_byteAt_0 rfl (lv_at hl 1 rfl) ?_
  refine lv_if_lt (tgt := 27) hx hb dX4_byteAt_1 (by decide) (fun c_1 => ?_) (fun c_1 => ?_)
  · have hB := ifP c_1 hB
    refine lv_iconst (v := -1) hx hb dX4_byteAt_27 (by decide) ?_
    have hK := leafK hB hK
    have hK : (-1 : Int32) = R0 := hK
    subst hK
    exact W.iret (v := (-1 : Int32)) hx hb hr (fun t ht hW => ⟨_, rfl, rfl, ht⟩) (fun _ h => by cases h) dX4_byteAt_28
  · have hB := ifN c_1 hB
    refine lv_iload_n hx hb dX4_byteAt_4 rfl (lv_at hl 1 rfl) ?_
    refine lv_aload_n hx hb dX4_byteAt_5 rfl (lv_at hl 0 rfl) ?_
    refine va_get (D := G) (ci := 4) (v := .int v_t_length) (C := RX4) (T := TX4) (N := 8) hx hb hg inX4 hown hKT hP 0 rfl rfl 1 (by decide) (hg _ gF_X4_15) (fun _ h9 => h9) rfl dX4_byteAt_6 ?_
    refine lv_icmp_ge (tgt := 27) hx hb dX4_byteAt_9 (by decide) (fun c_2 => ?_) (fun c_2 => ?_)
    · have hB := ifP c_2 hB
      refine lv_iconst (v := -1) hx hb dX4_byteAt_27 (by decide) ?_
      have hK := leafK hB hK
      have hK : (-1 : Int32) = R0 := hK
      subst hK
      exact W.iret (v := (-1 : Int32)) hx hb hr (fun t ht hW => ⟨_, rfl, rfl, ht⟩) (fun _ h => by cases h) dX4_byteAt_28
    · have hB := ifN c_2 hB
      refine lv_iload_n hx hb dX4_byteAt_12 rfl (lv_at hl 1 rfl) ?_
      refine lv_bipush (v := 120) hx hb dX4_byteAt_13 (by decide) ?_
      refine lv_icmp_ge (tgt := 27) hx hb dX4_byteAt_15 (by decide) (fun c_3 => ?_) (fun c_3 => ?_)
      · have hB := ifP c_3 hB
        refine lv_iconst (v := -1) hx hb dX4_byteAt_27 (by decide) ?_
        have hK := leafK hB hK
        have hK : (-1 : Int32) = R0 := hK
        subst hK
        exact W.iret (v := (-1 : Int32)) hx hb hr (fun t ht hW => ⟨_, rfl, rfl, ht⟩) (fun _ h => by cases h) dX4_byteAt_28
      · have hB := ifN c_3 hB
        refine lv_aload_n hx hb dX4_byteAt_18 rfl (lv_at hl 0 rfl) ?_
        refine va_get (D := G) (ci := 4) (v := .ref a_t_text) (C := RX4) (T := TX4) (N := 8) hx hb hg inX4 hown hKT hP 0 rfl rfl 0 (by decide) (hg _ gF_X4_11) (fun _ h9 => h9) rfl dX4_byteAt_19 ?_
        refine lv_iload_n hx hb dX4_byteAt_22 rfl (lv_at hl 1 rfl) ?_
        obtain ⟨h_4, hB⟩ := ifS hB
        refine va_iald hx hb hKT hP 1 0 rfl rfl h_4 dX4_byteAt_23 ?_
        refine lv_goto (tgt := 28) hx hb dX4_byteAt_24 (by decide) ?_
        have hK := leafK hB hK
        have hK : (g_t_text p1.toNatClampNeg) = R0 := hK
        subst hK
        exact W.iret (v := g_t_text p1.toNatClampNeg) hx hb hr (fun t ht hW => ⟨_, rfl, rfl, ht⟩) (fun _ h => by cases h) dX4_byteAt_28
def wd_X4_isLetter (cs : Nat → ClassId) : va_W := []
def rm_X4_isLetter : Room := { frames := 0, cells := 0, slots := 0, locals := 0 }
theorem mS_X4_isLetter : MS yX4_isLetter cX4_isLetter 1 (some .boolean) 1 := ⟨gS_X4_isLetter, gN_X4, gC_X4_isLetter, by decide +kernel⟩
set_option maxHeartbeats 4000000 in
set_option maxRecDepth 100000 in
theorem k_X4_isLetter (l : Launch) (G : va_G) (cs : Nat → ClassId) (p0 : Int32) (R0 : Int32) (hB : f_X4_isLetter p0 = some R0) : Met l yX4_isLetter (.code yX4_isLetter cX4_isLetter 1 (some .boolean) :: GW) rm_X4_isLetter (PcR G cs [.int p0] (wd_X4_isLetter cs )) (vp_Si (fun r => r = R0)) 0 0 (fun _ => False) := by
  refine Met.ofW (cc := cX4_isLetter) (maxL := 1) (ret := (some .boolean)) (by decide) rfl ?_
  intro p e s m args below meth c s₁ B hml hv
  obtain ⟨rfl, hP, hK, hN⟩ := hv
  have hx := B.exec
  have hb := B.bytes
  have hr := B.returns
  have hts := atoms_spec (ws := .code yX4_isLetter cX4_isLetter 1 (some .boolean) :: GW) B.pre
  have hg : ∀ w ∈ GW, w.before _ s = true := fun w h => hts w (List.mem_cons_of_mem _ h)
  have hown : s.vm.findClass RX4 = some m.cls := findClass_of_methodNamed B.named
  have hlocks := B.notSynchronized
  have hl := lv_entry ([.int p0]) (n := 1) (Nat.le_of_ble_eq_true rfl)
  rw [lg_entry_eq]
  generalize (lg_sl ([.int p0]) ++ List.replicate (1 - (lg_sl ([.int p0])).length) Slot.unset).toArray = ls at hl ⊢
  have hl : lv_has ls 1 [(0, .int p0)] := hl
  obtain ⟨y, hB, hK0⟩ : ∃ y, f_X4_isLetter p0 = some y ∧ KEnd R0 y := ⟨R0, hB, rfl⟩
  have hKT := hK
  have hK := hK0
  show W p l e rm_X4_isLetter s m ([.int p0] : List Value).toArray below meth c s.heap [] 0 0 (MQ below (vp_Si (fun r => r = R0)) ([.int p0] : List Value).toArray s 0 0 (fun _ => False)) (F0 m 0 ls [])
  refine lv_iload_n hx hb dX4_isLetter_0 rfl (lv_at hl 0 rfl) ?_
  refine lv_bipush (v := 97) hx hb dX4_isLetter_1 (by decide) ?_
  refine lv_icmp_lt (tgt := 16) hx hb dX4_isLetter_3 (by decide) (fun c_1 => ?_) (fun c_1 => ?_)
  · have hB := ifP c_1 hB
    refine lv_iconst (v := 0) hx hb dX4_isLetter_16 (by decide) ?_
    have hK := leafK hB hK
    have hK : (0 : Int32) = R0 := hK
    subst hK
    exact W.zret (v := (0 : Int32)) (ty := .boolean) hx hb hr rfl (fun t ht hW => ⟨_, rfl, rfl, ht⟩) (fun _ h => by cases h) dX4_isLetter_17
  · have hB := ifN c_1 hB
    refine lv_iload_n hx hb dX4_isLetter_6 rfl (lv_at hl 0 rfl) ?_
    refine lv_bipush (v := 122) hx hb dX4_isLetter_7 (by decide) ?_
    refine lv_icmp_gt (tgt := 16) hx hb dX4_isLetter_9 (by decide) (fun c_2 => ?_) (fun c_2 => ?_)
    · have hB := ifP c_2 hB
      refine lv_iconst (v := 0) hx hb dX4_isLetter_16 (by decide) ?_
      have hK := leafK hB hK
      have hK : (0 : Int32) = R0 := hK
      subst hK
      exact W.zret (v := (0 : Int32)) (ty := .boolean) hx hb hr rfl (fun t ht hW => ⟨_, rfl, rfl, ht⟩) (fun _ h => by cases h) dX4_isLetter_17
    · have hB := ifN c_2 hB
      refine lv_iconst (v := 1) hx hb dX4_isLetter_12 (by decide) ?_
      refine lv_goto (tgt := 17) hx hb dX4_isLetter_13 (by decide) ?_
      have hK := leafK hB hK
      have hK : (1 : Int32) = R0 := hK
      subst hK
      exact W.zret (v := (1 : Int32)) (ty := .boolean) hx hb hr rfl (fun t ht hW => ⟨_, rfl, rfl, ht⟩) (fun _ h => by cases h) dX4_isLetter_17
def wd_X4_readLetters (cs : Nat → ClassId) (a_t a_t_text : Nat) (v_t_length : Int32) (v_t_next : Int32) (v_t_place : Int32) (v_t_sort : Int32) (v_t_value : Int32) (v_t_bookTold : Int32) (v_t_needTold : Int32) (g_t_text : Nat → Int32) : va_W := [(a_t, .inr (4, [.ref a_t_text, .int v_t_length, .int v_t_next, .int v_t_place, .int v_t_sort, .int v_t_value, .int v_t_bookTold, .int v_t_needTold])), (a_t_text, .inl (cs 0, 120, .inl g_t_text))]
def rm_X4_readLetters : Room := { frames := 1, cells := 0, slots := 0, locals := 21 }
theorem mI_X4_readLetters : MI yX4_readLetters RX4 cX4_readLetters 1 none 0 := ⟨gI_X4_readLetters, gE_X4_readLetters, gN_X4, gC_X4_readLetters, by decide +kernel⟩
set_option maxHeartbeats 4000000 in
set_option maxRecDepth 100000 in
theorem k_X4_readLetters (l : Launch) (G : va_G) (cs : Nat → ClassId) (a_t a_t_text : Nat) (v_t_length : Int32) (v_t_next : Int32) (v_t_place : Int32) (v_t_sort : Int32) (v_t_value : Int32) (v_t_bookTold : Int32) (v_t_needTold : Int32) (g_t_text : Nat → Int32) (sz : Nat) (R0 : Int32 × Int32 × Int32) (hB : f_X4_readLetters v_t_length v_t_next v_t_place g_t_text = some R0) : Met l yX4_readLetters (.code yX4_readLetters cX4_readLetters 1 none :: GW) rm_X4_readLetters (PcW G cs [.ref a_t] (wd_X4_readLetters cs a_t a_t_text v_t_length v_t_next v_t_place v_t_sort v_t_value v_t_bookTold v_t_needTold g_t_text) sz) (QcV G (va_A (wd_X4_readLetters cs a_t a_t_text v_t_length v_t_next v_t_place v_t_sort v_t_value v_t_bookTold v_t_needTold g_t_text) sz) (wd_X4_readLetters cs a_t a_t_text v_t_length R0.1 v_t_place R0.2.1 R0.2.2 v_t_bookTold v_t_needTold g_t_text)) 0 0 (va_A (wd_X4_readLetters cs a_t a_t_text v_t_length v_t_next v_t_place v_t_sort v_t_value v_t_bookTold v_t_needTold g_t_text) sz) := by
  refine Met.ofW (cc := cX4_readLetters) (maxL := 1) (ret := none) (by decide) rfl ?_
  intro p e s m args below meth c s₁ B hml hv
  obtain ⟨rfl, hsz, hP, hD0, hK, hN⟩ := hv
  have hx := B.exec
  have hb := B.bytes
  have hr := B.returns
  have hts := atoms_spec (ws := .code yX4_readLetters cX4_readLetters 1 none :: GW) B.pre
  have hg : ∀ w ∈ GW, w.before _ s = true := fun w h => hts w (List.mem_cons_of_mem _ h)
  have hown : s.vm.findClass RX4 = some m.cls := findClass_of_methodNamed B.named
  have hlocks := B.notSynchronized
  subst hsz
  have hD := hD0.self (sz := s.heap.size)
  generalize hAe : va_A (wd_X4_readLetters cs a_t a_t_text v_t_length v_t_next v_t_place v_t_sort v_t_value v_t_bookTold v_t_needTold g_t_text) s.heap.size = A at hD ⊢
  have hA : ∀ q : Nat, s.heap.size ≤ q → A q := fun q h => by rw [← hAe]; exact Or.inr h
  have hS : va_S A s.heap s.heap [] := va_S.rf
  have hl := lv_entry ([.ref a_t]) (n := 1) (Nat.le_of_ble_eq_true rfl)
  rw [lg_entry_eq]
  generalize (lg_sl ([.ref a_t]) ++ List.replicate (1 - (lg_sl ([.ref a_t])).length) Slot.unset).toArray = ls at hl ⊢
  have hl : lv_has ls 1 [(0, .ref a_t)] := hl
  obtain ⟨y, hB, hK0⟩ : ∃ y, f_X4_readLetters v_t_length v_t_next v_t_place g_t_text = some y ∧ KEnd R0 y := ⟨R0, hB, rfl⟩
  have hKT := hK
  have hK := hK0
  obtain ⟨H, hHe⟩ : ∃ H, H = s.heap := ⟨_, rfl⟩
  obtain ⟨locs, hLe⟩ : ∃ L : List Loc, L = [] := ⟨_, rfl⟩
  rw [← hHe] at hP
  have hS : va_S A s.heap H locs := by rw [hHe, hLe]; exact hS
  show W p l e rm_X4_readLetters s m ([.ref a_t] : List Value).toArray below meth c s.heap [] 0 0 _ _
  suffices hgo : W p l e rm_X4_readLetters s m ([.ref a_t] : List Value).toArray below meth c H locs 0 0 (MQ below (QcV G A (wd_X4_readLetters cs a_t a_t_text v_t_length R0.1 v_t_place R0.2.1 R0.2.2 v_t_bookTold v_t_needTold g_t_text)) ([.ref a_t] : List Value).toArray s 0 0 A) (F0 m 0 ls []) by rw [hHe, hLe] at hgo; exact hgo
  refine lp_ind (Wh := fun (z1 : Int32) => ∀ (H : Heap) (locs : List Loc), va_P G vwCl (wd_X4_readLetters cs a_t a_t_text v_t_length z1 v_t_place v_t_sort v_t_value v_t_bookTold v_t_needTold g_t_text) H → va_D A (wd_X4_readLetters cs a_t a_t_text v_t_length z1 v_t_place v_t_sort v_t_value v_t_bookTold v_t_needTold g_t_text) → va_S A s.heap H locs → ∀ (ls : Array Slot), lv_has ls 1 [(0, .ref a_t)] → W p l e rm_X4_readLetters s m ([.ref a_t] : List Value).toArray below meth c H locs 0 0 (MQ below (QcV G A (wd_X4_readLetters cs a_t a_t_text v_t_length R0.1 v_t_place R0.2.1 R0.2.2 v_t_bookTold v_t_needTold g_t_text)) ([.ref a_t] : List Value).toArray s 0 0 A) (F0 m 0 ls [])) ?_ FU _ _ hB hK H locs hP hD hS ls (lv_sub hl [0] rfl)
  rintro z1 y hB hK H locs hP hD hS ls hl
  have hl : lv_has ls 1 [(0, .ref a_t)] := hl
  have hP : va_P G vwCl (wd_X4_readLetters cs a_t a_t_text v_t_length z1 v_t_place v_t_sort v_t_value v_t_bookTold v_t_needTold g_t_text) H := hP
  have hD : va_D A (wd_X4_readLetters cs a_t a_t_text v_t_length z1 v_t_place v_t_sort v_t_value v_t_bookTold v_t_needTold g_t_text) := hD
  refine lv_aload_n hx hb dX4_readLetters_0 rfl (lv_at hl 0 rfl) ?_
  refine va_get (D := G) (ci := 4) (v := .int z1) (C := RX4) (T := TX4) (N := 8) hx hb hg inX4 hown hKT hP 0 rfl rfl 2 (by decide) (hg _ gF_X4_24) (fun _ h9 => h9) rfl dX4_readLetters_1 ?_
  refine lv_aload_n hx hb dX4_readLetters_4 rfl (lv_at hl 0 rfl) ?_
  refine va_get (D := G) (ci := 4) (v := .int v_t_length) (C := RX4) (T := TX4) (N := 8) hx hb hg inX4 hown hKT hP 0 rfl rfl 1 (by decide) (hg _ gF_X4_15) (fun _ h9 => h9) rfl dX4_readLetters_5 ?_
  refine lv_icmp_ge (tgt := 38) hx hb dX4_readLetters_8 (by decide) (fun c_2 => ?_) (fun c_2 => ?_)
  · have hB := ifP c_2 hB
    refine lv_aload_n hx hb dX4_readLetters_38 rfl (lv_at hl 0 rfl) ?_
    refine lv_iconst (v := 1) hx hb dX4_readLetters_39 (by decide) ?_
    refine va_put (D := G) (ci := 4) (v := .int (1 : Int32)) (ty := .int) (C := RX4) (T := TX4) (N := 8) hx hb hg inX4 tyX4 tyX4_ok nmX4 hown hKT hP hD hS 0 rfl rfl 4 (by decide) (hg _ gF_X4_37) (fun _ h9 => h9) rfl (by decide +kernel) rfl rfl (Nat.le_of_ble_eq_true rfl) dX4_readLetters_40 (fun H locs hP hD hS => ?_)
    have hP : va_P G vwCl (wd_X4_readLetters cs a_t a_t_text v_t_length z1 v_t_place (1 : Int32) v_t_value v_t_bookTold v_t_needTold g_t_text) H := hP
    have hD : va_D A (wd_X4_readLetters cs a_t a_t_text v_t_length z1 v_t_place (1 : Int32) v_t_value v_t_bookTold v_t_needTold g_t_text) := hD
    refine lv_aload_n hx hb dX4_readLetters_43 rfl (lv_at hl 0 rfl) ?_
    refine lv_aload_n hx hb dX4_readLetters_44 rfl (lv_at hl 0 rfl) ?_
    refine va_get (D := G) (ci := 4) (v := .int z1) (C := RX4) (T := TX4) (N := 8) hx hb hg inX4 hown hKT hP 0 rfl rfl 2 (by decide) (hg _ gF_X4_24) (fun _ h9 => h9) rfl dX4_readLetters_45 ?_
    refine lv_aload_n hx hb dX4_readLetters_48 rfl (lv_at hl 0 rfl) ?_
    refine va_get (D := G) (ci := 4) (v := .int v_t_place) (C := RX4) (T := TX4) (N := 8) hx hb hg inX4 hown hKT hP 0 rfl rfl 3 (by decide) (hg _ gF_X4_59) (fun _ h9 => h9) rfl dX4_readLetters_49 ?_
    refine lv_isub hx hb dX4_readLetters_52 ?_
    refine lv_iconst (v := 1) hx hb dX4_readLetters_53 (by decide) ?_
    refine lv_icmp_ne (tgt := 68) hx hb dX4_readLetters_54 (by decide) (fun c_3 => ?_) (fun c_3 => ?_)
    · have hB := ifN c_3 hB
      refine lv_iconst (v := 0) hx hb dX4_readLetters_68 (by decide) ?_
      refine va_put (D := G) (ci := 4) (v := .int (0 : Int32)) (ty := .int) (C := RX4) (T := TX4) (N := 8) hx hb hg inX4 tyX4 tyX4_ok nmX4 hown hKT hP hD hS 0 rfl rfl 5 (by decide) (hg _ gF_X4_40) (fun _ h9 => h9) rfl (by decide +kernel) rfl rfl (Nat.le_of_ble_eq_true rfl) dX4_readLetters_69 (fun H locs hP hD hS => ?_)
      have hP : va_P G vwCl (wd_X4_readLetters cs a_t a_t_text v_t_length z1 v_t_place (1 : Int32) (0 : Int32) v_t_bookTold v_t_needTold g_t_text) H := hP
      have hD : va_D A (wd_X4_readLetters cs a_t a_t_text v_t_length z1 v_t_place (1 : Int32) (0 : Int32) v_t_bookTold v_t_needTold g_t_text) := hD
      have hK := leafK hB hK
      have hK := elimR hK
      have hK : (z1, (1 : Int32), (0 : Int32)) = R0 := hK
      subst hK
      exact W.vret hx hb hr (fun t ht hW => ⟨⟨(), rfl, trivial, by rw [ht]; exact hP, hD⟩, hS.F ht⟩) hS.2.2 dX4_readLetters_72
    · have hB := ifP c_3 hB
      refine lv_aload_n hx hb dX4_readLetters_57 rfl (lv_at hl 0 rfl) ?_
      refine lv_aload_n hx hb dX4_readLetters_58 rfl (lv_at hl 0 rfl) ?_
      refine va_get (D := G) (ci := 4) (v := .int v_t_place) (C := RX4) (T := TX4) (N := 8) hx hb hg inX4 hown hKT hP 0 rfl rfl 3 (by decide) (hg _ gF_X4_59) (fun _ h9 => h9) rfl dX4_readLetters_59 ?_
      obtain ⟨q4, hq4, hB⟩ := bnd hB
      refine kr_V (WC := wd_X4_byteAt cs a_t a_t_text v_t_length z1 v_t_place (1 : Int32) v_t_value v_t_bookTold v_t_needTold g_t_text) (As := [.int v_t_place]) (rest := [.ref a_t]) (r0 := q4) ⟨hx, hb, hml, hown, hg⟩ (k_X4_byteAt l G cs a_t a_t_text v_t_length z1 v_t_place (1 : Int32) v_t_value v_t_bookTold v_t_needTold g_t_text v_t_place q4 hq4) gM_X4_88 mI_X4_byteAt (rmk rfl) hP hKT hN 0 rfl rfl [0, 1] rfl rfl hl.1 rfl (Nat.le_of_ble_eq_true rfl) dX4_readLetters_62 ?_
      refine lv_goto (tgt := 69) hx hb dX4_readLetters_65 (by decide) ?_
      refine va_put (D := G) (ci := 4) (v := .int q4) (ty := .int) (C := RX4) (T := TX4) (N := 8) hx hb hg inX4 tyX4 tyX4_ok nmX4 hown hKT hP hD hS 0 rfl rfl 5 (by decide) (hg _ gF_X4_40) (fun _ h9 => h9) rfl (by decide +kernel) rfl rfl (Nat.le_of_ble_eq_true rfl) dX4_readLetters_69 (fun H locs hP hD hS => ?_)
      have hP : va_P G vwCl (wd_X4_readLetters cs a_t a_t_text v_t_length z1 v_t_place (1 : Int32) q4 v_t_bookTold v_t_needTold g_t_text) H := hP
      have hD : va_D A (wd_X4_readLetters cs a_t a_t_text v_t_length z1 v_t_place (1 : Int32) q4 v_t_bookTold v_t_needTold g_t_text) := hD
      have hK := leafK hB hK
      have hK := elimR hK
      have hK : (z1, (1 : Int32), q4) = R0 := hK
      subst hK
      exact W.vret hx hb hr (fun t ht hW => ⟨⟨(), rfl, trivial, by rw [ht]; exact hP, hD⟩, hS.F ht⟩) hS.2.2 dX4_readLetters_72
  · have hB := ifN c_2 hB
    refine lv_aload_n hx hb dX4_readLetters_11 rfl (lv_at hl 0 rfl) ?_
    refine lv_aload_n hx hb dX4_readLetters_12 rfl (lv_at hl 0 rfl) ?_
    refine va_get (D := G) (ci := 4) (v := .int z1) (C := RX4) (T := TX4) (N := 8) hx hb hg inX4 hown hKT hP 0 rfl rfl 2 (by decide) (hg _ gF_X4_24) (fun _ h9 => h9) rfl dX4_readLetters_13 ?_
    obtain ⟨q5, hq5, hB⟩ := bnd hB
    refine kr_V (WC := wd_X4_byteAt cs a_t a_t_text v_t_length z1 v_t_place v_t_sort v_t_value v_t_bookTold v_t_needTold g_t_text) (As := [.int z1]) (rest := []) (r0 := q5) ⟨hx, hb, hml, hown, hg⟩ (k_X4_byteAt l G cs a_t a_t_text v_t_length z1 v_t_place v_t_sort v_t_value v_t_bookTold v_t_needTold g_t_text z1 q5 hq5) gM_X4_88 mI_X4_byteAt (rmk rfl) hP hKT hN 0 rfl rfl [0, 1] rfl rfl hl.1 rfl (Nat.le_of_ble_eq_true rfl) dX4_readLetters_16 ?_
    obtain ⟨q6, hq6, hB⟩ := bnd hB
    refine kr_S (WC := wd_X4_isLetter cs ) (As := [.int q5]) (rest := []) (r0 := q6) ⟨hx, hb, hml, hown, hg⟩ (k_X4_isLetter l G cs q5 q6 hq6) gM_X4_92 mS_X4_isLetter (rmk rfl) hP hKT hN [] rfl rfl hl.1 rfl (Nat.le_of_ble_eq_true rfl) dX4_readLetters_19 ?_
    refine lv_if_eq (tgt := 38) hx hb dX4_readLetters_22 (by decide) (fun c_7 => ?_) (fun c_7 => ?_)
    · have hB := ifP c_7 hB
      refine lv_aload_n hx hb dX4_readLetters_38 rfl (lv_at hl 0 rfl) ?_
      refine lv_iconst (v := 1) hx hb dX4_readLetters_39 (by decide) ?_
      refine va_put (D := G) (ci := 4) (v := .int (1 : Int32)) (ty := .int) (C := RX4) (T := TX4) (N := 8) hx hb hg inX4 tyX4 tyX4_ok nmX4 hown hKT hP hD hS 0 rfl rfl 4 (by decide) (hg _ gF_X4_37) (fun _ h9 => h9) rfl (by decide +kernel) rfl rfl (Nat.le_of_ble_eq_true rfl) dX4_readLetters_40 (fun H locs hP hD hS => ?_)
      have hP : va_P G vwCl (wd_X4_readLetters cs a_t a_t_text v_t_length z1 v_t_place (1 : Int32) v_t_value v_t_bookTold v_t_needTold g_t_text) H := hP
      have hD : va_D A (wd_X4_readLetters cs a_t a_t_text v_t_length z1 v_t_place (1 : Int32) v_t_value v_t_bookTold v_t_needTold g_t_text) := hD
      refine lv_aload_n hx hb dX4_readLetters_43 rfl (lv_at hl 0 rfl) ?_
      refine lv_aload_n hx hb dX4_readLetters_44 rfl (lv_at hl 0 rfl) ?_
      refine va_get (D := G) (ci := 4) (v := .int z1) (C := RX4) (T := TX4) (N := 8) hx hb hg inX4 hown hKT hP 0 rfl rfl 2 (by decide) (hg _ gF_X4_24) (fun _ h9 => h9) rfl dX4_readLetters_45 ?_
      refine lv_aload_n hx hb dX4_readLetters_48 rfl (lv_at hl 0 rfl) ?_
      refine va_get (D := G) (ci := 4) (v := .int v_t_place) (C := RX4) (T := TX4) (N := 8) hx hb hg inX4 hown hKT hP 0 rfl rfl 3 (by decide) (hg _ gF_X4_59) (fun _ h9 => h9) rfl dX4_readLetters_49 ?_
      refine lv_isub hx hb dX4_readLetters_52 ?_
      refine lv_iconst (v := 1) hx hb dX4_readLetters_53 (by decide) ?_
      refine lv_icmp_ne (tgt := 68) hx hb dX4_readLetters_54 (by decide) (fun c_8 => ?_) (fun c_8 => ?_)
      · have hB := ifN c_8 hB
        refine lv_iconst (v := 0) hx hb dX4_readLetters_68 (by decide) ?_
        refine va_put (D := G) (ci := 4) (v := .int (0 : Int32)) (ty := .int) (C := RX4) (T := TX4) (N := 8) hx hb hg inX4 tyX4 tyX4_ok nmX4 hown hKT hP hD hS 0 rfl rfl 5 (by decide) (hg _ gF_X4_40) (fun _ h9 => h9) rfl (by decide +kernel) rfl rfl (Nat.le_of_ble_eq_true rfl) dX4_readLetters_69 (fun H locs hP hD hS => ?_)
        have hP : va_P G vwCl (wd_X4_readLetters cs a_t a_t_text v_t_length z1 v_t_place (1 : Int32) (0 : Int32) v_t_bookTold v_t_needTold g_t_text) H := hP
        have hD : va_D A (wd_X4_readLetters cs a_t a_t_text v_t_length z1 v_t_place (1 : Int32) (0 : Int32) v_t_bookTold v_t_needTold g_t_text) := hD
        have hK := leafK hB hK
        have hK := elimR hK
        have hK : (z1, (1 : Int32), (0 : Int32)) = R0 := hK
        subst hK
        exact W.vret hx hb hr (fun t ht hW => ⟨⟨(), rfl, trivial, by rw [ht]; exact hP, hD⟩, hS.F ht⟩) hS.2.2 dX4_readLetters_72
      · have hB := ifP c_8 hB
        refine lv_aload_n hx hb dX4_readLetters_57 rfl (lv_at hl 0 rfl) ?_
        refine lv_aload_n hx hb dX4_readLetters_58 rfl (lv_at hl 0 rfl) ?_
        refine va_get (D := G) (ci := 4) (v := .int v_t_place) (C := RX4) (T := TX4) (N := 8) hx hb hg inX4 hown hKT hP 0 rfl rfl 3 (by decide) (hg _ gF_X4_59) (fun _ h9 => h9) rfl dX4_readLetters_59 ?_
        obtain ⟨q9, hq9, hB⟩ := bnd hB
        refine kr_V (WC := wd_X4_byteAt cs a_t a_t_text v_t_length z1 v_t_place (1 : Int32) v_t_value v_t_bookTold v_t_needTold g_t_text) (As := [.int v_t_place]) (rest := [.ref a_t]) (r0 := q9) ⟨hx, hb, hml, hown, hg⟩ (k_X4_byteAt l G cs a_t a_t_text v_t_length z1 v_t_place (1 : Int32) v_t_value v_t_bookTold v_t_needTold g_t_text v_t_place q9 hq9) gM_X4_88 mI_X4_byteAt (rmk rfl) hP hKT hN 0 rfl rfl [0, 1] rfl rfl hl.1 rfl (Nat.le_of_ble_eq_true rfl) dX4_readLetters_62 ?_
        refine lv_goto (tgt := 69) hx hb dX4_readLetters_65 (by decide) ?_
        refine va_put (D := G) (ci := 4) (v := .int q9) (ty := .int) (C := RX4) (T := TX4) (N := 8) hx hb hg inX4 tyX4 tyX4_ok nmX4 hown hKT hP hD hS 0 rfl rfl 5 (by decide) (hg _ gF_X4_40) (fun _ h9 => h9) rfl (by decide +kernel) rfl rfl (Nat.le_of_ble_eq_true rfl) dX4_readLetters_69 (fun H locs hP hD hS => ?_)
        have hP : va_P G vwCl (wd_X4_readLetters cs a_t a_t_text v_t_length z1 v_t_place (1 : Int32) q9 v_t_bookTold v_t_needTold g_t_text) H := hP
        have hD : va_D A (wd_X4_readLetters cs a_t a_t_text v_t_length z1 v_t_place (1 : Int32) q9 v_t_bookTold v_t_needTold g_t_text) := hD
        have hK := leafK hB hK
        have hK := elimR hK
        have hK : (z1, (1 : Int32), q9) = R0 := hK
        subst hK
        exact W.vret hx hb hr (fun t ht hW => ⟨⟨(), rfl, trivial, by rw [ht]; exact hP, hD⟩, hS.F ht⟩) hS.2.2 dX4_readLetters_72
    · have hB := ifN c_7 hB
      refine lv_aload_n hx hb dX4_readLetters_25 rfl (lv_at hl 0 rfl) ?_
      refine lv_dup hx hb dX4_readLetters_26 rfl ?_
      refine va_get (D := G) (ci := 4) (v := .int z1) (C := RX4) (T := TX4) (N := 8) hx hb hg inX4 hown hKT hP 0 rfl rfl 2 (by decide) (hg _ gF_X4_24) (fun _ h9 => h9) rfl dX4_readLetters_27 ?_
      refine lv_iconst (v := 1) hx hb dX4_readLetters_30 (by decide) ?_
      refine lv_iadd hx hb dX4_readLetters_31 ?_
      refine va_put (D := G) (ci := 4) (v := .int (z1 + (1 : Int32))) (ty := .int) (C := RX4) (T := TX4) (N := 8) hx hb hg inX4 tyX4 tyX4_ok nmX4 hown hKT hP hD hS 0 rfl rfl 2 (by decide) (hg _ gF_X4_24) (fun _ h9 => h9) rfl (by decide +kernel) rfl rfl (Nat.le_of_ble_eq_true rfl) dX4_readLetters_32 (fun H locs hP hD hS => ?_)
      have hP : va_P G vwCl (wd_X4_readLetters cs a_t a_t_text v_t_length (z1 + (1 : Int32)) v_t_place v_t_sort v_t_value v_t_bookTold v_t_needTold g_t_text) H := hP
      have hD : va_D A (wd_X4_readLetters cs a_t a_t_text v_t_length (z1 + (1 : Int32)) v_t_place v_t_sort v_t_value v_t_bookTold v_t_needTold g_t_text) := hD
      refine lv_goto (tgt := 0) hx hb dX4_readLetters_35 (by decide) ?_
      have hK := leafK hB hK
      have hK := elimL hK
      exact hK H locs hP hD hS ls (lv_sub hl [0] rfl)
def wd_X4_isFigure (cs : Nat → ClassId) : va_W := []
def rm_X4_isFigure : Room := { frames := 0, cells := 0, slots := 0, locals := 0 }
theorem mS_X4_isFigure : MS yX4_isFigure cX4_isFigure 1 (some .boolean) 1 := ⟨gS_X4_isFigure, gN_X4, gC_X4_isFigure, by decide +kernel⟩
set_option maxHeartbeats 4000000 in
set_option maxRecDepth 100000 in
theorem k_X4_isFigure (l : Launch) (G : va_G) (cs : Nat → ClassId) (p0 : Int32) (R0 : Int32) (hB : f_X4_isFigure p0 = some R0) : Met l yX4_isFigure (.code yX4_isFigure cX4_isFigure 1 (some .boolean) :: GW) rm_X4_isFigure (PcR G cs [.int p0] (wd_X4_isFigure cs )) (vp_Si (fun r => r = R0)) 0 0 (fun _ => False) := by
  refine Met.ofW (cc := cX4_isFigure) (maxL := 1) (ret := (some .boolean)) (by decide) rfl ?_
  intro p e s m args below meth c s₁ B hml hv
  obtain ⟨rfl, hP, hK, hN⟩ := hv
  have hx := B.exec
  have hb := B.bytes
  have hr := B.returns
  have hts := atoms_spec (ws := .code yX4_isFigure cX4_isFigure 1 (some .boolean) :: GW) B.pre
  have hg : ∀ w ∈ GW, w.before _ s = true := fun w h => hts w (List.mem_cons_of_mem _ h)
  have hown : s.vm.findClass RX4 = some m.cls := findClass_of_methodNamed B.named
  have hlocks := B.notSynchronized
  have hl := lv_entry ([.int p0]) (n := 1) (Nat.le_of_ble_eq_true rfl)
  rw [lg_entry_eq]
  generalize (lg_sl ([.int p0]) ++ List.replicate (1 - (lg_sl ([.int p0])).length) Slot.unset).toArray = ls at hl ⊢
  have hl : lv_has ls 1 [(0, .int p0)] := hl
  obtain ⟨y, hB, hK0⟩ : ∃ y, f_X4_isFigure p0 = some y ∧ KEnd R0 y := ⟨R0, hB, rfl⟩
  have hKT := hK
  have hK := hK0
  show W p l e rm_X4_isFigure s m ([.int p0] : List Value).toArray below meth c s.heap [] 0 0 (MQ below (vp_Si (fun r => r = R0)) ([.int p0] : List Value).toArray s 0 0 (fun _ => False)) (F0 m 0 ls [])
  refine lv_iload_n hx hb dX4_isFigure_0 rfl (lv_at hl 0 rfl) ?_
  refine lv_bipush (v := 48) hx hb dX4_isFigure_1 (by decide) ?_
  refine lv_icmp_lt (tgt := 16) hx hb dX4_isFigure_3 (by decide) (fun c_1 => ?_) (fun c_1 => ?_)
  · have hB := ifP c_1 hB
    refine lv_iconst (v := 0) hx hb dX4_isFigure_16 (by decide) ?_
    have hK := leafK hB hK
    have hK : (0 : Int32) = R0 := hK
    subst hK
    exact W.zret (v := (0 : Int32)) (ty := .boolean) hx hb hr rfl (fun t ht hW => ⟨_, rfl, rfl, ht⟩) (fun _ h => by cases h) dX4_isFigure_17
  · have hB := ifN c_1 hB
    refine lv_iload_n hx hb dX4_isFigure_6 rfl (lv_at hl 0 rfl) ?_
    refine lv_bipush (v := 57) hx hb dX4_isFigure_7 (by decide) ?_
    refine lv_icmp_gt (tgt := 16) hx hb dX4_isFigure_9 (by decide) (fun c_2 => ?_) (fun c_2 => ?_)
    · have hB := ifP c_2 hB
      refine lv_iconst (v := 0) hx hb dX4_isFigure_16 (by decide) ?_
      have hK := leafK hB hK
      have hK : (0 : Int32) = R0 := hK
      subst hK
      exact W.zret (v := (0 : Int32)) (ty := .boolean) hx hb hr rfl (fun t ht hW => ⟨_, rfl, rfl, ht⟩) (fun _ h => by cases h) dX4_isFigure_17
    · have hB := ifN c_2 hB
      refine lv_iconst (v := 1) hx hb dX4_isFigure_12 (by decide) ?_
      refine lv_goto (tgt := 17) hx hb dX4_isFigure_13 (by decide) ?_
      have hK := leafK hB hK
      have hK : (1 : Int32) = R0 := hK
      subst hK
      exact W.zret (v := (1 : Int32)) (ty := .boolean) hx hb hr rfl (fun t ht hW => ⟨_, rfl, rfl, ht⟩) (fun _ h => by cases h) dX4_isFigure_17
def wd_X4_readFigures (cs : Nat → ClassId) (a_t a_t_text : Nat) (v_t_length : Int32) (v_t_next : Int32) (v_t_place : Int32) (v_t_sort : Int32) (v_t_value : Int32) (v_t_bookTold : Int32) (v_t_needTold : Int32) (g_t_text : Nat → Int32) : va_W := [(a_t, .inr (4, [.ref a_t_text, .int v_t_length, .int v_t_next, .int v_t_place, .int v_t_sort, .int v_t_value, .int v_t_bookTold, .int v_t_needTold])), (a_t_text, .inl (cs 0, 120, .inl g_t_text))]
def rm_X4_readFigures : Room := { frames := 1, cells := 0, slots := 0, locals := 30 }
theorem mI_X4_readFigures : MI yX4_readFigures RX4 cX4_readFigures 2 none 0 := ⟨gI_X4_readFigures, gE_X4_readFigures, gN_X4, gC_X4_readFigures, by decide +kernel⟩
set_option maxHeartbeats 4000000 in
set_option maxRecDepth 100000 in
theorem k_X4_readFigures (l : Launch) (G : va_G) (cs : Nat → ClassId) (a_t a_t_text : Nat) (v_t_length : Int32) (v_t_next : Int32) (v_t_place : Int32) (v_t_sort : Int32) (v_t_value : Int32) (v_t_bookTold : Int32) (v_t_needTold : Int32) (g_t_text : Nat → Int32) (sz : Nat) (R0 : Int32 × Int32 × Int32) (hB : f_X4_readFigures v_t_length v_t_next v_t_place g_t_text = some R0) : Met l yX4_readFigures (.code yX4_readFigures cX4_readFigures 2 none :: GW) rm_X4_readFigures (PcW G cs [.ref a_t] (wd_X4_readFigures cs a_t a_t_text v_t_length v_t_next v_t_place v_t_sort v_t_value v_t_bookTold v_t_needTold g_t_text) sz) (QcV G (va_A (wd_X4_readFigures cs a_t a_t_text v_t_length v_t_next v_t_place v_t_sort v_t_value v_t_bookTold v_t_needTold g_t_text) sz) (wd_X4_readFigures cs a_t a_t_text v_t_length R0.1 v_t_place R0.2.1 R0.2.2 v_t_bookTold v_t_needTold g_t_text)) 0 0 (va_A (wd_X4_readFigures cs a_t a_t_text v_t_length v_t_next v_t_place v_t_sort v_t_value v_t_bookTold v_t_needTold g_t_text) sz) := by
  refine Met.ofW (cc := cX4_readFigures) (maxL := 2) (ret := none) (by decide) rfl ?_
  intro p e s m args below meth c s₁ B hml hv
  obtain ⟨rfl, hsz, hP, hD0, hK, hN⟩ := hv
  have hx := B.exec
  have hb := B.bytes
  have hr := B.returns
  have hts := atoms_spec (ws := .code yX4_readFigures cX4_readFigures 2 none :: GW) B.pre
  have hg : ∀ w ∈ GW, w.before _ s = true := fun w h => hts w (List.mem_cons_of_mem _ h)
  have hown : s.vm.findClass RX4 = some m.cls := findClass_of_methodNamed B.named
  have hlocks := B.notSynchronized
  subst hsz
  have hD := hD0.self (sz := s.heap.size)
  generalize hAe : va_A (wd_X4_readFigures cs a_t a_t_text v_t_length v_t_next v_t_place v_t_sort v_t_value v_t_bookTold v_t_needTold g_t_text) s.heap.size = A at hD ⊢
  have hA : ∀ q : Nat, s.heap.size ≤ q → A q := fun q h => by rw [← hAe]; exact Or.inr h
  have hS : va_S A s.heap s.heap [] := va_S.rf
  have hl := lv_entry ([.ref a_t]) (n := 2) (Nat.le_of_ble_eq_true rfl)
  rw [lg_entry_eq]
  generalize (lg_sl ([.ref a_t]) ++ List.replicate (2 - (lg_sl ([.ref a_t])).length) Slot.unset).toArray = ls at hl ⊢
  have hl : lv_has ls 2 [(0, .ref a_t)] := hl
  obtain ⟨y, hB, hK0⟩ : ∃ y, f_X4_readFigures v_t_length v_t_next v_t_place g_t_text = some y ∧ KEnd R0 y := ⟨R0, hB, rfl⟩
  have hKT := hK
  have hK := hK0
  obtain ⟨H, hHe⟩ : ∃ H, H = s.heap := ⟨_, rfl⟩
  obtain ⟨locs, hLe⟩ : ∃ L : List Loc, L = [] := ⟨_, rfl⟩
  rw [← hHe] at hP
  have hS : va_S A s.heap H locs := by rw [hHe, hLe]; exact hS
  show W p l e rm_X4_readFigures s m ([.ref a_t] : List Value).toArray below meth c s.heap [] 0 0 _ _
  suffices hgo : W p l e rm_X4_readFigures s m ([.ref a_t] : List Value).toArray below meth c H locs 0 0 (MQ below (QcV G A (wd_X4_readFigures cs a_t a_t_text v_t_length R0.1 v_t_place R0.2.1 R0.2.2 v_t_bookTold v_t_needTold g_t_text)) ([.ref a_t] : List Value).toArray s 0 0 A) (F0 m 0 ls []) by rw [hHe, hLe] at hgo; exact hgo
  refine lv_aload_n hx hb dX4_readFigures_0 rfl (lv_at hl 0 rfl) ?_
  refine lv_iconst (v := 0) hx hb dX4_readFigures_1 (by decide) ?_
  refine va_put (D := G) (ci := 4) (v := .int (0 : Int32)) (ty := .int) (C := RX4) (T := TX4) (N := 8) hx hb hg inX4 tyX4 tyX4_ok nmX4 hown hKT hP hD hS 0 rfl rfl 5 (by decide) (hg _ gF_X4_40) (fun _ h9 => h9) rfl (by decide +kernel) rfl rfl (Nat.le_of_ble_eq_true rfl) dX4_readFigures_2 (fun H locs hP hD hS => ?_)
  have hP : va_P G vwCl (wd_X4_readFigures cs a_t a_t_text v_t_length v_t_next v_t_place v_t_sort (0 : Int32) v_t_bookTold v_t_needTold g_t_text) H := hP
  have hD : va_D A (wd_X4_readFigures cs a_t a_t_text v_t_length v_t_next v_t_place v_t_sort (0 : Int32) v_t_bookTold v_t_needTold g_t_text) := hD
  refine lp_ind (Wh := fun (z1 : Int32 × Int32) => ∀ (H : Heap) (locs : List Loc), va_P G vwCl (wd_X4_readFigures cs a_t a_t_text v_t_length z1.1 v_t_place v_t_sort z1.2 v_t_bookTold v_t_needTold g_t_text) H → va_D A (wd_X4_readFigures cs a_t a_t_text v_t_length z1.1 v_t_place v_t_sort z1.2 v_t_bookTold v_t_needTold g_t_text) → va_S A s.heap H locs → ∀ (ls : Array Slot), lv_has ls 2 [(0, .ref a_t)] → W p l e rm_X4_readFigures s m ([.ref a_t] : List Value).toArray below meth c H locs 0 0 (MQ below (QcV G A (wd_X4_readFigures cs a_t a_t_text v_t_length R0.1 v_t_place R0.2.1 R0.2.2 v_t_bookTold v_t_needTold g_t_text)) ([.ref a_t] : List Value).toArray s 0 0 A) (F0 m 5 ls [])) ?_ FU _ _ hB hK H locs hP hD hS ls (lv_sub hl [0] rfl)
  rintro ⟨z1_0, z1_1⟩ y hB hK H locs hP hD hS ls hl
  have hl : lv_has ls 2 [(0, .ref a_t)] := hl
  have hP : va_P G vwCl (wd_X4_readFigures cs a_t a_t_text v_t_length z1_0 v_t_place v_t_sort z1_1 v_t_bookTold v_t_needTold g_t_text) H := hP
  have hD : va_D A (wd_X4_readFigures cs a_t a_t_text v_t_length z1_0 v_t_place v_t_sort z1_1 v_t_bookTold v_t_needTold g_t_text) := hD
  refine lv_aload_n hx hb dX4_readFigures_5 rfl (lv_at hl 0 rfl) ?_
  refine va_get (D := G) (ci := 4) (v := .int z1_0) (C := RX4) (T := TX4) (N := 8) hx hb hg inX4 hown hKT hP 0 rfl rfl 2 (by decide) (hg _ gF_X4_24) (fun _ h9 => h9) rfl dX4_readFigures_6 ?_
  refine lv_aload_n hx hb dX4_readFigures_9 rfl (lv_at hl 0 rfl) ?_
  refine va_get (D := G) (ci := 4) (v := .int v_t_length) (C := RX4) (T := TX4) (N := 8) hx hb hg inX4 hown hKT hP 0 rfl rfl 1 (by decide) (hg _ gF_X4_15) (fun _ h9 => h9) rfl dX4_readFigures_10 ?_
  refine lv_icmp_ge (tgt := 71) hx hb dX4_readFigures_13 (by decide) (fun c_2 => ?_) (fun c_2 => ?_)
  · have hB := ifP c_2 hB
    refine lv_aload_n hx hb dX4_readFigures_71 rfl (lv_at hl 0 rfl) ?_
    refine va_get (D := G) (ci := 4) (v := .int z1_0) (C := RX4) (T := TX4) (N := 8) hx hb hg inX4 hown hKT hP 0 rfl rfl 2 (by decide) (hg _ gF_X4_24) (fun _ h9 => h9) rfl dX4_readFigures_72 ?_
    refine lv_aload_n hx hb dX4_readFigures_75 rfl (lv_at hl 0 rfl) ?_
    refine va_get (D := G) (ci := 4) (v := .int v_t_place) (C := RX4) (T := TX4) (N := 8) hx hb hg inX4 hown hKT hP 0 rfl rfl 3 (by decide) (hg _ gF_X4_59) (fun _ h9 => h9) rfl dX4_readFigures_76 ?_
    refine lv_isub hx hb dX4_readFigures_79 ?_
    refine lv_iconst (v := 1) hx hb dX4_readFigures_80 (by decide) ?_
    refine lv_icmp_le (tgt := 101) hx hb dX4_readFigures_81 (by decide) (fun c_3 => ?_) (fun c_3 => ?_)
    · have hB := ifP c_3 hB
      refine lv_iconst (v := 0) hx hb dX4_readFigures_101 (by decide) ?_
      refine lv_istore_n (lv' := [(1, .int (0 : Int32)), (0, .ref a_t)]) hx hb dX4_readFigures_102 rfl hl (by decide) rfl (fun ls hl => ?_)
      refine lv_aload_n hx hb dX4_readFigures_103 rfl (lv_at hl 1 rfl) ?_
      refine lv_iload_n hx hb dX4_readFigures_104 rfl (lv_at hl 0 rfl) ?_
      refine lv_if_ne (tgt := 117) hx hb dX4_readFigures_105 (by decide) (fun c_4 => ?_) (fun c_4 => ?_)
      · exact absurd c_4 (by decide)
      · refine lv_aload_n hx hb dX4_readFigures_108 rfl (lv_at hl 1 rfl) ?_
        refine va_get (D := G) (ci := 4) (v := .int z1_1) (C := RX4) (T := TX4) (N := 8) hx hb hg inX4 hown hKT hP 0 rfl rfl 5 (by decide) (hg _ gF_X4_40) (fun _ h9 => h9) rfl dX4_readFigures_109 ?_
        refine lv_bipush (v := 99) hx hb dX4_readFigures_112 (by decide) ?_
        refine lv_icmp_le (tgt := 121) hx hb dX4_readFigures_114 (by decide) (fun c_5 => ?_) (fun c_5 => ?_)
        · have hB := ifP c_5 hB
          refine lv_iconst (v := 2) hx hb dX4_readFigures_121 (by decide) ?_
          refine va_put (D := G) (ci := 4) (v := .int (2 : Int32)) (ty := .int) (C := RX4) (T := TX4) (N := 8) hx hb hg inX4 tyX4 tyX4_ok nmX4 hown hKT hP hD hS 0 rfl rfl 4 (by decide) (hg _ gF_X4_37) (fun _ h9 => h9) rfl (by decide +kernel) rfl rfl (Nat.le_of_ble_eq_true rfl) dX4_readFigures_122 (fun H locs hP hD hS => ?_)
          have hP : va_P G vwCl (wd_X4_readFigures cs a_t a_t_text v_t_length z1_0 v_t_place (2 : Int32) z1_1 v_t_bookTold v_t_needTold g_t_text) H := hP
          have hD : va_D A (wd_X4_readFigures cs a_t a_t_text v_t_length z1_0 v_t_place (2 : Int32) z1_1 v_t_bookTold v_t_needTold g_t_text) := hD
          have hK := leafK hB hK
          have hK := elimR hK
          have hK : (z1_0, (2 : Int32), z1_1) = R0 := hK
          subst hK
          exact W.vret hx hb hr (fun t ht hW => ⟨⟨(), rfl, trivial, by rw [ht]; exact hP, hD⟩, hS.F ht⟩) hS.2.2 dX4_readFigures_125
        · have hB := ifN c_5 hB
          refine lv_iconst (v := 4) hx hb dX4_readFigures_117 (by decide) ?_
          refine lv_goto (tgt := 122) hx hb dX4_readFigures_118 (by decide) ?_
          refine va_put (D := G) (ci := 4) (v := .int (4 : Int32)) (ty := .int) (C := RX4) (T := TX4) (N := 8) hx hb hg inX4 tyX4 tyX4_ok nmX4 hown hKT hP hD hS 0 rfl rfl 4 (by decide) (hg _ gF_X4_37) (fun _ h9 => h9) rfl (by decide +kernel) rfl rfl (Nat.le_of_ble_eq_true rfl) dX4_readFigures_122 (fun H locs hP hD hS => ?_)
          have hP : va_P G vwCl (wd_X4_readFigures cs a_t a_t_text v_t_length z1_0 v_t_place (4 : Int32) z1_1 v_t_bookTold v_t_needTold g_t_text) H := hP
          have hD : va_D A (wd_X4_readFigures cs a_t a_t_text v_t_length z1_0 v_t_place (4 : Int32) z1_1 v_t_bookTold v_t_needTold g_t_text) := hD
          have hK := leafK hB hK
          have hK := elimR hK
          have hK : (z1_0, (4 : Int32), z1_1) = R0 := hK
          subst hK
          exact W.vret hx hb hr (fun t ht hW => ⟨⟨(), rfl, trivial, by rw [ht]; exact hP, hD⟩, hS.F ht⟩) hS.2.2 dX4_readFigures_125
    · have hB := ifN c_3 hB
      refine lv_aload_n hx hb dX4_readFigures_84 rfl (lv_at hl 0 rfl) ?_
      refine lv_aload_n hx hb dX4_readFigures_85 rfl (lv_at hl 0 rfl) ?_
      refine va_get (D := G) (ci := 4) (v := .int v_t_place) (C := RX4) (T := TX4) (N := 8) hx hb hg inX4 hown hKT hP 0 rfl rfl 3 (by decide) (hg _ gF_X4_59) (fun _ h9 => h9) rfl dX4_readFigures_86 ?_
      obtain ⟨q6, hq6, hB⟩ := bnd hB
      refine kr_V (WC := wd_X4_byteAt cs a_t a_t_text v_t_length z1_0 v_t_place v_t_sort z1_1 v_t_bookTold v_t_needTold g_t_text) (As := [.int v_t_place]) (rest := []) (r0 := q6) ⟨hx, hb, hml, hown, hg⟩ (k_X4_byteAt l G cs a_t a_t_text v_t_length z1_0 v_t_place v_t_sort z1_1 v_t_bookTold v_t_needTold g_t_text v_t_place q6 hq6) gM_X4_88 mI_X4_byteAt (rmk rfl) hP hKT hN 0 rfl rfl [0, 1] rfl rfl hl.1 rfl (Nat.le_of_ble_eq_true rfl) dX4_readFigures_89 ?_
      refine lv_bipush (v := 48) hx hb dX4_readFigures_92 (by decide) ?_
      refine lv_icmp_ne (tgt := 101) hx hb dX4_readFigures_94 (by decide) (fun c_7 => ?_) (fun c_7 => ?_)
      · have hB := ifN c_7 hB
        refine lv_iconst (v := 0) hx hb dX4_readFigures_101 (by decide) ?_
        refine lv_istore_n (lv' := [(1, .int (0 : Int32)), (0, .ref a_t)]) hx hb dX4_readFigures_102 rfl hl (by decide) rfl (fun ls hl => ?_)
        refine lv_aload_n hx hb dX4_readFigures_103 rfl (lv_at hl 1 rfl) ?_
        refine lv_iload_n hx hb dX4_readFigures_104 rfl (lv_at hl 0 rfl) ?_
        refine lv_if_ne (tgt := 117) hx hb dX4_readFigures_105 (by decide) (fun c_8 => ?_) (fun c_8 => ?_)
        · exact absurd c_8 (by decide)
        · refine lv_aload_n hx hb dX4_readFigures_108 rfl (lv_at hl 1 rfl) ?_
          refine va_get (D := G) (ci := 4) (v := .int z1_1) (C := RX4) (T := TX4) (N := 8) hx hb hg inX4 hown hKT hP 0 rfl rfl 5 (by decide) (hg _ gF_X4_40) (fun _ h9 => h9) rfl dX4_readFigures_109 ?_
          refine lv_bipush (v := 99) hx hb dX4_readFigures_112 (by decide) ?_
          refine lv_icmp_le (tgt := 121) hx hb dX4_readFigures_114 (by decide) (fun c_9 => ?_) (fun c_9 => ?_)
          · have hB := ifP c_9 hB
            refine lv_iconst (v := 2) hx hb dX4_readFigures_121 (by decide) ?_
            refine va_put (D := G) (ci := 4) (v := .int (2 : Int32)) (ty := .int) (C := RX4) (T := TX4) (N := 8) hx hb hg inX4 tyX4 tyX4_ok nmX4 hown hKT hP hD hS 0 rfl rfl 4 (by decide) (hg _ gF_X4_37) (fun _ h9 => h9) rfl (by decide +kernel) rfl rfl (Nat.le_of_ble_eq_true rfl) dX4_readFigures_122 (fun H locs hP hD hS => ?_)
            have hP : va_P G vwCl (wd_X4_readFigures cs a_t a_t_text v_t_length z1_0 v_t_place (2 : Int32) z1_1 v_t_bookTold v_t_needTold g_t_text) H := hP
            have hD : va_D A (wd_X4_readFigures cs a_t a_t_text v_t_length z1_0 v_t_place (2 : Int32) z1_1 v_t_bookTold v_t_needTold g_t_text) := hD
            have hK := leafK hB hK
            have hK := elimR hK
            have hK : (z1_0, (2 : Int32), z1_1) = R0 := hK
            subst hK
            exact W.vret hx hb hr (fun t ht hW => ⟨⟨(), rfl, trivial, by rw [ht]; exact hP, hD⟩, hS.F ht⟩) hS.2.2 dX4_readFigures_125
          · have hB := ifN c_9 hB
            refine lv_iconst (v := 4) hx hb dX4_readFigures_117 (by decide) ?_
            refine lv_goto (tgt := 122) hx hb dX4_readFigures_118 (by decide) ?_
            refine va_put (D := G) (ci := 4) (v := .int (4 : Int32)) (ty := .int) (C := RX4) (T := TX4) (N := 8) hx hb hg inX4 tyX4 tyX4_ok nmX4 hown hKT hP hD hS 0 rfl rfl 4 (by decide) (hg _ gF_X4_37) (fun _ h9 => h9) rfl (by decide +kernel) rfl rfl (Nat.le_of_ble_eq_true rfl) dX4_readFigures_122 (fun H locs hP hD hS => ?_)
            have hP : va_P G vwCl (wd_X4_readFigures cs a_t a_t_text v_t_length z1_0 v_t_place (4 : Int32) z1_1 v_t_bookTold v_t_needTold g_t_text) H := hP
            have hD : va_D A (wd_X4_readFigures cs a_t a_t_text v_t_length z1_0 v_t_place (4 : Int32) z1_1 v_t_bookTold v_t_needTold g_t_text) := hD
            have hK := leafK hB hK
            have hK := elimR hK
            have hK : (z1_0, (4 : Int32), z1_1) = R0 := hK
            subst hK
            exact W.vret hx hb hr (fun t ht hW => ⟨⟨(), rfl, trivial, by rw [ht]; exact hP, hD⟩, hS.F ht⟩) hS.2.2 dX4_readFigures_125
      · have hB := ifP c_7 hB
        refine lv_iconst (v := 1) hx hb dX4_readFigures_97 (by decide) ?_
        refine lv_goto (tgt := 102) hx hb dX4_readFigures_98 (by decide) ?_
        refine lv_istore_n (lv' := [(1, .int (1 : Int32)), (0, .ref a_t)]) hx hb dX4_readFigures_102 rfl hl (by decide) rfl (fun ls hl => ?_)
        refine lv_aload_n hx hb dX4_readFigures_103 rfl (lv_at hl 1 rfl) ?_
        refine lv_iload_n hx hb dX4_readFigures_104 rfl (lv_at hl 0 rfl) ?_
        refine lv_if_ne (tgt := 117) hx hb dX4_readFigures_105 (by decide) (fun c_10 => ?_) (fun c_10 => ?_)
        · refine lv_iconst (v := 4) hx hb dX4_readFigures_117 (by decide) ?_
          refine lv_goto (tgt := 122) hx hb dX4_readFigures_118 (by decide) ?_
          refine va_put (D := G) (ci := 4) (v := .int (4 : Int32)) (ty := .int) (C := RX4) (T := TX4) (N := 8) hx hb hg inX4 tyX4 tyX4_ok nmX4 hown hKT hP hD hS 0 rfl rfl 4 (by decide) (hg _ gF_X4_37) (fun _ h9 => h9) rfl (by decide +kernel) rfl rfl (Nat.le_of_ble_eq_true rfl) dX4_readFigures_122 (fun H locs hP hD hS => ?_)
          have hP : va_P G vwCl (wd_X4_readFigures cs a_t a_t_text v_t_length z1_0 v_t_place (4 : Int32) z1_1 v_t_bookTold v_t_needTold g_t_text) H := hP
          have hD : va_D A (wd_X4_readFigures cs a_t a_t_text v_t_length z1_0 v_t_place (4 : Int32) z1_1 v_t_bookTold v_t_needTold g_t_text) := hD
          have hK := leafK hB hK
          have hK := elimR hK
          have hK : (z1_0, (4 : Int32), z1_1) = R0 := hK
          subst hK
          exact W.vret hx hb hr (fun t ht hW => ⟨⟨(), rfl, trivial, by rw [ht]; exact hP, hD⟩, hS.F ht⟩) hS.2.2 dX4_readFigures_125
        · exact absurd c_10 (by decide)
  · have hB := ifN c_2 hB
    refine lv_aload_n hx hb dX4_readFigures_16 rfl (lv_at hl 0 rfl) ?_
    refine lv_aload_n hx hb dX4_readFigures_17 rfl (lv_at hl 0 rfl) ?_
    refine va_get (D := G) (ci := 4) (v := .int z1_0) (C := RX4) (T := TX4) (N := 8) hx hb hg inX4 hown hKT hP 0 rfl rfl 2 (by decide) (hg _ gF_X4_24) (fun _ h9 => h9) rfl dX4_readFigures_18 ?_
    obtain ⟨q11, hq11, hB⟩ := bnd hB
    refine kr_V (WC := wd_X4_byteAt cs a_t a_t_text v_t_length z1_0 v_t_place v_t_sort z1_1 v_t_bookTold v_t_needTold g_t_text) (As := [.int z1_0]) (rest := []) (r0 := q11) ⟨hx, hb, hml, hown, hg⟩ (k_X4_byteAt l G cs a_t a_t_text v_t_length z1_0 v_t_place v_t_sort z1_1 v_t_bookTold v_t_needTold g_t_text z1_0 q11 hq11) gM_X4_88 mI_X4_byteAt (rmk rfl) hP hKT hN 0 rfl rfl [0, 1] rfl rfl hl.1 rfl (Nat.le_of_ble_eq_true rfl) dX4_readFigures_21 ?_
    obtain ⟨q12, hq12, hB⟩ := bnd hB
    refine kr_S (WC := wd_X4_isFigure cs ) (As := [.int q11]) (rest := []) (r0 := q12) ⟨hx, hb, hml, hown, hg⟩ (k_X4_isFigure l G cs q11 q12 hq12) gM_X4_98 mS_X4_isFigure (rmk rfl) hP hKT hN [] rfl rfl hl.1 rfl (Nat.le_of_ble_eq_true rfl) dX4_readFigures_24 ?_
    refine lv_if_eq (tgt := 71) hx hb dX4_readFigures_27 (by decide) (fun c_13 => ?_) (fun c_13 => ?_)
    · have hB := ifP c_13 hB
      refine lv_aload_n hx hb dX4_readFigures_71 rfl (lv_at hl 0 rfl) ?_
      refine va_get (D := G) (ci := 4) (v := .int z1_0) (C := RX4) (T := TX4) (N := 8) hx hb hg inX4 hown hKT hP 0 rfl rfl 2 (by decide) (hg _ gF_X4_24) (fun _ h9 => h9) rfl dX4_readFigures_72 ?_
      refine lv_aload_n hx hb dX4_readFigures_75 rfl (lv_at hl 0 rfl) ?_
      refine va_get (D := G) (ci := 4) (v := .int v_t_place) (C := RX4) (T := TX4) (N := 8) hx hb hg inX4 hown hKT hP 0 rfl rfl 3 (by decide) (hg _ gF_X4_59) (fun _ h9 => h9) rfl dX4_readFigures_76 ?_
      refine lv_isub hx hb dX4_readFigures_79 ?_
      refine lv_iconst (v := 1) hx hb dX4_readFigures_80 (by decide) ?_
      refine lv_icmp_le (tgt := 101) hx hb dX4_readFigures_81 (by decide) (fun c_14 => ?_) (fun c_14 => ?_)
      · have hB := ifP c_14 hB
        refine lv_iconst (v := 0) hx hb dX4_readFigures_101 (by decide) ?_
        refine lv_istore_n (lv' := [(1, .int (0 : Int32)), (0, .ref a_t)]) hx hb dX4_readFigures_102 rfl hl (by decide) rfl (fun ls hl => ?_)
        refine lv_aload_n hx hb dX4_readFigures_103 rfl (lv_at hl 1 rfl) ?_
        refine lv_iload_n hx hb dX4_readFigures_104 rfl (lv_at hl 0 rfl) ?_
        refine lv_if_ne (tgt := 117) hx hb dX4_readFigures_105 (by decide) (fun c_15 => ?_) (fun c_15 => ?_)
        · exact absurd c_15 (by decide)
        · refine lv_aload_n hx hb dX4_readFigures_108 rfl (lv_at hl 1 rfl) ?_
          refine va_get (D := G) (ci := 4) (v := .int z1_1) (C := RX4) (T := TX4) (N := 8) hx hb hg inX4 hown hKT hP 0 rfl rfl 5 (by decide) (hg _ gF_X4_40) (fun _ h9 => h9) rfl dX4_readFigures_109 ?_
          refine lv_bipush (v := 99) hx hb dX4_readFigures_112 (by decide) ?_
          refine lv_icmp_le (tgt := 121) hx hb dX4_readFigures_114 (by decide) (fun c_16 => ?_) (fun c_16 => ?_)
          · have hB := ifP c_16 hB
            refine lv_iconst (v := 2) hx hb dX4_readFigures_121 (by decide) ?_
            refine va_put (D := G) (ci := 4) (v := .int (2 : Int32)) (ty := .int) (C := RX4) (T := TX4) (N := 8) hx hb hg inX4 tyX4 tyX4_ok nmX4 hown hKT hP hD hS 0 rfl rfl 4 (by decide) (hg _ gF_X4_37) (fun _ h9 => h9) rfl (by decide +kernel) rfl rfl (Nat.le_of_ble_eq_true rfl) dX4_readFigures_122 (fun H locs hP hD hS => ?_)
            have hP : va_P G vwCl (wd_X4_readFigures cs a_t a_t_text v_t_length z1_0 v_t_place (2 : Int32) z1_1 v_t_bookTold v_t_needTold g_t_text) H := hP
            have hD : va_D A (wd_X4_readFigures cs a_t a_t_text v_t_length z1_0 v_t_place (2 : Int32) z1_1 v_t_bookTold v_t_needTold g_t_text) := hD
            have hK := leafK hB hK
            have hK := elimR hK
            have hK : (z1_0, (2 : Int32), z1_1) = R0 := hK
            subst hK
            exact W.vret hx hb hr (fun t ht hW => ⟨⟨(), rfl, trivial, by rw [ht]; exact hP, hD⟩, hS.F ht⟩) hS.2.2 dX4_readFigures_125
          · have hB := ifN c_16 hB
            refine lv_iconst (v := 4) hx hb dX4_readFigures_117 (by decide) ?_
            refine lv_goto (tgt := 122) hx hb dX4_readFigures_118 (by decide) ?_
            refine va_put (D := G) (ci := 4) (v := .int (4 : Int32)) (ty := .int) (C := RX4) (T := TX4) (N := 8) hx hb hg inX4 tyX4 tyX4_ok nmX4 hown hKT hP hD hS 0 rfl rfl 4 (by decide) (hg _ gF_X4_37) (fun _ h9 => h9) rfl (by decide +kernel) rfl rfl (Nat.le_of_ble_eq_true rfl) dX4_readFigures_122 (fun H locs hP hD hS => ?_)
            have hP : va_P G vwCl (wd_X4_readFigures cs a_t a_t_text v_t_length z1_0 v_t_place (4 : Int32) z1_1 v_t_bookTold v_t_needTold g_t_text) H := hP
            have hD : va_D A (wd_X4_readFigures cs a_t a_t_text v_t_length z1_0 v_t_place (4 : Int32) z1_1 v_t_bookTold v_t_needTold g_t_text) := hD
            have hK := leafK hB hK
            have hK := elimR hK
            have hK : (z1_0, (4 : Int32), z1_1) = R0 := hK
            subst hK
            exact W.vret hx hb hr (fun t ht hW => ⟨⟨(), rfl, trivial, by rw [ht]; exact hP, hD⟩, hS.F ht⟩) hS.2.2 dX4_readFigures_125
      · have hB := ifN c_14 hB
        refine lv_aload_n hx hb dX4_readFigures_84 rfl (lv_at hl 0 rfl) ?_
        refine lv_aload_n hx hb dX4_readFigures_85 rfl (lv_at hl 0 rfl) ?_
        refine va_get (D := G) (ci := 4) (v := .int v_t_place) (C := RX4) (T := TX4) (N := 8) hx hb hg inX4 hown hKT hP 0 rfl rfl 3 (by decide) (hg _ gF_X4_59) (fun _ h9 => h9) rfl dX4_readFigures_86 ?_
        obtain ⟨q17, hq17, hB⟩ := bnd hB
        refine kr_V (WC := wd_X4_byteAt cs a_t a_t_text v_t_length z1_0 v_t_place v_t_sort z1_1 v_t_bookTold v_t_needTold g_t_text) (As := [.int v_t_place]) (rest := []) (r0 := q17) ⟨hx, hb, hml, hown, hg⟩ (k_X4_byteAt l G cs a_t a_t_text v_t_length z1_0 v_t_place v_t_sort z1_1 v_t_bookTold v_t_needTold g_t_text v_t_place q17 hq17) gM_X4_88 mI_X4_byteAt (rmk rfl) hP hKT hN 0 rfl rfl [0, 1] rfl rfl hl.1 rfl (Nat.le_of_ble_eq_true rfl) dX4_readFigures_89 ?_
        refine lv_bipush (v := 48) hx hb dX4_readFigures_92 (by decide) ?_
        refine lv_icmp_ne (tgt := 101) hx hb dX4_readFigures_94 (by decide) (fun c_18 => ?_) (fun c_18 => ?_)
        · have hB := ifN c_18 hB
          refine lv_iconst (v := 0) hx hb dX4_readFigures_101 (by decide) ?_
          refine lv_istore_n (lv' := [(1, .int (0 : Int32)), (0, .ref a_t)]) hx hb dX4_readFigures_102 rfl hl (by decide) rfl (fun ls hl => ?_)
          refine lv_aload_n hx hb dX4_readFigures_103 rfl (lv_at hl 1 rfl) ?_
          refine lv_iload_n hx hb dX4_readFigures_104 rfl (lv_at hl 0 rfl) ?_
          refine lv_if_ne (tgt := 117) hx hb dX4_readFigures_105 (by decide) (fun c_19 => ?_) (fun c_19 => ?_)
          · exact absurd c_19 (by decide)
          · refine lv_aload_n hx hb dX4_readFigures_108 rfl (lv_at hl 1 rfl) ?_
            refine va_get (D := G) (ci := 4) (v := .int z1_1) (C := RX4) (T := TX4) (N := 8) hx hb hg inX4 hown hKT hP 0 rfl rfl 5 (by decide) (hg _ gF_X4_40) (fun _ h9 => h9) rfl dX4_readFigures_109 ?_
            refine lv_bipush (v := 99) hx hb dX4_readFigures_112 (by decide) ?_
            refine lv_icmp_le (tgt := 121) hx hb dX4_readFigures_114 (by decide) (fun c_20 => ?_) (fun c_20 => ?_)
            · have hB := ifP c_20 hB
              refine lv_iconst (v := 2) hx hb dX4_readFigures_121 (by decide) ?_
              refine va_put (D := G) (ci := 4) (v := .int (2 : Int32)) (ty := .int) (C := RX4) (T := TX4) (N := 8) hx hb hg inX4 tyX4 tyX4_ok nmX4 hown hKT hP hD hS 0 rfl rfl 4 (by decide) (hg _ gF_X4_37) (fun _ h9 => h9) rfl (by decide +kernel) rfl rfl (Nat.le_of_ble_eq_true rfl) dX4_readFigures_122 (fun H locs hP hD hS => ?_)
              have hP : va_P G vwCl (wd_X4_readFigures cs a_t a_t_text v_t_length z1_0 v_t_place (2 : Int32) z1_1 v_t_bookTold v_t_needTold g_t_text) H := hP
              have hD : va_D A (wd_X4_readFigures cs a_t a_t_text v_t_length z1_0 v_t_place (2 : Int32) z1_1 v_t_bookTold v_t_needTold g_t_text) := hD
              have hK := leafK hB hK
              have hK := elimR hK
              have hK : (z1_0, (2 : Int32), z1_1) = R0 := hK
              subst hK
              exact W.vret hx hb hr (fun t ht hW => ⟨⟨(), rfl, trivial, by rw [ht]; exact hP, hD⟩, hS.F ht⟩) hS.2.2 dX4_readFigures_125
            · have hB := ifN c_20 hB
              refine lv_iconst (v := 4) hx hb dX4_readFigures_117 (by decide) ?_
              refine lv_goto (tgt := 122) hx hb dX4_readFigures_118 (by decide) ?_
              refine va_put (D := G) (ci := 4) (v := .int (4 : Int32)) (ty := .int) (C := RX4) (T := TX4) (N := 8) hx hb hg inX4 tyX4 tyX4_ok nmX4 hown hKT hP hD hS 0 rfl rfl 4 (by decide) (hg _ gF_X4_37) (fun _ h9 => h9) rfl (by decide +kernel) rfl rfl (Nat.le_of_ble_eq_true rfl) dX4_readFigures_122 (fun H locs hP hD hS => ?_)
              have hP : va_P G vwCl (wd_X4_readFigures cs a_t a_t_text v_t_length z1_0 v_t_place (4 : Int32) z1_1 v_t_bookTold v_t_needTold g_t_text) H := hP
              have hD : va_D A (wd_X4_readFigures cs a_t a_t_text v_t_length z1_0 v_t_place (4 : Int32) z1_1 v_t_bookTold v_t_needTold g_t_text) := hD
              have hK := leafK hB hK
              have hK := elimR hK
              have hK : (z1_0, (4 : Int32), z1_1) = R0 := hK
              subst hK
              exact W.vret hx hb hr (fun t ht hW => ⟨⟨(), rfl, trivial, by rw [ht]; exact hP, hD⟩, hS.F ht⟩) hS.2.2 dX4_readFigures_125
        · have hB := ifP c_18 hB
          refine lv_iconst (v := 1) hx hb dX4_readFigures_97 (by decide) ?_
          refine lv_goto (tgt := 102) hx hb dX4_readFigures_98 (by decide) ?_
          refine lv_istore_n (lv' := [(1, .int (1 : Int32)), (0, .ref a_t)]) hx hb dX4_readFigures_102 rfl hl (by decide) rfl (fun ls hl => ?_)
          refine lv_aload_n hx hb dX4_readFigures_103 rfl (lv_at hl 1 rfl) ?_
          refine lv_iload_n hx hb dX4_readFigures_104 rfl (lv_at hl 0 rfl) ?_
          refine lv_if_ne (tgt := 117) hx hb dX4_readFigures_105 (by decide) (fun c_21 => ?_) (fun c_21 => ?_)
          · refine lv_iconst (v := 4) hx hb dX4_readFigures_117 (by decide) ?_
            refine lv_goto (tgt := 122) hx hb dX4_readFigures_118 (by decide) ?_
            refine va_put (D := G) (ci := 4) (v := .int (4 : Int32)) (ty := .int) (C := RX4) (T := TX4) (N := 8) hx hb hg inX4 tyX4 tyX4_ok nmX4 hown hKT hP hD hS 0 rfl rfl 4 (by decide) (hg _ gF_X4_37) (fun _ h9 => h9) rfl (by decide +kernel) rfl rfl (Nat.le_of_ble_eq_true rfl) dX4_readFigures_122 (fun H locs hP hD hS => ?_)
            have hP : va_P G vwCl (wd_X4_readFigures cs a_t a_t_text v_t_length z1_0 v_t_place (4 : Int32) z1_1 v_t_bookTold v_t_needTold g_t_text) H := hP
            have hD : va_D A (wd_X4_readFigures cs a_t a_t_text v_t_length z1_0 v_t_place (4 : Int32) z1_1 v_t_bookTold v_t_needTold g_t_text) := hD
            have hK := leafK hB hK
            have hK := elimR hK
            have hK : (z1_0, (4 : Int32), z1_1) = R0 := hK
            subst hK
            exact W.vret hx hb hr (fun t ht hW => ⟨⟨(), rfl, trivial, by rw [ht]; exact hP, hD⟩, hS.F ht⟩) hS.2.2 dX4_readFigures_125
          · exact absurd c_21 (by decide)
    · have hB := ifN c_13 hB
      refine lv_aload_n hx hb dX4_readFigures_30 rfl (lv_at hl 0 rfl) ?_
      refine lv_aload_n hx hb dX4_readFigures_31 rfl (lv_at hl 0 rfl) ?_
      refine va_get (D := G) (ci := 4) (v := .int z1_1) (C := RX4) (T := TX4) (N := 8) hx hb hg inX4 hown hKT hP 0 rfl rfl 5 (by decide) (hg _ gF_X4_40) (fun _ h9 => h9) rfl dX4_readFigures_32 ?_
      refine lv_bipush (v := 10) hx hb dX4_readFigures_35 (by decide) ?_
      refine lv_imul hx hb dX4_readFigures_37 ?_
      refine lv_aload_n hx hb dX4_readFigures_38 rfl (lv_at hl 0 rfl) ?_
      refine lv_aload_n hx hb dX4_readFigures_39 rfl (lv_at hl 0 rfl) ?_
      refine va_get (D := G) (ci := 4) (v := .int z1_0) (C := RX4) (T := TX4) (N := 8) hx hb hg inX4 hown hKT hP 0 rfl rfl 2 (by decide) (hg _ gF_X4_24) (fun _ h9 => h9) rfl dX4_readFigures_40 ?_
      obtain ⟨q22, hq22, hB⟩ := bnd hB
      refine kr_V (WC := wd_X4_byteAt cs a_t a_t_text v_t_length z1_0 v_t_place v_t_sort z1_1 v_t_bookTold v_t_needTold g_t_text) (As := [.int z1_0]) (rest := [.int (z1_1 * (10 : Int32)), .ref a_t]) (r0 := q22) ⟨hx, hb, hml, hown, hg⟩ (k_X4_byteAt l G cs a_t a_t_text v_t_length z1_0 v_t_place v_t_sort z1_1 v_t_bookTold v_t_needTold g_t_text z1_0 q22 hq22) gM_X4_88 mI_X4_byteAt (rmk rfl) hP hKT hN 0 rfl rfl [0, 1] rfl rfl hl.1 rfl (Nat.le_of_ble_eq_true rfl) dX4_readFigures_43 ?_
      refine lv_iadd hx hb dX4_readFigures_46 ?_
      refine lv_bipush (v := 48) hx hb dX4_readFigures_47 (by decide) ?_
      refine lv_isub hx hb dX4_readFigures_49 ?_
      refine lv_bipush (v := 100) hx hb dX4_readFigures_50 (by decide) ?_
      refine va_mmin hx hb (hml.trans hl.1.symm) hown (hg _ gM_X4_104) (hg _ gS_J9_min_7cf53) (hg _ gN_J9) (hg _ gC_J9_min_7cf53) (Nat.le_of_ble_eq_true rfl) (Nat.le_of_ble_eq_true rfl) (Nat.zero_le _) (Nat.zero_le _) dX4_readFigures_52 ?_
      refine va_put (D := G) (ci := 4) (v := .int (if (100 : Int32) < (((z1_1 * (10 : Int32)) + q22) - (48 : Int32)) then (100 : Int32) else ((z1_1 * (10 : Int32)) + q22) - (48 : Int32))) (ty := .int) (C := RX4) (T := TX4) (N := 8) hx hb hg inX4 tyX4 tyX4_ok nmX4 hown hKT hP hD hS 0 rfl rfl 5 (by decide) (hg _ gF_X4_40) (fun _ h9 => h9) rfl (by decide +kernel) rfl rfl (Nat.le_of_ble_eq_true rfl) dX4_readFigures_55 (fun H locs hP hD hS => ?_)
      have hP : va_P G vwCl (wd_X4_readFigures cs a_t a_t_text v_t_length z1_0 v_t_place v_t_sort (if (100 : Int32) < (((z1_1 * (10 : Int32)) + q22) - (48 : Int32)) then (100 : Int32) else ((z1_1 * (10 : Int32)) + q22) - (48 : Int32)) v_t_bookTold v_t_needTold g_t_text) H := hP
      have hD : va_D A (wd_X4_readFigures cs a_t a_t_text v_t_length z1_0 v_t_place v_t_sort (if (100 : Int32) < (((z1_1 * (10 : Int32)) + q22) - (48 : Int32)) then (100 : Int32) else ((z1_1 * (10 : Int32)) + q22) - (48 : Int32)) v_t_bookTold v_t_needTold g_t_text) := hD
      refine lv_aload_n hx hb dX4_readFigures_58 rfl (lv_at hl 0 rfl) ?_
      refine lv_dup hx hb dX4_readFigures_59 rfl ?_
      refine va_get (D := G) (ci := 4) (v := .int z1_0) (C := RX4) (T := TX4) (N := 8) hx hb hg inX4 hown hKT hP 0 rfl rfl 2 (by decide) (hg _ gF_X4_24) (fun _ h9 => h9) rfl dX4_readFigures_60 ?_
      refine lv_iconst (v := 1) hx hb dX4_readFigures_63 (by decide) ?_
      refine lv_iadd hx hb dX4_readFigures_64 ?_
      refine va_put (D := G) (ci := 4) (v := .int (z1_0 + (1 : Int32))) (ty := .int) (C := RX4) (T := TX4) (N := 8) hx hb hg inX4 tyX4 tyX4_ok nmX4 hown hKT hP hD hS 0 rfl rfl 2 (by decide) (hg _ gF_X4_24) (fun _ h9 => h9) rfl (by decide +kernel) rfl rfl (Nat.le_of_ble_eq_true rfl) dX4_readFigures_65 (fun H locs hP hD hS => ?_)
      have hP : va_P G vwCl (wd_X4_readFigures cs a_t a_t_text v_t_length (z1_0 + (1 : Int32)) v_t_place v_t_sort (if (100 : Int32) < (((z1_1 * (10 : Int32)) + q22) - (48 : Int32)) then (100 : Int32) else ((z1_1 * (10 : Int32)) + q22) - (48 : Int32)) v_t_bookTold v_t_needTold g_t_text) H := hP
      have hD : va_D A (wd_X4_readFigures cs a_t a_t_text v_t_length (z1_0 + (1 : Int32)) v_t_place v_t_sort (if (100 : Int32) < (((z1_1 * (10 : Int32)) + q22) - (48 : Int32)) then (100 : Int32) else ((z1_1 * (10 : Int32)) + q22) - (48 : Int32)) v_t_bookTold v_t_needTold g_t_text) := hD
      refine lv_goto (tgt := 5) hx hb dX4_readFigures_68 (by decide) ?_
      have hK := leafK hB hK
      have hK := elimL hK
      exact hK H locs hP hD hS ls (lv_sub hl [0] rfl)
def wd_X4_readToken (cs : Nat → ClassId) (a_t a_t_text : Nat) (v_t_length : Int32) (v_t_next : Int32) (v_t_place : Int32) (v_t_sort : Int32) (v_t_value : Int32) (v_t_bookTold : Int32) (v_t_needTold : Int32) (g_t_text : Nat → Int32) : va_W := [(a_t, .inr (4, [.ref a_t_text, .int v_t_length, .int v_t_next, .int v_t_place, .int v_t_sort, .int v_t_value, .int v_t_bookTold, .int v_t_needTold])), (a_t_text, .inl (cs 0, 120, .inl g_t_text))]
def rm_X4_readToken : Room := { frames := 2, cells := 0, slots := 0, locals := 51 }
theorem mI_X4_readToken : MI yX4_readToken RX4 cX4_readToken 2 none 0 := ⟨gI_X4_readToken, gE_X4_readToken, gN_X4, gC_X4_readToken, by decide +kernel⟩
set_option maxHeartbeats 4000000 in
set_option maxRecDepth 100000 in
theorem k_X4_readToken (l : Launch) (G : va_G) (cs : Nat → ClassId) (a_t a_t_text : Nat) (v_t_length : Int32) (v_t_next : Int32) (v_t_place : Int32) (v_t_sort : Int32) (v_t_value : Int32) (v_t_bookTold : Int32) (v_t_needTold : Int32) (g_t_text : Nat → Int32) (sz : Nat) (R0 : Int32 × Int32 × Int32 × Int32) (hB : f_X4_readToken v_t_length v_t_next v_t_value g_t_text = some R0) : Met l yX4_readToken (.code yX4_readToken cX4_readToken 2 none :: GW) rm_X4_readToken (PcW G cs [.ref a_t] (wd_X4_readToken cs a_t a_t_text v_t_length v_t_next v_t_place v_t_sort v_t_value v_t_bookTold v_t_needTold g_t_text) sz) (QcV G (va_A (wd_X4_readToken cs a_t a_t_text v_t_length v_t_next v_t_place v_t_sort v_t_value v_t_bookTold v_t_needTold g_t_text) sz) (wd_X4_readToken cs a_t a_t_text v_t_length R0.1 R0.2.1 R0.2.2.1 R0.2.2.2 v_t_bookTold v_t_needTold g_t_text)) 0 0 (va_A (wd_X4_readToken cs a_t a_t_text v_t_length v_t_next v_t_place v_t_sort v_t_value v_t_bookTold v_t_needTold g_t_text) sz) := by
  refine Met.ofW (cc := cX4_readToken) (maxL := 2) (ret := none) (by decide) rfl ?_
  intro p e s m args below meth c s₁ B hml hv
  obtain ⟨rfl, hsz, hP, hD0, hK, hN⟩ := hv
  have hx := B.exec
  have hb := B.bytes
  have hr := B.returns
  have hts := atoms_spec (ws := .code yX4_readToken cX4_readToken 2 none :: GW) B.pre
  have hg : ∀ w ∈ GW, w.before _ s = true := fun w h => hts w (List.mem_cons_of_mem _ h)
  have hown : s.vm.findClass RX4 = some m.cls := findClass_of_methodNamed B.named
  have hlocks := B.notSynchronized
  subst hsz
  have hD := hD0.self (sz := s.heap.size)
  generalize hAe : va_A (wd_X4_readToken cs a_t a_t_text v_t_length v_t_next v_t_place v_t_sort v_t_value v_t_bookTold v_t_needTold g_t_text) s.heap.size = A at hD ⊢
  have hA : ∀ q : Nat, s.heap.size ≤ q → A q := fun q h => by rw [← hAe]; exact Or.inr h
  have hS : va_S A s.heap s.heap [] := va_S.rf
  have hl := lv_entry ([.ref a_t]) (n := 2) (Nat.le_of_ble_eq_true rfl)
  rw [lg_entry_eq]
  generalize (lg_sl ([.ref a_t]) ++ List.replicate (2 - (lg_sl ([.ref a_t])).length) Slot.unset).toArray = ls at hl ⊢
  have hl : lv_has ls 2 [(0, .ref a_t)] := hl
  obtain ⟨y, hB, hK0⟩ : ∃ y, f_X4_readToken v_t_length v_t_next v_t_value g_t_text = some y ∧ KEnd R0 y := ⟨R0, hB, rfl⟩
  have hKT := hK
  have hK := hK0
  obtain ⟨H, hHe⟩ : ∃ H, H = s.heap := ⟨_, rfl⟩
  obtain ⟨locs, hLe⟩ : ∃ L : List Loc, L = [] := ⟨_, rfl⟩
  rw [← hHe] at hP
  have hS : va_S A s.heap H locs := by rw [hHe, hLe]; exact hS
  show W p l e rm_X4_readToken s m ([.ref a_t] : List Value).toArray below meth c s.heap [] 0 0 _ _
  suffices hgo : W p l e rm_X4_readToken s m ([.ref a_t] : List Value).toArray below meth c H locs 0 0 (MQ below (QcV G A (wd_X4_readToken cs a_t a_t_text v_t_length R0.1 R0.2.1 R0.2.2.1 R0.2.2.2 v_t_bookTold v_t_needTold g_t_text)) ([.ref a_t] : List Value).toArray s 0 0 A) (F0 m 0 ls []) by rw [hHe, hLe] at hgo; exact hgo
  refine lp_ind (Wh := fun (z1 : Int32) => ∀ (H : Heap) (locs : List Loc), va_P G vwCl (wd_X4_readToken cs a_t a_t_text v_t_length z1 v_t_place v_t_sort v_t_value v_t_bookTold v_t_needTold g_t_text) H → va_D A (wd_X4_readToken cs a_t a_t_text v_t_length z1 v_t_place v_t_sort v_t_value v_t_bookTold v_t_needTold g_t_text) → va_S A s.heap H locs → ∀ (ls : Array Slot), lv_has ls 2 [(0, .ref a_t)] → W p l e rm_X4_readToken s m ([.ref a_t] : List Value).toArray below meth c H locs 0 0 (MQ below (QcV G A (wd_X4_readToken cs a_t a_t_text v_t_length R0.1 R0.2.1 R0.2.2.1 R0.2.2.2 v_t_bookTold v_t_needTold g_t_text)) ([.ref a_t] : List Value).toArray s 0 0 A) (F0 m 0 ls [])) ?_ FU _ _ hB hK H locs hP hD hS ls (lv_sub hl [0] rfl)
  rintro z1 y hB hK H locs hP hD hS ls hl
  have hl : lv_has ls 2 [(0, .ref a_t)] := hl
  have hP : va_P G vwCl (wd_X4_readToken cs a_t a_t_text v_t_length z1 v_t_place v_t_sort v_t_value v_t_bookTold v_t_needTold g_t_text) H := hP
  have hD : va_D A (wd_X4_readToken cs a_t a_t_text v_t_length z1 v_t_place v_t_sort v_t_value v_t_bookTold v_t_needTold g_t_text) := hD
  refine lv_aload_n hx hb dX4_readToken_0 rfl (lv_at hl 0 rfl) ?_
  refine va_get (D := G) (ci := 4) (v := .int z1) (C := RX4) (T := TX4) (N := 8) hx hb hg inX4 hown hKT hP 0 rfl rfl 2 (by decide) (hg _ gF_X4_24) (fun _ h9 => h9) rfl dX4_readToken_1 ?_
  refine lv_aload_n hx hb dX4_readToken_4 rfl (lv_at hl 0 rfl) ?_
  refine va_get (D := G) (ci := 4) (v := .int v_t_length) (C := RX4) (T := TX4) (N := 8) hx hb hg inX4 hown hKT hP 0 rfl rfl 1 (by decide) (hg _ gF_X4_15) (fun _ h9 => h9) rfl dX4_readToken_5 ?_
  refine lv_icmp_ge (tgt := 37) hx hb dX4_readToken_8 (by decide) (fun c_2 => ?_) (fun c_2 => ?_)
  · have hB := ifP c_2 hB
    refine lv_aload_n hx hb dX4_readToken_37 rfl (lv_at hl 0 rfl) ?_
    refine lv_aload_n hx hb dX4_readToken_38 rfl (lv_at hl 0 rfl) ?_
    refine va_get (D := G) (ci := 4) (v := .int z1) (C := RX4) (T := TX4) (N := 8) hx hb hg inX4 hown hKT hP 0 rfl rfl 2 (by decide) (hg _ gF_X4_24) (fun _ h9 => h9) rfl dX4_readToken_39 ?_
    refine va_put (D := G) (ci := 4) (v := .int z1) (ty := .int) (C := RX4) (T := TX4) (N := 8) hx hb hg inX4 tyX4 tyX4_ok nmX4 hown hKT hP hD hS 0 rfl rfl 3 (by decide) (hg _ gF_X4_59) (fun _ h9 => h9) rfl (by decide +kernel) rfl rfl (Nat.le_of_ble_eq_true rfl) dX4_readToken_42 (fun H locs hP hD hS => ?_)
    have hP : va_P G vwCl (wd_X4_readToken cs a_t a_t_text v_t_length z1 z1 v_t_sort v_t_value v_t_bookTold v_t_needTold g_t_text) H := hP
    have hD : va_D A (wd_X4_readToken cs a_t a_t_text v_t_length z1 z1 v_t_sort v_t_value v_t_bookTold v_t_needTold g_t_text) := hD
    refine lv_aload_n hx hb dX4_readToken_45 rfl (lv_at hl 0 rfl) ?_
    refine lv_aload_n hx hb dX4_readToken_46 rfl (lv_at hl 0 rfl) ?_
    refine va_get (D := G) (ci := 4) (v := .int z1) (C := RX4) (T := TX4) (N := 8) hx hb hg inX4 hown hKT hP 0 rfl rfl 2 (by decide) (hg _ gF_X4_24) (fun _ h9 => h9) rfl dX4_readToken_47 ?_
    obtain ⟨q3, hq3, hB⟩ := bnd hB
    refine kr_V (WC := wd_X4_byteAt cs a_t a_t_text v_t_length z1 z1 v_t_sort v_t_value v_t_bookTold v_t_needTold g_t_text) (As := [.int z1]) (rest := []) (r0 := q3) ⟨hx, hb, hml, hown, hg⟩ (k_X4_byteAt l G cs a_t a_t_text v_t_length z1 z1 v_t_sort v_t_value v_t_bookTold v_t_needTold g_t_text z1 q3 hq3) gM_X4_88 mI_X4_byteAt (rmk rfl) hP hKT hN 0 rfl rfl [0, 1] rfl rfl hl.1 rfl (Nat.le_of_ble_eq_true rfl) dX4_readToken_50 ?_
    refine lv_istore_n (lv' := [(1, .int q3), (0, .ref a_t)]) hx hb dX4_readToken_53 rfl hl (by decide) rfl (fun ls hl => ?_)
    refine lv_iload_n hx hb dX4_readToken_54 rfl (lv_at hl 0 rfl) ?_
    obtain ⟨q4, hq4, hB⟩ := bnd hB
    refine kr_S (WC := wd_X4_isLetter cs ) (As := [.int q3]) (rest := []) (r0 := q4) ⟨hx, hb, hml, hown, hg⟩ (k_X4_isLetter l G cs q3 q4 hq4) gM_X4_92 mS_X4_isLetter (rmk rfl) hP hKT hN [] rfl rfl hl.1 rfl (Nat.le_of_ble_eq_true rfl) dX4_readToken_55 ?_
    refine lv_if_eq (tgt := 68) hx hb dX4_readToken_58 (by decide) (fun c_5 => ?_) (fun c_5 => ?_)
    · have hB := ifP c_5 hB
      refine lv_iload_n hx hb dX4_readToken_68 rfl (lv_at hl 0 rfl) ?_
      obtain ⟨q6, hq6, hB⟩ := bnd hB
      refine kr_S (WC := wd_X4_isFigure cs ) (As := [.int q3]) (rest := []) (r0 := q6) ⟨hx, hb, hml, hown, hg⟩ (k_X4_isFigure l G cs q3 q6 hq6) gM_X4_98 mS_X4_isFigure (rmk rfl) hP hKT hN [] rfl rfl hl.1 rfl (Nat.le_of_ble_eq_true rfl) dX4_readToken_69 ?_
      refine lv_if_eq (tgt := 82) hx hb dX4_readToken_72 (by decide) (fun c_7 => ?_) (fun c_7 => ?_)
      · have hB := ifP c_7 hB
        refine lv_iload_n hx hb dX4_readToken_82 rfl (lv_at hl 0 rfl) ?_
        refine lv_bipush (v := 59) hx hb dX4_readToken_83 (by decide) ?_
        refine lv_icmp_ne (tgt := 106) hx hb dX4_readToken_85 (by decide) (fun c_8 => ?_) (fun c_8 => ?_)
        · have hB := ifN c_8 hB
          refine lv_aload_n hx hb dX4_readToken_106 rfl (lv_at hl 1 rfl) ?_
          refine lv_iload_n hx hb dX4_readToken_107 rfl (lv_at hl 0 rfl) ?_
          refine lv_if_ge (tgt := 115) hx hb dX4_readToken_108 (by decide) (fun c_9 => ?_) (fun c_9 => ?_)
          · have hB := ifP c_9 hB
            refine lv_iconst (v := 4) hx hb dX4_readToken_115 (by decide) ?_
            refine va_put (D := G) (ci := 4) (v := .int (4 : Int32)) (ty := .int) (C := RX4) (T := TX4) (N := 8) hx hb hg inX4 tyX4 tyX4_ok nmX4 hown hKT hP hD hS 0 rfl rfl 4 (by decide) (hg _ gF_X4_37) (fun _ h9 => h9) rfl (by decide +kernel) rfl rfl (Nat.le_of_ble_eq_true rfl) dX4_readToken_116 (fun H locs hP hD hS => ?_)
            have hP : va_P G vwCl (wd_X4_readToken cs a_t a_t_text v_t_length z1 z1 (4 : Int32) v_t_value v_t_bookTold v_t_needTold g_t_text) H := hP
            have hD : va_D A (wd_X4_readToken cs a_t a_t_text v_t_length z1 z1 (4 : Int32) v_t_value v_t_bookTold v_t_needTold g_t_text) := hD
            have hK := leafK hB hK
            have hK := elimR hK
            have hK : (z1, z1, (4 : Int32), v_t_value) = R0 := hK
            subst hK
            exact W.vret hx hb hr (fun t ht hW => ⟨⟨(), rfl, trivial, by rw [ht]; exact hP, hD⟩, hS.F ht⟩) hS.2.2 dX4_readToken_119
          · have hB := ifN c_9 hB
            refine lv_iconst (v := 0) hx hb dX4_readToken_111 (by decide) ?_
            refine lv_goto (tgt := 116) hx hb dX4_readToken_112 (by decide) ?_
            refine va_put (D := G) (ci := 4) (v := .int (0 : Int32)) (ty := .int) (C := RX4) (T := TX4) (N := 8) hx hb hg inX4 tyX4 tyX4_ok nmX4 hown hKT hP hD hS 0 rfl rfl 4 (by decide) (hg _ gF_X4_37) (fun _ h9 => h9) rfl (by decide +kernel) rfl rfl (Nat.le_of_ble_eq_true rfl) dX4_readToken_116 (fun H locs hP hD hS => ?_)
            have hP : va_P G vwCl (wd_X4_readToken cs a_t a_t_text v_t_length z1 z1 (0 : Int32) v_t_value v_t_bookTold v_t_needTold g_t_text) H := hP
            have hD : va_D A (wd_X4_readToken cs a_t a_t_text v_t_length z1 z1 (0 : Int32) v_t_value v_t_bookTold v_t_needTold g_t_text) := hD
            have hK := leafK hB hK
            have hK := elimR hK
            have hK : (z1, z1, (0 : Int32), v_t_value) = R0 := hK
            subst hK
            exact W.vret hx hb hr (fun t ht hW => ⟨⟨(), rfl, trivial, by rw [ht]; exact hP, hD⟩, hS.F ht⟩) hS.2.2 dX4_readToken_119
        · have hB := ifP c_8 hB
          refine lv_aload_n hx hb dX4_readToken_88 rfl (lv_at hl 1 rfl) ?_
          refine lv_dup hx hb dX4_readToken_89 rfl ?_
          refine va_get (D := G) (ci := 4) (v := .int z1) (C := RX4) (T := TX4) (N := 8) hx hb hg inX4 hown hKT hP 0 rfl rfl 2 (by decide) (hg _ gF_X4_24) (fun _ h9 => h9) rfl dX4_readToken_90 ?_
          refine lv_iconst (v := 1) hx hb dX4_readToken_93 (by decide) ?_
          refine lv_iadd hx hb dX4_readToken_94 ?_
          refine va_put (D := G) (ci := 4) (v := .int (z1 + (1 : Int32))) (ty := .int) (C := RX4) (T := TX4) (N := 8) hx hb hg inX4 tyX4 tyX4_ok nmX4 hown hKT hP hD hS 0 rfl rfl 2 (by decide) (hg _ gF_X4_24) (fun _ h9 => h9) rfl (by decide +kernel) rfl rfl (Nat.le_of_ble_eq_true rfl) dX4_readToken_95 (fun H locs hP hD hS => ?_)
          have hP : va_P G vwCl (wd_X4_readToken cs a_t a_t_text v_t_length (z1 + (1 : Int32)) z1 v_t_sort v_t_value v_t_bookTold v_t_needTold g_t_text) H := hP
          have hD : va_D A (wd_X4_readToken cs a_t a_t_text v_t_length (z1 + (1 : Int32)) z1 v_t_sort v_t_value v_t_bookTold v_t_needTold g_t_text) := hD
          refine lv_aload_n hx hb dX4_readToken_98 rfl (lv_at hl 1 rfl) ?_
          refine lv_iconst (v := 3) hx hb dX4_readToken_99 (by decide) ?_
          refine va_put (D := G) (ci := 4) (v := .int (3 : Int32)) (ty := .int) (C := RX4) (T := TX4) (N := 8) hx hb hg inX4 tyX4 tyX4_ok nmX4 hown hKT hP hD hS 0 rfl rfl 4 (by decide) (hg _ gF_X4_37) (fun _ h9 => h9) rfl (by decide +kernel) rfl rfl (Nat.le_of_ble_eq_true rfl) dX4_readToken_100 (fun H locs hP hD hS => ?_)
          have hP : va_P G vwCl (wd_X4_readToken cs a_t a_t_text v_t_length (z1 + (1 : Int32)) z1 (3 : Int32) v_t_value v_t_bookTold v_t_needTold g_t_text) H := hP
          have hD : va_D A (wd_X4_readToken cs a_t a_t_text v_t_length (z1 + (1 : Int32)) z1 (3 : Int32) v_t_value v_t_bookTold v_t_needTold g_t_text) := hD
          refine lv_goto (tgt := 119) hx hb dX4_readToken_103 (by decide) ?_
          have hK := leafK hB hK
          have hK := elimR hK
          have hK : (z1 + (1 : Int32), z1, (3 : Int32), v_t_value) = R0 := hK
          subst hK
          exact W.vret hx hb hr (fun t ht hW => ⟨⟨(), rfl, trivial, by rw [ht]; exact hP, hD⟩, hS.F ht⟩) hS.2.2 dX4_readToken_119
      · have hB := ifN c_7 hB
        refine lv_aload_n hx hb dX4_readToken_75 rfl (lv_at hl 1 rfl) ?_
        obtain ⟨⟨q10_0, q10_1, q10_2⟩, hq10, hB⟩ := bnd hB
        refine kw_v (WC := wd_X4_readFigures cs a_t a_t_text v_t_length z1 z1 v_t_sort v_t_value v_t_bookTold v_t_needTold g_t_text) (W1 := wd_X4_readFigures cs a_t a_t_text v_t_length q10_0 z1 q10_1 q10_2 v_t_bookTold v_t_needTold g_t_text) (W2 := wd_X4_readToken cs a_t a_t_text v_t_length q10_0 z1 q10_1 q10_2 v_t_bookTold v_t_needTold g_t_text) (rw_V (As := []) (rest := []) ⟨hx, hb, hml, hown, hg⟩ (k_X4_readFigures l G cs a_t a_t_text v_t_length z1 z1 v_t_sort v_t_value v_t_bookTold v_t_needTold g_t_text H.size (q10_0, q10_1, q10_2) hq10) gM_X4_101 mI_X4_readFigures (rmk rfl) hP hD hKT hN 0 rfl rfl [0, 1] rfl rfl rfl hl.1 rfl (Nat.le_of_ble_eq_true rfl) dX4_readToken_76) hP hD hS hA [0, 1] [] [0, 1] ⟨rfl, rfl, rfl, rfl, rfl, rfl, rfl⟩ (fun H locs hP hD hS => ?_)
        refine lv_goto (tgt := 119) hx hb dX4_readToken_79 (by decide) ?_
        have hK := leafK hB hK
        have hK := elimR hK
        have hK : (q10_0, z1, q10_1, q10_2) = R0 := hK
        subst hK
        exact W.vret hx hb hr (fun t ht hW => ⟨⟨(), rfl, trivial, by rw [ht]; exact hP, hD⟩, hS.F ht⟩) hS.2.2 dX4_readToken_119
    · have hB := ifN c_5 hB
      refine lv_aload_n hx hb dX4_readToken_61 rfl (lv_at hl 1 rfl) ?_
      obtain ⟨⟨q11_0, q11_1, q11_2⟩, hq11, hB⟩ := bnd hB
      refine kw_v (WC := wd_X4_readLetters cs a_t a_t_text v_t_length z1 z1 v_t_sort v_t_value v_t_bookTold v_t_needTold g_t_text) (W1 := wd_X4_readLetters cs a_t a_t_text v_t_length q11_0 z1 q11_1 q11_2 v_t_bookTold v_t_needTold g_t_text) (W2 := wd_X4_readToken cs a_t a_t_text v_t_length q11_0 z1 q11_1 q11_2 v_t_bookTold v_t_needTold g_t_text) (rw_V (As := []) (rest := []) ⟨hx, hb, hml, hown, hg⟩ (k_X4_readLetters l G cs a_t a_t_text v_t_length z1 z1 v_t_sort v_t_value v_t_bookTold v_t_needTold g_t_text H.size (q11_0, q11_1, q11_2) hq11) gM_X4_95 mI_X4_readLetters (rmk rfl) hP hD hKT hN 0 rfl rfl [0, 1] rfl rfl rfl hl.1 rfl (Nat.le_of_ble_eq_true rfl) dX4_readToken_62) hP hD hS hA [0, 1] [] [0, 1] ⟨rfl, rfl, rfl, rfl, rfl, rfl, rfl⟩ (fun H locs hP hD hS => ?_)
      refine lv_goto (tgt := 119) hx hb dX4_readToken_65 (by decide) ?_
      have hK := leafK hB hK
      have hK := elimR hK
      have hK : (q11_0, z1, q11_1, q11_2) = R0 := hK
      subst hK
      exact W.vret hx hb hr (fun t ht hW => ⟨⟨(), rfl, trivial, by rw [ht]; exact hP, hD⟩, hS.F ht⟩) hS.2.2 dX4_readToken_119
  · have hB := ifN c_2 hB
    refine lv_aload_n hx hb dX4_readToken_11 rfl (lv_at hl 0 rfl) ?_
    refine lv_aload_n hx hb dX4_readToken_12 rfl (lv_at hl 0 rfl) ?_
    refine va_get (D := G) (ci := 4) (v := .int z1) (C := RX4) (T := TX4) (N := 8) hx hb hg inX4 hown hKT hP 0 rfl rfl 2 (by decide) (hg _ gF_X4_24) (fun _ h9 => h9) rfl dX4_readToken_13 ?_
    obtain ⟨q12, hq12, hB⟩ := bnd hB
    refine kr_V (WC := wd_X4_byteAt cs a_t a_t_text v_t_length z1 v_t_place v_t_sort v_t_value v_t_bookTold v_t_needTold g_t_text) (As := [.int z1]) (rest := []) (r0 := q12) ⟨hx, hb, hml, hown, hg⟩ (k_X4_byteAt l G cs a_t a_t_text v_t_length z1 v_t_place v_t_sort v_t_value v_t_bookTold v_t_needTold g_t_text z1 q12 hq12) gM_X4_88 mI_X4_byteAt (rmk rfl) hP hKT hN 0 rfl rfl [0, 1] rfl rfl hl.1 rfl (Nat.le_of_ble_eq_true rfl) dX4_readToken_16 ?_
    refine lv_bipush (v := 32) hx hb dX4_readToken_19 (by decide) ?_
    refine lv_icmp_ne (tgt := 37) hx hb dX4_readToken_21 (by decide) (fun c_13 => ?_) (fun c_13 => ?_)
    · have hB := ifN c_13 hB
      refine lv_aload_n hx hb dX4_readToken_37 rfl (lv_at hl 0 rfl) ?_
      refine lv_aload_n hx hb dX4_readToken_38 rfl (lv_at hl 0 rfl) ?_
      refine va_get (D := G) (ci := 4) (v := .int z1) (C := RX4) (T := TX4) (N := 8) hx hb hg inX4 hown hKT hP 0 rfl rfl 2 (by decide) (hg _ gF_X4_24) (fun _ h9 => h9) rfl dX4_readToken_39 ?_
      refine va_put (D := G) (ci := 4) (v := .int z1) (ty := .int) (C := RX4) (T := TX4) (N := 8) hx hb hg inX4 tyX4 tyX4_ok nmX4 hown hKT hP hD hS 0 rfl rfl 3 (by decide) (hg _ gF_X4_59) (fun _ h9 => h9) rfl (by decide +kernel) rfl rfl (Nat.le_of_ble_eq_true rfl) dX4_readToken_42 (fun H locs hP hD hS => ?_)
      have hP : va_P G vwCl (wd_X4_readToken cs a_t a_t_text v_t_length z1 z1 v_t_sort v_t_value v_t_bookTold v_t_needTold g_t_text) H := hP
      have hD : va_D A (wd_X4_readToken cs a_t a_t_text v_t_length z1 z1 v_t_sort v_t_value v_t_bookTold v_t_needTold g_t_text) := hD
      refine lv_aload_n hx hb dX4_readToken_45 rfl (lv_at hl 0 rfl) ?_
      refine lv_aload_n hx hb dX4_readToken_46 rfl (lv_at hl 0 rfl) ?_
      refine va_get (D := G) (ci := 4) (v := .int z1) (C := RX4) (T := TX4) (N := 8) hx hb hg inX4 hown hKT hP 0 rfl rfl 2 (by decide) (hg _ gF_X4_24) (fun _ h9 => h9) rfl dX4_readToken_47 ?_
      obtain ⟨q14, hq14, hB⟩ := bnd hB
      refine kr_V (WC := wd_X4_byteAt cs a_t a_t_text v_t_length z1 z1 v_t_sort v_t_value v_t_bookTold v_t_needTold g_t_text) (As := [.int z1]) (rest := []) (r0 := q14) ⟨hx, hb, hml, hown, hg⟩ (k_X4_byteAt l G cs a_t a_t_text v_t_length z1 z1 v_t_sort v_t_value v_t_bookTold v_t_needTold g_t_text z1 q14 hq14) gM_X4_88 mI_X4_byteAt (rmk rfl) hP hKT hN 0 rfl rfl [0, 1] rfl rfl hl.1 rfl (Nat.le_of_ble_eq_true rfl) dX4_readToken_50 ?_
      refine lv_istore_n (lv' := [(1, .int q14), (0, .ref a_t)]) hx hb dX4_readToken_53 rfl hl (by decide) rfl (fun ls hl => ?_)
      refine lv_iload_n hx hb dX4_readToken_54 rfl (lv_at hl 0 rfl) ?_
      obtain ⟨q15, hq15, hB⟩ := bnd hB
      refine kr_S (WC := wd_X4_isLetter cs ) (As := [.int q14]) (rest := []) (r0 := q15) ⟨hx, hb, hml, hown, hg⟩ (k_X4_isLetter l G cs q14 q15 hq15) gM_X4_92 mS_X4_isLetter (rmk rfl) hP hKT hN [] rfl rfl hl.1 rfl (Nat.le_of_ble_eq_true rfl) dX4_readToken_55 ?_
      refine lv_if_eq (tgt := 68) hx hb dX4_readToken_58 (by decide) (fun c_16 => ?_) (fun c_16 => ?_)
      · have hB := ifP c_16 hB
        refine lv_iload_n hx hb dX4_readToken_68 rfl (lv_at hl 0 rfl) ?_
        obtain ⟨q17, hq17, hB⟩ := bnd hB
        refine kr_S (WC := wd_X4_isFigure cs ) (As := [.int q14]) (rest := []) (r0 := q17) ⟨hx, hb, hml, hown, hg⟩ (k_X4_isFigure l G cs q14 q17 hq17) gM_X4_98 mS_X4_isFigure (rmk rfl) hP hKT hN [] rfl rfl hl.1 rfl (Nat.le_of_ble_eq_true rfl) dX4_readToken_69 ?_
        refine lv_if_eq (tgt := 82) hx hb dX4_readToken_72 (by decide) (fun c_18 => ?_) (fun c_18 => ?_)
        · have hB := ifP c_18 hB
          refine lv_iload_n hx hb dX4_readToken_82 rfl (lv_at hl 0 rfl) ?_
          refine lv_bipush (v := 59) hx hb dX4_readToken_83 (by decide) ?_
          refine lv_icmp_ne (tgt := 106) hx hb dX4_readToken_85 (by decide) (fun c_19 => ?_) (fun c_19 => ?_)
          · have hB := ifN c_19 hB
            refine lv_aload_n hx hb dX4_readToken_106 rfl (lv_at hl 1 rfl) ?_
            refine lv_iload_n hx hb dX4_readToken_107 rfl (lv_at hl 0 rfl) ?_
            refine lv_if_ge (tgt := 115) hx hb dX4_readToken_108 (by decide) (fun c_20 => ?_) (fun c_20 => ?_)
            · have hB := ifP c_20 hB
              refine lv_iconst (v := 4) hx hb dX4_readToken_115 (by decide) ?_
              refine va_put (D := G) (ci := 4) (v := .int (4 : Int32)) (ty := .int) (C := RX4) (T := TX4) (N := 8) hx hb hg inX4 tyX4 tyX4_ok nmX4 hown hKT hP hD hS 0 rfl rfl 4 (by decide) (hg _ gF_X4_37) (fun _ h9 => h9) rfl (by decide +kernel) rfl rfl (Nat.le_of_ble_eq_true rfl) dX4_readToken_116 (fun H locs hP hD hS => ?_)
              have hP : va_P G vwCl (wd_X4_readToken cs a_t a_t_text v_t_length z1 z1 (4 : Int32) v_t_value v_t_bookTold v_t_needTold g_t_text) H := hP
              have hD : va_D A (wd_X4_readToken cs a_t a_t_text v_t_length z1 z1 (4 : Int32) v_t_value v_t_bookTold v_t_needTold g_t_text) := hD
              have hK := leafK hB hK
              have hK := elimR hK
              have hK : (z1, z1, (4 : Int32), v_t_value) = R0 := hK
              subst hK
              exact W.vret hx hb hr (fun t ht hW => ⟨⟨(), rfl, trivial, by rw [ht]; exact hP, hD⟩, hS.F ht⟩) hS.2.2 dX4_readToken_119
            · have hB := ifN c_20 hB
              refine lv_iconst (v := 0) hx hb dX4_readToken_111 (by decide) ?_
              refine lv_goto (tgt := 116) hx hb dX4_readToken_112 (by decide) ?_
              refine va_put (D := G) (ci := 4) (v := .int (0 : Int32)) (ty := .int) (C := RX4) (T := TX4) (N := 8) hx hb hg inX4 tyX4 tyX4_ok nmX4 hown hKT hP hD hS 0 rfl rfl 4 (by decide) (hg _ gF_X4_37) (fun _ h9 => h9) rfl (by decide +kernel) rfl rfl (Nat.le_of_ble_eq_true rfl) dX4_readToken_116 (fun H locs hP hD hS => ?_)
              have hP : va_P G vwCl (wd_X4_readToken cs a_t a_t_text v_t_length z1 z1 (0 : Int32) v_t_value v_t_bookTold v_t_needTold g_t_text) H := hP
              have hD : va_D A (wd_X4_readToken cs a_t a_t_text v_t_length z1 z1 (0 : Int32) v_t_value v_t_bookTold v_t_needTold g_t_text) := hD
              have hK := leafK hB hK
              have hK := elimR hK
              have hK : (z1, z1, (0 : Int32), v_t_value) = R0 := hK
              subst hK
              exact W.vret hx hb hr (fun t ht hW => ⟨⟨(), rfl, trivial, by rw [ht]; exact hP, hD⟩, hS.F ht⟩) hS.2.2 dX4_readToken_119
          · have hB := ifP c_19 hB
            refine lv_aload_n hx hb dX4_readToken_88 rfl (lv_at hl 1 rfl) ?_
            refine lv_dup hx hb dX4_readToken_89 rfl ?_
            refine va_get (D := G) (ci := 4) (v := .int z1) (C := RX4) (T := TX4) (N := 8) hx hb hg inX4 hown hKT hP 0 rfl rfl 2 (by decide) (hg _ gF_X4_24) (fun _ h9 => h9) rfl dX4_readToken_90 ?_
            refine lv_iconst (v := 1) hx hb dX4_readToken_93 (by decide) ?_
            refine lv_iadd hx hb dX4_readToken_94 ?_
            refine va_put (D := G) (ci := 4) (v := .int (z1 + (1 : Int32))) (ty := .int) (C := RX4) (T := TX4) (N := 8) hx hb hg inX4 tyX4 tyX4_ok nmX4 hown hKT hP hD hS 0 rfl rfl 2 (by decide) (hg _ gF_X4_24) (fun _ h9 => h9) rfl (by decide +kernel) rfl rfl (Nat.le_of_ble_eq_true rfl) dX4_readToken_95 (fun H locs hP hD hS => ?_)
            have hP : va_P G vwCl (wd_X4_readToken cs a_t a_t_text v_t_length (z1 + (1 : Int32)) z1 v_t_sort v_t_value v_t_bookTold v_t_needTold g_t_text) H := hP
            have hD : va_D A (wd_X4_readToken cs a_t a_t_text v_t_length (z1 + (1 : Int32)) z1 v_t_sort v_t_value v_t_bookTold v_t_needTold g_t_text) := hD
            refine lv_aload_n hx hb dX4_readToken_98 rfl (lv_at hl 1 rfl) ?_
            refine lv_iconst (v := 3) hx hb dX4_readToken_99 (by decide) ?_
            refine va_put (D := G) (ci := 4) (v := .int (3 : Int32)) (ty := .int) (C := RX4) (T := TX4) (N := 8) hx hb hg inX4 tyX4 tyX4_ok nmX4 hown hKT hP hD hS 0 rfl rfl 4 (by decide) (hg _ gF_X4_37) (fun _ h9 => h9) rfl (by decide +kernel) rfl rfl (Nat.le_of_ble_eq_true rfl) dX4_readToken_100 (fun H locs hP hD hS => ?_)
            have hP : va_P G vwCl (wd_X4_readToken cs a_t a_t_text v_t_length (z1 + (1 : Int32)) z1 (3 : Int32) v_t_value v_t_bookTold v_t_needTold g_t_text) H := hP
            have hD : va_D A (wd_X4_readToken cs a_t a_t_text v_t_length (z1 + (1 : Int32)) z1 (3 : Int32) v_t_value v_t_bookTold v_t_needTold g_t_text) := hD
            refine lv_goto (tgt := 119) hx hb dX4_readToken_103 (by decide) ?_
            have hK := leafK hB hK
            have hK := elimR hK
            have hK : (z1 + (1 : Int32), z1, (3 : Int32), v_t_value) = R0 := hK
            subst hK
            exact W.vret hx hb hr (fun t ht hW => ⟨⟨(), rfl, trivial, by rw [ht]; exact hP, hD⟩, hS.F ht⟩) hS.2.2 dX4_readToken_119
        · have hB := ifN c_18 hB
          refine lv_aload_n hx hb dX4_readToken_75 rfl (lv_at hl 1 rfl) ?_
          obtain ⟨⟨q21_0, q21_1, q21_2⟩, hq21, hB⟩ := bnd hB
          refine kw_v (WC := wd_X4_readFigures cs a_t a_t_text v_t_length z1 z1 v_t_sort v_t_value v_t_bookTold v_t_needTold g_t_text) (W1 := wd_X4_readFigures cs a_t a_t_text v_t_length q21_0 z1 q21_1 q21_2 v_t_bookTold v_t_needTold g_t_text) (W2 := wd_X4_readToken cs a_t a_t_text v_t_length q21_0 z1 q21_1 q21_2 v_t_bookTold v_t_needTold g_t_text) (rw_V (As := []) (rest := []) ⟨hx, hb, hml, hown, hg⟩ (k_X4_readFigures l G cs a_t a_t_text v_t_length z1 z1 v_t_sort v_t_value v_t_bookTold v_t_needTold g_t_text H.size (q21_0, q21_1, q21_2) hq21) gM_X4_101 mI_X4_readFigures (rmk rfl) hP hD hKT hN 0 rfl rfl [0, 1] rfl rfl rfl hl.1 rfl (Nat.le_of_ble_eq_true rfl) dX4_readToken_76) hP hD hS hA [0, 1] [] [0, 1] ⟨rfl, rfl, rfl, rfl, rfl, rfl, rfl⟩ (fun H locs hP hD hS => ?_)
          refine lv_goto (tgt := 119) hx hb dX4_readToken_79 (by decide) ?_
          have hK := leafK hB hK
          have hK := elimR hK
          have hK : (q21_0, z1, q21_1, q21_2) = R0 := hK
          subst hK
          exact W.vret hx hb hr (fun t ht hW => ⟨⟨(), rfl, trivial, by rw [ht]; exact hP, hD⟩, hS.F ht⟩) hS.2.2 dX4_readToken_119
      · have hB := ifN c_16 hB
        refine lv_aload_n hx hb dX4_readToken_61 rfl (lv_at hl 1 rfl) ?_
        obtain ⟨⟨q22_0, q22_1, q22_2⟩, hq22, hB⟩ := bnd hB
        refine kw_v (WC := wd_X4_readLetters cs a_t a_t_text v_t_length z1 z1 v_t_sort v_t_value v_t_bookTold v_t_needTold g_t_text) (W1 := wd_X4_readLetters cs a_t a_t_text v_t_length q22_0 z1 q22_1 q22_2 v_t_bookTold v_t_needTold g_t_text) (W2 := wd_X4_readToken cs a_t a_t_text v_t_length q22_0 z1 q22_1 q22_2 v_t_bookTold v_t_needTold g_t_text) (rw_V (As := []) (rest := []) ⟨hx, hb, hml, hown, hg⟩ (k_X4_readLetters l G cs a_t a_t_text v_t_length z1 z1 v_t_sort v_t_value v_t_bookTold v_t_needTold g_t_text H.size (q22_0, q22_1, q22_2) hq22) gM_X4_95 mI_X4_readLetters (rmk rfl) hP hD hKT hN 0 rfl rfl [0, 1] rfl rfl rfl hl.1 rfl (Nat.le_of_ble_eq_true rfl) dX4_readToken_62) hP hD hS hA [0, 1] [] [0, 1] ⟨rfl, rfl, rfl, rfl, rfl, rfl, rfl⟩ (fun H locs hP hD hS => ?_)
        refine lv_goto (tgt := 119) hx hb dX4_readToken_65 (by decide) ?_
        have hK := leafK hB hK
        have hK := elimR hK
        have hK : (q22_0, z1, q22_1, q22_2) = R0 := hK
        subst hK
        exact W.vret hx hb hr (fun t ht hW => ⟨⟨(), rfl, trivial, by rw [ht]; exact hP, hD⟩, hS.F ht⟩) hS.2.2 dX4_readToken_119
    · have hB := ifP c_13 hB
      refine lv_aload_n hx hb dX4_readToken_24 rfl (lv_at hl 0 rfl) ?_
      refine lv_dup hx hb dX4_readToken_25 rfl ?_
      refine va_get (D := G) (ci := 4) (v := .int z1) (C := RX4) (T := TX4) (N := 8) hx hb hg inX4 hown hKT hP 0 rfl rfl 2 (by decide) (hg _ gF_X4_24) (fun _ h9 => h9) rfl dX4_readToken_26 ?_
      refine lv_iconst (v := 1) hx hb dX4_readToken_29 (by decide) ?_
      refine lv_iadd hx hb dX4_readToken_30 ?_
      refine va_put (D := G) (ci := 4) (v := .int (z1 + (1 : Int32))) (ty := .int) (C := RX4) (T := TX4) (N := 8) hx hb hg inX4 tyX4 tyX4_ok nmX4 hown hKT hP hD hS 0 rfl rfl 2 (by decide) (hg _ gF_X4_24) (fun _ h9 => h9) rfl (by decide +kernel) rfl rfl (Nat.le_of_ble_eq_true rfl) dX4_readToken_31 (fun H locs hP hD hS => ?_)
      have hP : va_P G vwCl (wd_X4_readToken cs a_t a_t_text v_t_length (z1 + (1 : Int32)) v_t_place v_t_sort v_t_value v_t_bookTold v_t_needTold g_t_text) H := hP
      have hD : va_D A (wd_X4_readToken cs a_t a_t_text v_t_length (z1 + (1 : Int32)) v_t_place v_t_sort v_t_value v_t_bookTold v_t_needTold g_t_text) := hD
      refine lv_goto (tgt := 0) hx hb dX4_readToken_34 (by decide) ?_
      have hK := leafK hB hK
      have hK := elimL hK
      exact hK H locs hP hD hS ls (lv_sub hl [0] rfl)
def wd_X4_readNumber (cs : Nat → ClassId) (a_t a_t_text : Nat) (v_t_length : Int32) (v_t_next : Int32) (v_t_place : Int32) (v_t_sort : Int32) (v_t_value : Int32) (v_t_bookTold : Int32) (v_t_needTold : Int32) (g_t_text : Nat → Int32) : va_W := [(a_t, .inr (4, [.ref a_t_text, .int v_t_length, .int v_t_next, .int v_t_place, .int v_t_sort, .int v_t_value, .int v_t_bookTold, .int v_t_needTold])), (a_t_text, .inl (cs 0, 120, .inl g_t_text))]
def rm_X4_readNumber : Room := { frames := 3, cells := 0, slots := 0, locals := 72 }
theorem mI_X4_readNumber : MI yX4_readNumber RX4 cX4_readNumber 3 (some .boolean) 2 := ⟨gI_X4_readNumber, gE_X4_readNumber, gN_X4, gC_X4_readNumber, by decide +kernel⟩
set_option maxHeartbeats 4000000 in
set_option maxRecDepth 100000 in
theorem k_X4_readNumber (l : Launch) (G : va_G) (cs : Nat → ClassId) (a_t a_t_text : Nat) (v_t_length : Int32) (v_t_next : Int32) (v_t_place : Int32) (v_t_sort : Int32) (v_t_value : Int32) (v_t_bookTold : Int32) (v_t_needTold : Int32) (g_t_text : Nat → Int32) (p1 p2 : Int32) (sz : Nat) (R0 : Int32 × Int32 × Int32 × Int32 × Int32) (hB : f_X4_readNumber v_t_length v_t_next v_t_value g_t_text p1 p2 = some R0) : Met l yX4_readNumber (.code yX4_readNumber cX4_readNumber 3 (some .boolean) :: GW) rm_X4_readNumber (PcW G cs [.ref a_t, .int p1, .int p2] (wd_X4_readNumber cs a_t a_t_text v_t_length v_t_next v_t_place v_t_sort v_t_value v_t_bookTold v_t_needTold g_t_text) sz) (QcI G (va_A (wd_X4_readNumber cs a_t a_t_text v_t_length v_t_next v_t_place v_t_sort v_t_value v_t_bookTold v_t_needTold g_t_text) sz) (wd_X4_readNumber cs a_t a_t_text v_t_length R0.2.1 R0.2.2.1 R0.2.2.2.1 R0.2.2.2.2 v_t_bookTold v_t_needTold g_t_text) R0.1) 0 0 (va_A (wd_X4_readNumber cs a_t a_t_text v_t_length v_t_next v_t_place v_t_sort v_t_value v_t_bookTold v_t_needTold g_t_text) sz) := by
  refine Met.ofW (cc := cX4_readNumber) (maxL := 3) (ret := (some .boolean)) (by decide) rfl ?_
  intro p e s m args below meth c s₁ B hml hv
  obtain ⟨rfl, hsz, hP, hD0, hK, hN⟩ := hv
  have hx := B.exec
  have hb := B.bytes
  have hr := B.returns
  have hts := atoms_spec (ws := .code yX4_readNumber cX4_readNumber 3 (some .boolean) :: GW) B.pre
  have hg : ∀ w ∈ GW, w.before _ s = true := fun w h => hts w (List.mem_cons_of_mem _ h)
  have hown : s.vm.findClass RX4 = some m.cls := findClass_of_methodNamed B.named
  have hlocks := B.notSynchronized
  subst hsz
  have hD := hD0.self (sz := s.heap.size)
  generalize hAe : va_A (wd_X4_readNumber cs a_t a_t_text v_t_length v_t_next v_t_place v_t_sort v_t_value v_t_bookTold v_t_needTold g_t_text) s.heap.size = A at hD ⊢
  have hA : ∀ q : Nat, s.heap.size ≤ q → A q := fun q h => by rw [← hAe]; exact Or.inr h
  have hS : va_S A s.heap s.heap [] := va_S.rf
  have hl := lv_entry ([.ref a_t, .int p1, .int p2]) (n := 3) (Nat.le_of_ble_eq_true rfl)
  rw [lg_entry_eq]
  generalize (lg_sl ([.ref a_t, .int p1, .int p2]) ++ List.replicate (3 - (lg_sl ([.ref a_t, .int p1, .int p2])).length) Slot.unset).toArray = ls at hl ⊢
  have hl : lv_has ls 3 [(0, .ref a_t), (1, .int p1), (2, .int p2)] := hl
  obtain ⟨y, hB, hK0⟩ : ∃ y, f_X4_readNumber v_t_length v_t_next v_t_value g_t_text p1 p2 = some y ∧ KEnd R0 y := ⟨R0, hB, rfl⟩
  have hKT := hK
  have hK := hK0
  obtain ⟨H, hHe⟩ : ∃ H, H = s.heap := ⟨_, rfl⟩
  obtain ⟨locs, hLe⟩ : ∃ L : List Loc, L = [] := ⟨_, rfl⟩
  rw [← hHe] at hP
  have hS : va_S A s.heap H locs := by rw [hHe, hLe]; exact hS
  show W p l e rm_X4_readNumber s m ([.ref a_t, .int p1, .int p2] : List Value).toArray below meth c s.heap [] 0 0 _ _
  suffices hgo : W p l e rm_X4_readNumber s m ([.ref a_t, .int p1, .int p2] : List Value).toArray below meth c H locs 0 0 (MQ below (QcI G A (wd_X4_readNumber cs a_t a_t_text v_t_length R0.2.1 R0.2.2.1 R0.2.2.2.1 R0.2.2.2.2 v_t_bookTold v_t_needTold g_t_text) R0.1) ([.ref a_t, .int p1, .int p2] : List Value).toArray s 0 0 A) (F0 m 0 ls []) by rw [hHe, hLe] at hgo; exact hgo
  refine lv_aload_n hx hb dX4_readNumber_0 rfl (lv_at hl 0 rfl) ?_
  obtain ⟨⟨q1_0, q1_1, q1_2, q1_3⟩, hq1, hB⟩ := bnd hB
  refine kw_v (WC := wd_X4_readToken cs a_t a_t_text v_t_length v_t_next v_t_place v_t_sort v_t_value v_t_bookTold v_t_needTold g_t_text) (W1 := wd_X4_readToken cs a_t a_t_text v_t_length q1_0 q1_1 q1_2 q1_3 v_t_bookTold v_t_needTold g_t_text) (W2 := wd_X4_readNumber cs a_t a_t_text v_t_length q1_0 q1_1 q1_2 q1_3 v_t_bookTold v_t_needTold g_t_text) (rw_V (As := []) (rest := []) ⟨hx, hb, hml, hown, hg⟩ (k_X4_readToken l G cs a_t a_t_text v_t_length v_t_next v_t_place v_t_sort v_t_value v_t_bookTold v_t_needTold g_t_text H.size (q1_0, q1_1, q1_2, q1_3) hq1) gM_X4_34 mI_X4_readToken (rmk rfl) hP hD hKT hN 0 rfl rfl [0, 1] rfl rfl rfl hl.1 rfl (Nat.le_of_ble_eq_true rfl) dX4_readNumber_1) hP hD hS hA [0, 1] [] [0, 1] ⟨rfl, rfl, rfl, rfl, rfl, rfl, rfl⟩ (fun H locs hP hD hS => ?_)
  refine lv_aload_n hx hb dX4_readNumber_4 rfl (lv_at hl 0 rfl) ?_
  refine va_get (D := G) (ci := 4) (v := .int q1_2) (C := RX4) (T := TX4) (N := 8) hx hb hg inX4 hown hKT hP 0 rfl rfl 4 (by decide) (hg _ gF_X4_37) (fun _ h9 => h9) rfl dX4_readNumber_5 ?_
  refine lv_iconst (v := 2) hx hb dX4_readNumber_8 (by decide) ?_
  refine lv_icmp_ne (tgt := 32) hx hb dX4_readNumber_9 (by decide) (fun c_2 => ?_) (fun c_2 => ?_)
  · have hB := ifN c_2 hB
    refine lv_iconst (v := 0) hx hb dX4_readNumber_32 (by decide) ?_
    have hK := leafK hB hK
    have hK : ((0 : Int32), q1_0, q1_1, q1_2, q1_3) = R0 := hK
    subst hK
    exact W.zret (v := (0 : Int32)) (ty := .boolean) hx hb hr rfl (fun t ht hW => ⟨⟨_, (), rfl, rfl, by rw [ht]; exact hP, hD⟩, hS.F ht⟩) hS.2.2 dX4_readNumber_33
  · have hB := ifP c_2 hB
    refine lv_aload_n hx hb dX4_readNumber_12 rfl (lv_at hl 0 rfl) ?_
    refine va_get (D := G) (ci := 4) (v := .int q1_3) (C := RX4) (T := TX4) (N := 8) hx hb hg inX4 hown hKT hP 0 rfl rfl 5 (by decide) (hg _ gF_X4_40) (fun _ h9 => h9) rfl dX4_readNumber_13 ?_
    refine lv_iload_n hx hb dX4_readNumber_16 rfl (lv_at hl 1 rfl) ?_
    refine lv_icmp_lt (tgt := 32) hx hb dX4_readNumber_17 (by decide) (fun c_3 => ?_) (fun c_3 => ?_)
    · have hB := ifP c_3 hB
      refine lv_iconst (v := 0) hx hb dX4_readNumber_32 (by decide) ?_
      have hK := leafK hB hK
      have hK : ((0 : Int32), q1_0, q1_1, q1_2, q1_3) = R0 := hK
      subst hK
      exact W.zret (v := (0 : Int32)) (ty := .boolean) hx hb hr rfl (fun t ht hW => ⟨⟨_, (), rfl, rfl, by rw [ht]; exact hP, hD⟩, hS.F ht⟩) hS.2.2 dX4_readNumber_33
    · have hB := ifN c_3 hB
      refine lv_aload_n hx hb dX4_readNumber_20 rfl (lv_at hl 0 rfl) ?_
      refine va_get (D := G) (ci := 4) (v := .int q1_3) (C := RX4) (T := TX4) (N := 8) hx hb hg inX4 hown hKT hP 0 rfl rfl 5 (by decide) (hg _ gF_X4_40) (fun _ h9 => h9) rfl dX4_readNumber_21 ?_
      refine lv_iload_n hx hb dX4_readNumber_24 rfl (lv_at hl 2 rfl) ?_
      refine lv_icmp_gt (tgt := 32) hx hb dX4_readNumber_25 (by decide) (fun c_4 => ?_) (fun c_4 => ?_)
      · have hB := ifP c_4 hB
        refine lv_iconst (v := 0) hx hb dX4_readNumber_32 (by decide) ?_
        have hK := leafK hB hK
        have hK : ((0 : Int32), q1_0, q1_1, q1_2, q1_3) = R0 := hK
        subst hK
        exact W.zret (v := (0 : Int32)) (ty := .boolean) hx hb hr rfl (fun t ht hW => ⟨⟨_, (), rfl, rfl, by rw [ht]; exact hP, hD⟩, hS.F ht⟩) hS.2.2 dX4_readNumber_33
      · have hB := ifN c_4 hB
        refine lv_iconst (v := 1) hx hb dX4_readNumber_28 (by decide) ?_
        refine lv_goto (tgt := 33) hx hb dX4_readNumber_29 (by decide) ?_
        have hK := leafK hB hK
        have hK : ((1 : Int32), q1_0, q1_1, q1_2, q1_3) = R0 := hK
        subst hK
        exact W.zret (v := (1 : Int32)) (ty := .boolean) hx hb hr rfl (fun t ht hW => ⟨⟨_, (), rfl, rfl, by rw [ht]; exact hP, hD⟩, hS.F ht⟩) hS.2.2 dX4_readNumber_33
def wd_X4_readStop (cs : Nat → ClassId) (a_t a_t_text : Nat) (v_t_length : Int32) (v_t_next : Int32) (v_t_place : Int32) (v_t_sort : Int32) (v_t_value : Int32) (v_t_bookTold : Int32) (v_t_needTold : Int32) (g_t_text : Nat → Int32) : va_W := [(a_t, .inr (4, [.ref a_t_text, .int v_t_length, .int v_t_next, .int v_t_place, .int v_t_sort, .int v_t_value, .int v_t_bookTold, .int v_t_needTold])), (a_t_text, .inl (cs 0, 120, .inl g_t_text))]
def rm_X4_readStop : Room := { frames := 3, cells := 0, slots := 0, locals := 72 }
theorem mI_X4_readStop : MI yX4_readStop RX4 cX4_readStop 1 (some .boolean) 0 := ⟨gI_X4_readStop, gE_X4_readStop, gN_X4, gC_X4_readStop, by decide +kernel⟩
set_option maxHeartbeats 4000000 in
set_option maxRecDepth 100000 in
theorem k_X4_readStop (l : Launch) (G : va_G) (cs : Nat → ClassId) (a_t a_t_text : Nat) (v_t_length : Int32) (v_t_next : Int32) (v_t_place : Int32) (v_t_sort : Int32) (v_t_value : Int32) (v_t_bookTold : Int32) (v_t_needTold : Int32) (g_t_text : Nat → Int32) (sz : Nat) (R0 : Int32 × Int32 × Int32 × Int32 × Int32) (hB : f_X4_readStop v_t_length v_t_next v_t_value g_t_text = some R0) : Met l yX4_readStop (.code yX4_readStop cX4_readStop 1 (some .boolean) :: GW) rm_X4_readStop (PcW G cs [.ref a_t] (wd_X4_readStop cs a_t a_t_text v_t_length v_t_next v_t_place v_t_sort v_t_value v_t_bookTold v_t_needTold g_t_text) sz) (QcI G (va_A (wd_X4_readStop cs a_t a_t_text v_t_length v_t_next v_t_place v_t_sort v_t_value v_t_bookTold v_t_needTold g_t_text) sz) (wd_X4_readStop cs a_t a_t_text v_t_length R0.2.1 R0.2.2.1 R0.2.2.2.1 R0.2.2.2.2 v_t_bookTold v_t_needTold g_t_text) R0.1) 0 0 (va_A (wd_X4_readStop cs a_t a_t_text v_t_length v_t_next v_t_place v_t_sort v_t_value v_t_bookTold v_t_needTold g_t_text) sz) := by
  refine Met.ofW (cc := cX4_readStop) (maxL := 1) (ret := (some .boolean)) (by decide) rfl ?_
  intro p e s m args below meth c s₁ B hml hv
  obtain ⟨rfl, hsz, hP, hD0, hK, hN⟩ := hv
  have hx := B.exec
  have hb := B.bytes
  have hr := B.returns
  have hts := atoms_spec (ws := .code yX4_readStop cX4_readStop 1 (some .boolean) :: GW) B.pre
  have hg : ∀ w ∈ GW, w.before _ s = true := fun w h => hts w (List.mem_cons_of_mem _ h)
  have hown : s.vm.findClass RX4 = some m.cls := findClass_of_methodNamed B.named
  have hlocks := B.notSynchronized
  subst hsz
  have hD := hD0.self (sz := s.heap.size)
  generalize hAe : va_A (wd_X4_readStop cs a_t a_t_text v_t_length v_t_next v_t_place v_t_sort v_t_value v_t_bookTold v_t_needTold g_t_text) s.heap.size = A at hD ⊢
  have hA : ∀ q : Nat, s.heap.size ≤ q → A q := fun q h => by rw [← hAe]; exact Or.inr h
  have hS : va_S A s.heap s.heap [] := va_S.rf
  have hl := lv_entry ([.ref a_t]) (n := 1) (Nat.le_of_ble_eq_true rfl)
  rw [lg_entry_eq]
  generalize (lg_sl ([.ref a_t]) ++ List.replicate (1 - (lg_sl ([.ref a_t])).length) Slot.unset).toArray = ls at hl ⊢
  have hl : lv_has ls 1 [(0, .ref a_t)] := hl
  obtain ⟨y, hB, hK0⟩ : ∃ y, f_X4_readStop v_t_length v_t_next v_t_value g_t_text = some y ∧ KEnd R0 y := ⟨R0, hB, rfl⟩
  have hKT := hK
  have hK := hK0
  obtain ⟨H, hHe⟩ : ∃ H, H = s.heap := ⟨_, rfl⟩
  obtain ⟨locs, hLe⟩ : ∃ L : List Loc, L = [] := ⟨_, rfl⟩
  rw [← hHe] at hP
  have hS : va_S A s.heap H locs := by rw [hHe, hLe]; exact hS
  show W p l e rm_X4_readStop s m ([.ref a_t] : List Value).toArray below meth c s.heap [] 0 0 _ _
  suffices hgo : W p l e rm_X4_readStop s m ([.ref a_t] : List Value).toArray below meth c H locs 0 0 (MQ below (QcI G A (wd_X4_readStop cs a_t a_t_text v_t_length R0.2.1 R0.2.2.1 R0.2.2.2.1 R0.2.2.2.2 v_t_bookTold v_t_needTold g_t_text) R0.1) ([.ref a_t] : List Value).toArray s 0 0 A) (F0 m 0 ls []) by rw [hHe, hLe] at hgo; exact hgo
  refine lv_aload_n hx hb dX4_readStop_0 rfl (lv_at hl 0 rfl) ?_
  obtain ⟨⟨q1_0, q1_1, q1_2, q1_3⟩, hq1, hB⟩ := bnd hB
  refine kw_v (WC := wd_X4_readToken cs a_t a_t_text v_t_length v_t_next v_t_place v_t_sort v_t_value v_t_bookTold v_t_needTold g_t_text) (W1 := wd_X4_readToken cs a_t a_t_text v_t_length q1_0 q1_1 q1_2 q1_3 v_t_bookTold v_t_needTold g_t_text) (W2 := wd_X4_readStop cs a_t a_t_text v_t_length q1_0 q1_1 q1_2 q1_3 v_t_bookTold v_t_needTold g_t_text) (rw_V (As := []) (rest := []) ⟨hx, hb, hml, hown, hg⟩ (k_X4_readToken l G cs a_t a_t_text v_t_length v_t_next v_t_place v_t_sort v_t_value v_t_bookTold v_t_needTold g_t_text H.size (q1_0, q1_1, q1_2, q1_3) hq1) gM_X4_34 mI_X4_readToken (rmk rfl) hP hD hKT hN 0 rfl rfl [0, 1] rfl rfl rfl hl.1 rfl (Nat.le_of_ble_eq_true rfl) dX4_readStop_1) hP hD hS hA [0, 1] [] [0, 1] ⟨rfl, rfl, rfl, rfl, rfl, rfl, rfl⟩ (fun H locs hP hD hS => ?_)
  refine lv_aload_n hx hb dX4_readStop_4 rfl (lv_at hl 0 rfl) ?_
  refine va_get (D := G) (ci := 4) (v := .int q1_2) (C := RX4) (T := TX4) (N := 8) hx hb hg inX4 hown hKT hP 0 rfl rfl 4 (by decide) (hg _ gF_X4_37) (fun _ h9 => h9) rfl dX4_readStop_5 ?_
  refine lv_iconst (v := 3) hx hb dX4_readStop_8 (by decide) ?_
  refine lv_icmp_ne (tgt := 16) hx hb dX4_readStop_9 (by decide) (fun c_2 => ?_) (fun c_2 => ?_)
  · have hB := ifN c_2 hB
    refine lv_iconst (v := 0) hx hb dX4_readStop_16 (by decide) ?_
    have hK := leafK hB hK
    have hK : ((0 : Int32), q1_0, q1_1, q1_2, q1_3) = R0 := hK
    subst hK
    exact W.zret (v := (0 : Int32)) (ty := .boolean) hx hb hr rfl (fun t ht hW => ⟨⟨_, (), rfl, rfl, by rw [ht]; exact hP, hD⟩, hS.F ht⟩) hS.2.2 dX4_readStop_17
  · have hB := ifP c_2 hB
    refine lv_iconst (v := 1) hx hb dX4_readStop_12 (by decide) ?_
    refine lv_goto (tgt := 17) hx hb dX4_readStop_13 (by decide) ?_
    have hK := leafK hB hK
    have hK : ((1 : Int32), q1_0, q1_1, q1_2, q1_3) = R0 := hK
    subst hK
    exact W.zret (v := (1 : Int32)) (ty := .boolean) hx hb hr rfl (fun t ht hW => ⟨⟨_, (), rfl, rfl, by rw [ht]; exact hP, hD⟩, hS.F ht⟩) hS.2.2 dX4_readStop_17
def wd_X4_readOpinions (cs : Nat → ClassId) (a_t a_t_text a_p1 a_p1_turn a_p1_bent : Nat) (v_t_length : Int32) (v_t_next : Int32) (v_t_place : Int32) (v_t_sort : Int32) (v_t_value : Int32) (v_t_bookTold : Int32) (v_t_needTold : Int32) (g_t_text : Nat → Int32) (v_p1_opinions : Int32) (v_p1_lines : Int32) (v_p1_books : Int32) (v_p1_told : Int32) (v_p1_scribes : Int32) (v_p1_need : Int32) : va_W := [(a_t, .inr (4, [.ref a_t_text, .int v_t_length, .int v_t_next, .int v_t_place, .int v_t_sort, .int v_t_value, .int v_t_bookTold, .int v_t_needTold])), (a_t_text, .inl (cs 0, 120, .inl g_t_text)), (a_p1, .inr (0, [.int v_p1_opinions, .int v_p1_lines, .int v_p1_books, .int v_p1_told, .int v_p1_scribes, .int v_p1_need, .ref a_p1_turn, .ref a_p1_bent]))]
def rm_X4_readOpinions : Room := { frames := 4, cells := 0, slots := 0, locals := 94 }
theorem mI_X4_readOpinions : MI yX4_readOpinions RX4 cX4_readOpinions 2 (some .boolean) 1 := ⟨gI_X4_readOpinions, gE_X4_readOpinions, gN_X4, gC_X4_readOpinions, by decide +kernel⟩
set_option maxHeartbeats 4000000 in
set_option maxRecDepth 100000 in
theorem k_X4_readOpinions (l : Launch) (G : va_G) (cs : Nat → ClassId) (a_t a_t_text a_p1 a_p1_turn a_p1_bent : Nat) (v_t_length : Int32) (v_t_next : Int32) (v_t_place : Int32) (v_t_sort : Int32) (v_t_value : Int32) (v_t_bookTold : Int32) (v_t_needTold : Int32) (g_t_text : Nat → Int32) (v_p1_opinions : Int32) (v_p1_lines : Int32) (v_p1_books : Int32) (v_p1_told : Int32) (v_p1_scribes : Int32) (v_p1_need : Int32) (sz : Nat) (R0 : Int32 × Int32 × Int32 × Int32 × Int32 × Int32) (hB : f_X4_readOpinions v_t_length v_t_next v_t_value g_t_text v_p1_opinions = some R0) : Met l yX4_readOpinions (.code yX4_readOpinions cX4_readOpinions 2 (some .boolean) :: GW) rm_X4_readOpinions (PcW G cs [.ref a_t, .ref a_p1] (wd_X4_readOpinions cs a_t a_t_text a_p1 a_p1_turn a_p1_bent v_t_length v_t_next v_t_place v_t_sort v_t_value v_t_bookTold v_t_needTold g_t_text v_p1_opinions v_p1_lines v_p1_books v_p1_told v_p1_scribes v_p1_need) sz) (QcI G (va_A (wd_X4_readOpinions cs a_t a_t_text a_p1 a_p1_turn a_p1_bent v_t_length v_t_next v_t_place v_t_sort v_t_value v_t_bookTold v_t_needTold g_t_text v_p1_opinions v_p1_lines v_p1_books v_p1_told v_p1_scribes v_p1_need) sz) (wd_X4_readOpinions cs a_t a_t_text a_p1 a_p1_turn a_p1_bent v_t_length R0.2.1 R0.2.2.1 R0.2.2.2.1 R0.2.2.2.2.1 v_t_bookTold v_t_needTold g_t_text R0.2.2.2.2.2 v_p1_lines v_p1_books v_p1_told v_p1_scribes v_p1_need) R0.1) 0 0 (va_A (wd_X4_readOpinions cs a_t a_t_text a_p1 a_p1_turn a_p1_bent v_t_length v_t_next v_t_place v_t_sort v_t_value v_t_bookTold v_t_needTold g_t_text v_p1_opinions v_p1_lines v_p1_books v_p1_told v_p1_scribes v_p1_need) sz) := by
  refine Met.ofW (cc := cX4_readOpinions) (maxL := 2) (ret := (some .boolean)) (by decide) rfl ?_
  intro p e s m args below meth c s₁ B hml hv
  obtain ⟨rfl, hsz, hP, hD0, hK, hN⟩ := hv
  have hx := B.exec
  have hb := B.bytes
  have hr := B.returns
  have hts := atoms_spec (ws := .code yX4_readOpinions cX4_readOpinions 2 (some .boolean) :: GW) B.pre
  have hg : ∀ w ∈ GW, w.before _ s = true := fun w h => hts w (List.mem_cons_of_mem _ h)
  have hown : s.vm.findClass RX4 = some m.cls := findClass_of_methodNamed B.named
  have hlocks := B.notSynchronized
  subst hsz
  have hD := hD0.self (sz := s.heap.size)
  generalize hAe : va_A (wd_X4_readOpinions cs a_t a_t_text a_p1 a_p1_turn a_p1_bent v_t_length v_t_next v_t_place v_t_sort v_t_value v_t_bookTold v_t_needTold g_t_text v_p1_opinions v_p1_lines v_p1_books v_p1_told v_p1_scribes v_p1_need) s.heap.size = A at hD ⊢
  have hA : ∀ q : Nat, s.heap.size ≤ q → A q := fun q h => by rw [← hAe]; exact Or.inr h
  have hS : va_S A s.heap s.heap [] := va_S.rf
  have hl := lv_entry ([.ref a_t, .ref a_p1]) (n := 2) (Nat.le_of_ble_eq_true rfl)
  rw [lg_entry_eq]
  generalize (lg_sl ([.ref a_t, .ref a_p1]) ++ List.replicate (2 - (lg_sl ([.ref a_t, .ref a_p1])).length) Slot.unset).toArray = ls at hl ⊢
  have hl : lv_has ls 2 [(0, .ref a_t), (1, .ref a_p1)] := hl
  obtain ⟨y, hB, hK0⟩ : ∃ y, f_X4_readOpinions v_t_length v_t_next v_t_value g_t_text v_p1_opinions = some y ∧ KEnd R0 y := ⟨R0, hB, rfl⟩
  have hKT := hK
  have hK := hK0
  obtain ⟨H, hHe⟩ : ∃ H, H = s.heap := ⟨_, rfl⟩
  obtain ⟨locs, hLe⟩ : ∃ L : List Loc, L = [] := ⟨_, rfl⟩
  rw [← hHe] at hP
  have hS : va_S A s.heap H locs := by rw [hHe, hLe]; exact hS
  show W p l e rm_X4_readOpinions s m ([.ref a_t, .ref a_p1] : List Value).toArray below meth c s.heap [] 0 0 _ _
  suffices hgo : W p l e rm_X4_readOpinions s m ([.ref a_t, .ref a_p1] : List Value).toArray below meth c H locs 0 0 (MQ below (QcI G A (wd_X4_readOpinions cs a_t a_t_text a_p1 a_p1_turn a_p1_bent v_t_length R0.2.1 R0.2.2.1 R0.2.2.2.1 R0.2.2.2.2.1 v_t_bookTold v_t_needTold g_t_text R0.2.2.2.2.2 v_p1_lines v_p1_books v_p1_told v_p1_scribes v_p1_need) R0.1) ([.ref a_t, .ref a_p1] : List Value).toArray s 0 0 A) (F0 m 0 ls []) by rw [hHe, hLe] at hgo; exact hgo
  refine lv_aload_n hx hb dX4_readOpinions_0 rfl (lv_at hl 0 rfl) ?_
  refine lv_iconst (v := 2) hx hb dX4_readOpinions_1 (by decide) ?_
  refine lv_iconst (v := 5) hx hb dX4_readOpinions_2 (by decide) ?_
  obtain ⟨⟨q1_0, q1_1, q1_2, q1_3, q1_4⟩, hq1, hB⟩ := bnd hB
  refine kw_i (WC := wd_X4_readNumber cs a_t a_t_text v_t_length v_t_next v_t_place v_t_sort v_t_value v_t_bookTold v_t_needTold g_t_text) (W1 := wd_X4_readNumber cs a_t a_t_text v_t_length q1_1 q1_2 q1_3 q1_4 v_t_bookTold v_t_needTold g_t_text) (W2 := wd_X4_readOpinions cs a_t a_t_text a_p1 a_p1_turn a_p1_bent v_t_length q1_1 q1_2 q1_3 q1_4 v_t_bookTold v_t_needTold g_t_text v_p1_opinions v_p1_lines v_p1_books v_p1_told v_p1_scribes v_p1_need) (r0 := q1_0) (rw_V (As := [.int (2 : Int32), .int (5 : Int32)]) (rest := []) ⟨hx, hb, hml, hown, hg⟩ (k_X4_readNumber l G cs a_t a_t_text v_t_length v_t_next v_t_place v_t_sort v_t_value v_t_bookTold v_t_needTold g_t_text (2 : Int32) (5 : Int32) H.size (q1_0, q1_1, q1_2, q1_3, q1_4) hq1) gM_X4_62 mI_X4_readNumber (rmk rfl) hP hD hKT hN 0 rfl rfl [0, 1] rfl rfl rfl hl.1 rfl (Nat.le_of_ble_eq_true rfl) dX4_readOpinions_3) hP hD hS hA [0, 1] [2] [1, 2, 0] ⟨rfl, rfl, rfl, rfl, rfl, rfl, rfl⟩ (fun H locs hP hD hS => ?_)
  refine lv_if_ne (tgt := 11) hx hb dX4_readOpinions_6 (by decide) (fun c_2 => ?_) (fun c_2 => ?_)
  · have hB := ifN c_2 hB
    refine lv_aload_n hx hb dX4_readOpinions_11 rfl (lv_at hl 1 rfl) ?_
    refine lv_aload_n hx hb dX4_readOpinions_12 rfl (lv_at hl 0 rfl) ?_
    refine va_get (D := G) (ci := 4) (v := .int q1_4) (C := RX4) (T := TX4) (N := 8) hx hb hg inX4 hown hKT hP 0 rfl rfl 5 (by decide) (hg _ gF_X4_40) (fun _ h9 => h9) rfl dX4_readOpinions_13 ?_
    refine va_putN (D := G) (ci := 0) (v := .int q1_4) (ty := .int) (C := RX0) (T := TX0) (N := 8) hx hb hg inX0 tyX0 tyX0_ok nmX0 hown hKT hP hD hS 2 rfl rfl 0 (by decide) (va_Nw.use rfl (hN _ nF_X4_66_l rfl)) (fun _ h9 => h9) rfl (by decide +kernel) rfl rfl (Nat.le_of_ble_eq_true rfl) dX4_readOpinions_16 (fun H locs hP hD hS => ?_)
    have hP : va_P G vwCl (wd_X4_readOpinions cs a_t a_t_text a_p1 a_p1_turn a_p1_bent v_t_length q1_1 q1_2 q1_3 q1_4 v_t_bookTold v_t_needTold g_t_text q1_4 v_p1_lines v_p1_books v_p1_told v_p1_scribes v_p1_need) H := hP
    have hD : va_D A (wd_X4_readOpinions cs a_t a_t_text a_p1 a_p1_turn a_p1_bent v_t_length q1_1 q1_2 q1_3 q1_4 v_t_bookTold v_t_needTold g_t_text q1_4 v_p1_lines v_p1_books v_p1_told v_p1_scribes v_p1_need) := hD
    refine lv_aload_n hx hb dX4_readOpinions_19 rfl (lv_at hl 0 rfl) ?_
    obtain ⟨⟨q3_0, q3_1, q3_2, q3_3, q3_4⟩, hq3, hB⟩ := bnd hB
    refine kw_i (WC := wd_X4_readStop cs a_t a_t_text v_t_length q1_1 q1_2 q1_3 q1_4 v_t_bookTold v_t_needTold g_t_text) (W1 := wd_X4_readStop cs a_t a_t_text v_t_length q3_1 q3_2 q3_3 q3_4 v_t_bookTold v_t_needTold g_t_text) (W2 := wd_X4_readOpinions cs a_t a_t_text a_p1 a_p1_turn a_p1_bent v_t_length q3_1 q3_2 q3_3 q3_4 v_t_bookTold v_t_needTold g_t_text q1_4 v_p1_lines v_p1_books v_p1_told v_p1_scribes v_p1_need) (r0 := q3_0) (rw_V (As := []) (rest := []) ⟨hx, hb, hml, hown, hg⟩ (k_X4_readStop l G cs a_t a_t_text v_t_length q1_1 q1_2 q1_3 q1_4 v_t_bookTold v_t_needTold g_t_text H.size (q3_0, q3_1, q3_2, q3_3, q3_4) hq3) gM_X4_69 mI_X4_readStop (rmk rfl) hP hD hKT hN 0 rfl rfl [0, 1] rfl rfl rfl hl.1 rfl (Nat.le_of_ble_eq_true rfl) dX4_readOpinions_20) hP hD hS hA [0, 1] [2] [1, 2, 0] ⟨rfl, rfl, rfl, rfl, rfl, rfl, rfl⟩ (fun H locs hP hD hS => ?_)
    obtain ⟨h_4, hB⟩ := ifG hB
    have hK := leafK hB hK
    have hK : (q3_0, q3_1, q3_2, q3_3, q3_4, q1_4) = R0 := hK
    subst hK
    exact W.zret (v := q3_0) (ty := .boolean) hx hb hr (nar01 h_4) (fun t ht hW => ⟨⟨_, (), rfl, rfl, by rw [ht]; exact hP, hD⟩, hS.F ht⟩) hS.2.2 dX4_readOpinions_23
  · have hB := ifP c_2 hB
    refine lv_iconst (v := 0) hx hb dX4_readOpinions_9 (by decide) ?_
    have hK := leafK hB hK
    have hK : ((0 : Int32), q1_1, q1_2, q1_3, q1_4, v_p1_opinions) = R0 := hK
    subst hK
    exact W.zret (v := (0 : Int32)) (ty := .boolean) hx hb hr rfl (fun t ht hW => ⟨⟨_, (), rfl, rfl, by rw [ht]; exact hP, hD⟩, hS.F ht⟩) hS.2.2 dX4_readOpinions_10
def wd_X4_readBook (cs : Nat → ClassId) (a_t a_t_text a_p1 a_p1_turn a_p1_bent : Nat) (v_t_length : Int32) (v_t_next : Int32) (v_t_place : Int32) (v_t_sort : Int32) (v_t_value : Int32) (v_t_bookTold : Int32) (v_t_needTold : Int32) (g_t_text : Nat → Int32) (v_p1_opinions : Int32) (v_p1_lines : Int32) (v_p1_books : Int32) (v_p1_told : Int32) (v_p1_scribes : Int32) (v_p1_need : Int32) : va_W := [(a_t, .inr (4, [.ref a_t_text, .int v_t_length, .int v_t_next, .int v_t_place, .int v_t_sort, .int v_t_value, .int v_t_bookTold, .int v_t_needTold])), (a_t_text, .inl (cs 0, 120, .inl g_t_text)), (a_p1, .inr (0, [.int v_p1_opinions, .int v_p1_lines, .int v_p1_books, .int v_p1_told, .int v_p1_scribes, .int v_p1_need, .ref a_p1_turn, .ref a_p1_bent]))]
def rm_X4_readBook : Room := { frames := 4, cells := 0, slots := 0, locals := 92 }
theorem mI_X4_readBook : MI yX4_readBook RX4 cX4_readBook 3 (some .boolean) 1 := ⟨gI_X4_readBook, gE_X4_readBook, gN_X4, gC_X4_readBook, by decide +kernel⟩
set_option maxHeartbeats 4000000 in
set_option maxRecDepth 100000 in
theorem k_X4_readBook (l : Launch) (G : va_G) (cs : Nat → ClassId) (a_t a_t_text a_p1 a_p1_turn a_p1_bent : Nat) (v_t_length : Int32) (v_t_next : Int32) (v_t_place : Int32) (v_t_sort : Int32) (v_t_value : Int32) (v_t_bookTold : Int32) (v_t_needTold : Int32) (g_t_text : Nat → Int32) (v_p1_opinions : Int32) (v_p1_lines : Int32) (v_p1_books : Int32) (v_p1_told : Int32) (v_p1_scribes : Int32) (v_p1_need : Int32) (sz : Nat) (R0 : Int32 × Int32 × Int32 × Int32 × Int32 × Int32 × Int32 × Int32 × Int32) (hB : f_X4_readBook v_t_length v_t_next v_t_place v_t_sort v_t_value g_t_text v_p1_opinions v_p1_lines v_p1_books v_p1_told = some R0) : Met l yX4_readBook (.code yX4_readBook cX4_readBook 3 (some .boolean) :: GW) rm_X4_readBook (PcW G cs [.ref a_t, .ref a_p1] (wd_X4_readBook cs a_t a_t_text a_p1 a_p1_turn a_p1_bent v_t_length v_t_next v_t_place v_t_sort v_t_value v_t_bookTold v_t_needTold g_t_text v_p1_opinions v_p1_lines v_p1_books v_p1_told v_p1_scribes v_p1_need) sz) (QcI G (va_A (wd_X4_readBook cs a_t a_t_text a_p1 a_p1_turn a_p1_bent v_t_length v_t_next v_t_place v_t_sort v_t_value v_t_bookTold v_t_needTold g_t_text v_p1_opinions v_p1_lines v_p1_books v_p1_told v_p1_scribes v_p1_need) sz) (wd_X4_readBook cs a_t a_t_text a_p1 a_p1_turn a_p1_bent v_t_length R0.2.1 R0.2.2.1 R0.2.2.2.1 R0.2.2.2.2.1 R0.2.2.2.2.2.1 v_t_needTold g_t_text v_p1_opinions R0.2.2.2.2.2.2.1 R0.2.2.2.2.2.2.2.1 R0.2.2.2.2.2.2.2.2 v_p1_scribes v_p1_need) R0.1) 0 0 (va_A (wd_X4_readBook cs a_t a_t_text a_p1 a_p1_turn a_p1_bent v_t_length v_t_next v_t_place v_t_sort v_t_value v_t_bookTold v_t_needTold g_t_text v_p1_opinions v_p1_lines v_p1_books v_p1_told v_p1_scribes v_p1_need) sz) := by
  refine Met.ofW (cc := cX4_readBook) (maxL := 3) (ret := (some .boolean)) (by decide) rfl ?_
  intro p e s m args below meth c s₁ B hml hv
  obtain ⟨rfl, hsz, hP, hD0, hK, hN⟩ := hv
  have hx := B.exec
  have hb := B.bytes
  have hr := B.returns
  have hts := atoms_spec (ws := .code yX4_readBook cX4_readBook 3 (some .boolean) :: GW) B.pre
  have hg : ∀ w ∈ GW, w.before _ s = true := fun w h => hts w (List.mem_cons_of_mem _ h)
  have hown : s.vm.findClass RX4 = some m.cls := findClass_of_methodNamed B.named
  have hlocks := B.notSynchronized
  subst hsz
  have hD := hD0.self (sz := s.heap.size)
  generalize hAe : va_A (wd_X4_readBook cs a_t a_t_text a_p1 a_p1_turn a_p1_bent v_t_length v_t_next v_t_place v_t_sort v_t_value v_t_bookTold v_t_needTold g_t_text v_p1_opinions v_p1_lines v_p1_books v_p1_told v_p1_scribes v_p1_need) s.heap.size = A at hD ⊢
  have hA : ∀ q : Nat, s.heap.size ≤ q → A q := fun q h => by rw [← hAe]; exact Or.inr h
  have hS : va_S A s.heap s.heap [] := va_S.rf
  have hl := lv_entry ([.ref a_t, .ref a_p1]) (n := 3) (Nat.le_of_ble_eq_true rfl)
  rw [lg_entry_eq]
  generalize (lg_sl ([.ref a_t, .ref a_p1]) ++ List.replicate (3 - (lg_sl ([.ref a_t, .ref a_p1])).length) Slot.unset).toArray = ls at hl ⊢
  have hl : lv_has ls 3 [(0, .ref a_t), (1, .ref a_p1)] := hl
  obtain ⟨y, hB, hK0⟩ : ∃ y, f_X4_readBook v_t_length v_t_next v_t_place v_t_sort v_t_value g_t_text v_p1_opinions v_p1_lines v_p1_books v_p1_told = some y ∧ KEnd R0 y := ⟨R0, hB, rfl⟩
  have hKT := hK
  have hK := hK0
  obtain ⟨H, hHe⟩ : ∃ H, H = s.heap := ⟨_, rfl⟩
  obtain ⟨locs, hLe⟩ : ∃ L : List Loc, L = [] := ⟨_, rfl⟩
  rw [← hHe] at hP
  have hS : va_S A s.heap H locs := by rw [hHe, hLe]; exact hS
  show W p l e rm_X4_readBook s m ([.ref a_t, .ref a_p1] : List Value).toArray below meth c s.heap [] 0 0 _ _
  suffices hgo : W p l e rm_X4_readBook s m ([.ref a_t, .ref a_p1] : List Value).toArray below meth c H locs 0 0 (MQ below (QcI G A (wd_X4_readBook cs a_t a_t_text a_p1 a_p1_turn a_p1_bent v_t_length R0.2.1 R0.2.2.1 R0.2.2.2.1 R0.2.2.2.2.1 R0.2.2.2.2.2.1 v_t_needTold g_t_text v_p1_opinions R0.2.2.2.2.2.2.1 R0.2.2.2.2.2.2.2.1 R0.2.2.2.2.2.2.2.2 v_p1_scribes v_p1_need) R0.1) ([.ref a_t, .ref a_p1] : List Value).toArray s 0 0 A) (F0 m 0 ls []) by rw [hHe, hLe] at hgo; exact hgo
  refine lv_aload_n hx hb dX4_readBook_0 rfl (lv_at hl 0 rfl) ?_
  refine lv_iconst (v := 1) hx hb dX4_readBook_1 (by decide) ?_
  refine va_put (D := G) (ci := 4) (v := .int (1 : Int32)) (ty := .boolean) (C := RX4) (T := TX4) (N := 8) hx hb hg inX4 tyX4 tyX4_ok nmX4 hown hKT hP hD hS 0 rfl rfl 6 (by decide) (hg _ gF_X4_27) (fun _ h9 => h9) rfl (by decide +kernel) rfl rfl (Nat.le_of_ble_eq_true rfl) dX4_readBook_2 (fun H locs hP hD hS => ?_)
  have hP : va_P G vwCl (wd_X4_readBook cs a_t a_t_text a_p1 a_p1_turn a_p1_bent v_t_length v_t_next v_t_place v_t_sort v_t_value (1 : Int32) v_t_needTold g_t_text v_p1_opinions v_p1_lines v_p1_books v_p1_told v_p1_scribes v_p1_need) H := hP
  have hD : va_D A (wd_X4_readBook cs a_t a_t_text a_p1 a_p1_turn a_p1_bent v_t_length v_t_next v_t_place v_t_sort v_t_value (1 : Int32) v_t_needTold g_t_text v_p1_opinions v_p1_lines v_p1_books v_p1_told v_p1_scribes v_p1_need) := hD
  refine lv_iconst (v := 0) hx hb dX4_readBook_5 (by decide) ?_
  refine lv_istore_n (lv' := [(2, .int (0 : Int32)), (0, .ref a_t), (1, .ref a_p1)]) hx hb dX4_readBook_6 rfl hl (by decide) rfl (fun ls hl => ?_)
  refine lp_ind (Wh := fun (z1 : Int32 × Int32 × Int32 × Int32 × Int32 × Int32 × Int32 × Int32) => ∀ (H : Heap) (locs : List Loc), va_P G vwCl (wd_X4_readBook cs a_t a_t_text a_p1 a_p1_turn a_p1_bent v_t_length z1.2.1 z1.2.2.1 z1.2.2.2.1 z1.2.2.2.2.1 (1 : Int32) v_t_needTold g_t_text v_p1_opinions z1.2.2.2.2.2.1 z1.2.2.2.2.2.2.1 z1.2.2.2.2.2.2.2 v_p1_scribes v_p1_need) H → va_D A (wd_X4_readBook cs a_t a_t_text a_p1 a_p1_turn a_p1_bent v_t_length z1.2.1 z1.2.2.1 z1.2.2.2.1 z1.2.2.2.2.1 (1 : Int32) v_t_needTold g_t_text v_p1_opinions z1.2.2.2.2.2.1 z1.2.2.2.2.2.2.1 z1.2.2.2.2.2.2.2 v_p1_scribes v_p1_need) → va_S A s.heap H locs → ∀ (ls : Array Slot), lv_has ls 3 [(0, .ref a_t), (1, .ref a_p1), (2, .int z1.1)] → W p l e rm_X4_readBook s m ([.ref a_t, .ref a_p1] : List Value).toArray below meth c H locs 0 0 (MQ below (QcI G A (wd_X4_readBook cs a_t a_t_text a_p1 a_p1_turn a_p1_bent v_t_length R0.2.1 R0.2.2.1 R0.2.2.2.1 R0.2.2.2.2.1 R0.2.2.2.2.2.1 v_t_needTold g_t_text v_p1_opinions R0.2.2.2.2.2.2.1 R0.2.2.2.2.2.2.2.1 R0.2.2.2.2.2.2.2.2 v_p1_scribes v_p1_need) R0.1) ([.ref a_t, .ref a_p1] : List Value).toArray s 0 0 A) (F0 m 7 ls [])) ?_ FU _ _ hB hK H locs hP hD hS ls (lv_sub hl [1, 2, 0] rfl)
  rintro ⟨z1_0, z1_1, z1_2, z1_3, z1_4, z1_5, z1_6, z1_7⟩ y hB hK H locs hP hD hS ls hl
  have hl : lv_has ls 3 [(0, .ref a_t), (1, .ref a_p1), (2, .int z1_0)] := hl
  have hP : va_P G vwCl (wd_X4_readBook cs a_t a_t_text a_p1 a_p1_turn a_p1_bent v_t_length z1_1 z1_2 z1_3 z1_4 (1 : Int32) v_t_needTold g_t_text v_p1_opinions z1_5 z1_6 z1_7 v_p1_scribes v_p1_need) H := hP
  have hD : va_D A (wd_X4_readBook cs a_t a_t_text a_p1 a_p1_turn a_p1_bent v_t_length z1_1 z1_2 z1_3 z1_4 (1 : Int32) v_t_needTold g_t_text v_p1_opinions z1_5 z1_6 z1_7 v_p1_scribes v_p1_need) := hD
  refine lv_iload_n hx hb dX4_readBook_7 rfl (lv_at hl 2 rfl) ?_
  refine lv_iconst (v := 4) hx hb dX4_readBook_8 (by decide) ?_
  refine lv_icmp_ge (tgt := 65) hx hb dX4_readBook_9 (by decide) (fun c_2 => ?_) (fun c_2 => ?_)
  · have hB := ifP c_2 hB
    refine lv_aload_n hx hb dX4_readBook_65 rfl (lv_at hl 0 rfl) ?_
    obtain ⟨⟨q3_0, q3_1, q3_2, q3_3, q3_4⟩, hq3, hB⟩ := bnd hB
    refine kw_i (WC := wd_X4_readStop cs a_t a_t_text v_t_length z1_1 z1_2 z1_3 z1_4 (1 : Int32) v_t_needTold g_t_text) (W1 := wd_X4_readStop cs a_t a_t_text v_t_length q3_1 q3_2 q3_3 q3_4 (1 : Int32) v_t_needTold g_t_text) (W2 := wd_X4_readBook cs a_t a_t_text a_p1 a_p1_turn a_p1_bent v_t_length q3_1 q3_2 q3_3 q3_4 (1 : Int32) v_t_needTold g_t_text v_p1_opinions z1_5 z1_6 z1_7 v_p1_scribes v_p1_need) (r0 := q3_0) (rw_V (As := []) (rest := []) ⟨hx, hb, hml, hown, hg⟩ (k_X4_readStop l G cs a_t a_t_text v_t_length z1_1 z1_2 z1_3 z1_4 (1 : Int32) v_t_needTold g_t_text H.size (q3_0, q3_1, q3_2, q3_3, q3_4) hq3) gM_X4_69 mI_X4_readStop (rmk rfl) hP hD hKT hN 0 rfl rfl [0, 1] rfl rfl rfl hl.1 rfl (Nat.le_of_ble_eq_true rfl) dX4_readBook_66) hP hD hS hA [0, 1] [2] [1, 2, 0] ⟨rfl, rfl, rfl, rfl, rfl, rfl, rfl⟩ (fun H locs hP hD hS => ?_)
    obtain ⟨h_4, hB⟩ := ifG hB
    have hK := leafK hB hK
    have hK := elimR hK
    have hK : (q3_0, q3_1, q3_2, q3_3, q3_4, (1 : Int32), z1_5, z1_6, z1_7) = R0 := hK
    subst hK
    exact W.zret (v := q3_0) (ty := .boolean) hx hb hr (nar01 h_4) (fun t ht hW => ⟨⟨_, (), rfl, rfl, by rw [ht]; exact hP, hD⟩, hS.F ht⟩) hS.2.2 dX4_readBook_69
  · have hB := ifN c_2 hB
    refine lv_aload_n hx hb dX4_readBook_12 rfl (lv_at hl 0 rfl) ?_
    obtain ⟨⟨q5_0, q5_1, q5_2, q5_3⟩, hq5, hB⟩ := bnd hB
    refine kw_v (WC := wd_X4_readToken cs a_t a_t_text v_t_length z1_1 z1_2 z1_3 z1_4 (1 : Int32) v_t_needTold g_t_text) (W1 := wd_X4_readToken cs a_t a_t_text v_t_length q5_0 q5_1 q5_2 q5_3 (1 : Int32) v_t_needTold g_t_text) (W2 := wd_X4_readBook cs a_t a_t_text a_p1 a_p1_turn a_p1_bent v_t_length q5_0 q5_1 q5_2 q5_3 (1 : Int32) v_t_needTold g_t_text v_p1_opinions z1_5 z1_6 z1_7 v_p1_scribes v_p1_need) (rw_V (As := []) (rest := []) ⟨hx, hb, hml, hown, hg⟩ (k_X4_readToken l G cs a_t a_t_text v_t_length z1_1 z1_2 z1_3 z1_4 (1 : Int32) v_t_needTold g_t_text H.size (q5_0, q5_1, q5_2, q5_3) hq5) gM_X4_34 mI_X4_readToken (rmk rfl) hP hD hKT hN 0 rfl rfl [0, 1] rfl rfl rfl hl.1 rfl (Nat.le_of_ble_eq_true rfl) dX4_readBook_13) hP hD hS hA [0, 1] [2] [1, 2, 0] ⟨rfl, rfl, rfl, rfl, rfl, rfl, rfl⟩ (fun H locs hP hD hS => ?_)
    refine lv_iload_n hx hb dX4_readBook_16 rfl (lv_at hl 2 rfl) ?_
    refine lv_if_le (tgt := 30) hx hb dX4_readBook_17 (by decide) (fun c_6 => ?_) (fun c_6 => ?_)
    · have hB := ifP c_6 hB
      refine lv_aload_n hx hb dX4_readBook_30 rfl (lv_at hl 0 rfl) ?_
      refine va_get (D := G) (ci := 4) (v := .int q5_2) (C := RX4) (T := TX4) (N := 8) hx hb hg inX4 hown hKT hP 0 rfl rfl 4 (by decide) (hg _ gF_X4_37) (fun _ h9 => h9) rfl dX4_readBook_31 ?_
      refine lv_iconst (v := 2) hx hb dX4_readBook_34 (by decide) ?_
      refine lv_icmp_ne (tgt := 49) hx hb dX4_readBook_35 (by decide) (fun c_7 => ?_) (fun c_7 => ?_)
      · have hB := ifN c_7 hB
        refine lv_iconst (v := 0) hx hb dX4_readBook_49 (by decide) ?_
        have hK := leafK hB hK
        have hK := elimR hK
        have hK : ((0 : Int32), q5_0, q5_1, q5_2, q5_3, (1 : Int32), z1_5, z1_6, z1_7) = R0 := hK
        subst hK
        exact W.zret (v := (0 : Int32)) (ty := .boolean) hx hb hr rfl (fun t ht hW => ⟨⟨_, (), rfl, rfl, by rw [ht]; exact hP, hD⟩, hS.F ht⟩) hS.2.2 dX4_readBook_50
      · have hB := ifP c_7 hB
        refine lv_aload_n hx hb dX4_readBook_38 rfl (lv_at hl 1 rfl) ?_
        refine lv_aload_n hx hb dX4_readBook_39 rfl (lv_at hl 0 rfl) ?_
        refine va_get (D := G) (ci := 4) (v := .int q5_3) (C := RX4) (T := TX4) (N := 8) hx hb hg inX4 hown hKT hP 0 rfl rfl 5 (by decide) (hg _ gF_X4_40) (fun _ h9 => h9) rfl dX4_readBook_40 ?_
        obtain ⟨q8, hq8, hB⟩ := bnd hB
        refine kr_VN (WC := wd_X0_hasOpinion cs a_p1 a_p1_turn a_p1_bent v_p1_opinions z1_5 z1_6 z1_7 v_p1_scribes v_p1_need) (As := [.int q5_3]) (rest := []) (r0 := q8) ⟨hx, hb, hml, hown, hg⟩ (k_X0_hasOpinion l G cs a_p1 a_p1_turn a_p1_bent v_p1_opinions z1_5 z1_6 z1_7 v_p1_scribes v_p1_need q5_3 q8 hq8) nM_X4_73_l mI_X0_hasOpinion (rmk rfl) hP hKT hN 2 rfl rfl [2] rfl rfl hl.1 rfl (Nat.le_of_ble_eq_true rfl) dX4_readBook_43 ?_
        refine lv_if_ne (tgt := 51) hx hb dX4_readBook_46 (by decide) (fun c_9 => ?_) (fun c_9 => ?_)
        · have hB := ifN c_9 hB
          refine lv_aload_n hx hb dX4_readBook_51 rfl (lv_at hl 1 rfl) ?_
          refine lv_aload_n hx hb dX4_readBook_52 rfl (lv_at hl 0 rfl) ?_
          refine va_get (D := G) (ci := 4) (v := .int q5_3) (C := RX4) (T := TX4) (N := 8) hx hb hg inX4 hown hKT hP 0 rfl rfl 5 (by decide) (hg _ gF_X4_40) (fun _ h9 => h9) rfl dX4_readBook_53 ?_
          obtain ⟨⟨q10_0, q10_1, q10_2⟩, hq10, hB⟩ := bnd hB
          refine kw_v (WC := wd_X0_addLine cs a_p1 a_p1_turn a_p1_bent v_p1_opinions z1_5 z1_6 z1_7 v_p1_scribes v_p1_need) (W1 := wd_X0_addLine cs a_p1 a_p1_turn a_p1_bent v_p1_opinions q10_0 q10_1 q10_2 v_p1_scribes v_p1_need) (W2 := wd_X4_readBook cs a_t a_t_text a_p1 a_p1_turn a_p1_bent v_t_length q5_0 q5_1 q5_2 q5_3 (1 : Int32) v_t_needTold g_t_text v_p1_opinions q10_0 q10_1 q10_2 v_p1_scribes v_p1_need) (rw_VN (As := [.int q5_3]) (rest := []) ⟨hx, hb, hml, hown, hg⟩ (k_X0_addLine l G cs a_p1 a_p1_turn a_p1_bent v_p1_opinions z1_5 z1_6 z1_7 v_p1_scribes v_p1_need q5_3 H.size (q10_0, q10_1, q10_2) hq10) nM_X4_77_l mI_X0_addLine (rmk rfl) hP hD hKT hN 2 rfl rfl [2] rfl rfl rfl hl.1 rfl (Nat.le_of_ble_eq_true rfl) dX4_readBook_56) hP hD hS hA [2] [0, 1] [0, 1, 2] ⟨rfl, rfl, rfl, rfl, rfl, rfl, rfl⟩ (fun H locs hP hD hS => ?_)
          refine lv_iinc (v := z1_0 + (1 : Int32)) (lv' := [(2, .int (z1_0 + (1 : Int32))), (0, .ref a_t), (1, .ref a_p1)]) hx hb dX4_readBook_59 hl (k := 2) rfl (inc_ok (by decide)) (by decide) rfl (fun ls hl => ?_)
          refine lv_goto (tgt := 7) hx hb dX4_readBook_62 (by decide) ?_
          have hK := leafK hB hK
          have hK := elimL hK
          exact hK H locs hP hD hS ls (lv_sub hl [1, 2, 0] rfl)
        · have hB := ifP c_9 hB
          refine lv_iconst (v := 0) hx hb dX4_readBook_49 (by decide) ?_
          have hK := leafK hB hK
          have hK := elimR hK
          have hK : ((0 : Int32), q5_0, q5_1, q5_2, q5_3, (1 : Int32), z1_5, z1_6, z1_7) = R0 := hK
          subst hK
          exact W.zret (v := (0 : Int32)) (ty := .boolean) hx hb hr rfl (fun t ht hW => ⟨⟨_, (), rfl, rfl, by rw [ht]; exact hP, hD⟩, hS.F ht⟩) hS.2.2 dX4_readBook_50
    · have hB := ifN c_6 hB
      refine lv_aload_n hx hb dX4_readBook_20 rfl (lv_at hl 0 rfl) ?_
      refine va_get (D := G) (ci := 4) (v := .int q5_2) (C := RX4) (T := TX4) (N := 8) hx hb hg inX4 hown hKT hP 0 rfl rfl 4 (by decide) (hg _ gF_X4_37) (fun _ h9 => h9) rfl dX4_readBook_21 ?_
      refine lv_iconst (v := 3) hx hb dX4_readBook_24 (by decide) ?_
      refine lv_icmp_ne (tgt := 30) hx hb dX4_readBook_25 (by decide) (fun c_11 => ?_) (fun c_11 => ?_)
      · have hB := ifN c_11 hB
        refine lv_aload_n hx hb dX4_readBook_30 rfl (lv_at hl 0 rfl) ?_
        refine va_get (D := G) (ci := 4) (v := .int q5_2) (C := RX4) (T := TX4) (N := 8) hx hb hg inX4 hown hKT hP 0 rfl rfl 4 (by decide) (hg _ gF_X4_37) (fun _ h9 => h9) rfl dX4_readBook_31 ?_
        refine lv_iconst (v := 2) hx hb dX4_readBook_34 (by decide) ?_
        refine lv_icmp_ne (tgt := 49) hx hb dX4_readBook_35 (by decide) (fun c_12 => ?_) (fun c_12 => ?_)
        · have hB := ifN c_12 hB
          refine lv_iconst (v := 0) hx hb dX4_readBook_49 (by decide) ?_
          have hK := leafK hB hK
          have hK := elimR hK
          have hK : ((0 : Int32), q5_0, q5_1, q5_2, q5_3, (1 : Int32), z1_5, z1_6, z1_7) = R0 := hK
          subst hK
          exact W.zret (v := (0 : Int32)) (ty := .boolean) hx hb hr rfl (fun t ht hW => ⟨⟨_, (), rfl, rfl, by rw [ht]; exact hP, hD⟩, hS.F ht⟩) hS.2.2 dX4_readBook_50
        · have hB := ifP c_12 hB
          refine lv_aload_n hx hb dX4_readBook_38 rfl (lv_at hl 1 rfl) ?_
          refine lv_aload_n hx hb dX4_readBook_39 rfl (lv_at hl 0 rfl) ?_
          refine va_get (D := G) (ci := 4) (v := .int q5_3) (C := RX4) (T := TX4) (N := 8) hx hb hg inX4 hown hKT hP 0 rfl rfl 5 (by decide) (hg _ gF_X4_40) (fun _ h9 => h9) rfl dX4_readBook_40 ?_
          obtain ⟨q13, hq13, hB⟩ := bnd hB
          refine kr_VN (WC := wd_X0_hasOpinion cs a_p1 a_p1_turn a_p1_bent v_p1_opinions z1_5 z1_6 z1_7 v_p1_scribes v_p1_need) (As := [.int q5_3]) (rest := []) (r0 := q13) ⟨hx, hb, hml, hown, hg⟩ (k_X0_hasOpinion l G cs a_p1 a_p1_turn a_p1_bent v_p1_opinions z1_5 z1_6 z1_7 v_p1_scribes v_p1_need q5_3 q13 hq13) nM_X4_73_l mI_X0_hasOpinion (rmk rfl) hP hKT hN 2 rfl rfl [2] rfl rfl hl.1 rfl (Nat.le_of_ble_eq_true rfl) dX4_readBook_43 ?_
          refine lv_if_ne (tgt := 51) hx hb dX4_readBook_46 (by decide) (fun c_14 => ?_) (fun c_14 => ?_)
          · have hB := ifN c_14 hB
            refine lv_aload_n hx hb dX4_readBook_51 rfl (lv_at hl 1 rfl) ?_
            refine lv_aload_n hx hb dX4_readBook_52 rfl (lv_at hl 0 rfl) ?_
            refine va_get (D := G) (ci := 4) (v := .int q5_3) (C := RX4) (T := TX4) (N := 8) hx hb hg inX4 hown hKT hP 0 rfl rfl 5 (by decide) (hg _ gF_X4_40) (fun _ h9 => h9) rfl dX4_readBook_53 ?_
            obtain ⟨⟨q15_0, q15_1, q15_2⟩, hq15, hB⟩ := bnd hB
            refine kw_v (WC := wd_X0_addLine cs a_p1 a_p1_turn a_p1_bent v_p1_opinions z1_5 z1_6 z1_7 v_p1_scribes v_p1_need) (W1 := wd_X0_addLine cs a_p1 a_p1_turn a_p1_bent v_p1_opinions q15_0 q15_1 q15_2 v_p1_scribes v_p1_need) (W2 := wd_X4_readBook cs a_t a_t_text a_p1 a_p1_turn a_p1_bent v_t_length q5_0 q5_1 q5_2 q5_3 (1 : Int32) v_t_needTold g_t_text v_p1_opinions q15_0 q15_1 q15_2 v_p1_scribes v_p1_need) (rw_VN (As := [.int q5_3]) (rest := []) ⟨hx, hb, hml, hown, hg⟩ (k_X0_addLine l G cs a_p1 a_p1_turn a_p1_bent v_p1_opinions z1_5 z1_6 z1_7 v_p1_scribes v_p1_need q5_3 H.size (q15_0, q15_1, q15_2) hq15) nM_X4_77_l mI_X0_addLine (rmk rfl) hP hD hKT hN 2 rfl rfl [2] rfl rfl rfl hl.1 rfl (Nat.le_of_ble_eq_true rfl) dX4_readBook_56) hP hD hS hA [2] [0, 1] [0, 1, 2] ⟨rfl, rfl, rfl, rfl, rfl, rfl, rfl⟩ (fun H locs hP hD hS => ?_)
            refine lv_iinc (v := z1_0 + (1 : Int32)) (lv' := [(2, .int (z1_0 + (1 : Int32))), (0, .ref a_t), (1, .ref a_p1)]) hx hb dX4_readBook_59 hl (k := 2) rfl (inc_ok (by decide)) (by decide) rfl (fun ls hl => ?_)
            refine lv_goto (tgt := 7) hx hb dX4_readBook_62 (by decide) ?_
            have hK := leafK hB hK
            have hK := elimL hK
            exact hK H locs hP hD hS ls (lv_sub hl [1, 2, 0] rfl)
          · have hB := ifP c_14 hB
            refine lv_iconst (v := 0) hx hb dX4_readBook_49 (by decide) ?_
            have hK := leafK hB hK
            have hK := elimR hK
            have hK : ((0 : Int32), q5_0, q5_1, q5_2, q5_3, (1 : Int32), z1_5, z1_6, z1_7) = R0 := hK
            subst hK
            exact W.zret (v := (0 : Int32)) (ty := .boolean) hx hb hr rfl (fun t ht hW => ⟨⟨_, (), rfl, rfl, by rw [ht]; exact hP, hD⟩, hS.F ht⟩) hS.2.2 dX4_readBook_50
      · have hB := ifP c_11 hB
        refine lv_iconst (v := 1) hx hb dX4_readBook_28 (by decide) ?_
        have hK := leafK hB hK
        have hK := elimR hK
        have hK : ((1 : Int32), q5_0, q5_1, q5_2, q5_3, (1 : Int32), z1_5, z1_6, z1_7) = R0 := hK
        subst hK
        exact W.zret (v := (1 : Int32)) (ty := .boolean) hx hb hr rfl (fun t ht hW => ⟨⟨_, (), rfl, rfl, by rw [ht]; exact hP, hD⟩, hS.F ht⟩) hS.2.2 dX4_readBook_29
