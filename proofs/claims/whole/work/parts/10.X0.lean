theorem inX0 : ∀ w ∈ u_ws RX0 TX0 8, w ∈ GW := by
  intro w h
  obtain ⟨k, hk, rfl⟩ := List.mem_map.mp h
  have hk := List.mem_range.mp hk
  rcases (show k = 0 ∨ k = 1 ∨ k = 2 ∨ k = 3 ∨ k = 4 ∨ k = 5 ∨ k = 6 ∨ k = 7 by omega) with rfl | rfl | rfl | rfl | rfl | rfl | rfl | rfl
  · exact gY_X0_opinions
  · exact gY_X0_lines
  · exact gY_X0_books
  · exact gY_X0_told
  · exact gY_X0_scribes
  · exact gY_X0_need
  · exact gY_X0_turn
  · exact gY_X0_bent
def wd_X0_begin (cs : Nat → ClassId) (a_t a_t_turn a_t_bent : Nat) (v_t_opinions : Int32) (v_t_lines : Int32) (v_t_books : Int32) (v_t_told : Int32) (v_t_scribes : Int32) (v_t_need : Int32) : va_W := [(a_t, .inr (0, [.int v_t_opinions, .int v_t_lines, .int v_t_books, .int v_t_told, .int v_t_scribes, .int v_t_need, .ref a_t_turn, .ref a_t_bent]))]
def rm_X0_begin : Room := { frames := 0, cells := 0, slots := 0, locals := 0 }
theorem mI_X0_begin : MI yX0_begin RX0 cX0_begin 1 none 0 := ⟨gI_X0_begin, gE_X0_begin, gN_X0, gC_X0_begin, by decide +kernel⟩
set_option maxHeartbeats 4000000 in
set_option maxRecDepth 100000 in
theorem k_X0_begin (l : Launch) (G : va_G) (cs : Nat → ClassId) (a_t a_t_turn a_t_bent : Nat) (v_t_opinions : Int32) (v_t_lines : Int32) (v_t_books : Int32) (v_t_told : Int32) (v_t_scribes : Int32) (v_t_need : Int32) (sz : Nat) (R0 : Int32 × Int32 × Int32 × Int32 × Int32 × Int32) (hB : f_X0_begin = some R0) : Met l yX0_begin (.code yX0_begin cX0_begin 1 none :: GW) rm_X0_begin (PcW G cs [.ref a_t] (wd_X0_begin cs a_t a_t_turn a_t_bent v_t_opinions v_t_lines v_t_books v_t_told v_t_scribes v_t_need) sz) (QcV G (va_A (wd_X0_begin cs a_t a_t_turn a_t_bent v_t_opinions v_t_lines v_t_books v_t_told v_t_scribes v_t_need) sz) (wd_X0_begin cs a_t a_t_turn a_t_bent R0.1 R0.2.1 R0.2.2.1 R0.2.2.2.1 R0.2.2.2.2.1 R0.2.2.2.2.2)) 0 0 (va_A (wd_X0_begin cs a_t a_t_turn a_t_bent v_t_opinions v_t_lines v_t_books v_t_told v_t_scribes v_t_need) sz) := by
  refine Met.ofW (cc := cX0_begin) (maxL := 1) (ret := none) (by decide) rfl ?_
  intro p e s m args below meth c s₁ B hml hv
  obtain ⟨rfl, hsz, hP, hD0, hK, hN⟩ := hv
  have hx := B.exec
  have hb := B.bytes
  have hr := B.returns
  have hts := atoms_spec (ws := .code yX0_begin cX0_begin 1 none :: GW) B.pre
  have hg : ∀ w ∈ GW, w.before _ s = true := fun w h => hts w (List.mem_cons_of_mem _ h)
  have hown : s.vm.findClass RX0 = some m.cls := findClass_of_methodNamed B.named
  have hlocks := B.notSynchronized
  subst hsz
  have hD := hD0.self (sz := s.heap.size)
  generalize hAe : va_A (wd_X0_begin cs a_t a_t_turn a_t_bent v_t_opinions v_t_lines v_t_books v_t_told v_t_scribes v_t_need) s.heap.size = A at hD ⊢
  have hA : ∀ q : Nat, s.heap.size ≤ q → A q := fun q h => by rw [← hAe]; exact Or.inr h
  have hS : va_S A s.heap s.heap [] := va_S.rf
  have hl := lv_entry ([.ref a_t]) (n := 1) (Nat.le_of_ble_eq_true rfl)
  rw [lg_entry_eq]
  generalize (lg_sl ([.ref a_t]) ++ List.replicate (1 - (lg_sl ([.ref a_t])).length) Slot.unset).toArray = ls at hl ⊢
  have hl : lv_has ls 1 [(0, .ref a_t)] := hl
  obtain ⟨y, hB, hK0⟩ : ∃ y, f_X0_begin = some y ∧ KEnd R0 y := ⟨R0, hB, rfl⟩
  have hKT := hK
  have hK := hK0
  obtain ⟨H, hHe⟩ : ∃ H, H = s.heap := ⟨_, rfl⟩
  obtain ⟨locs, hLe⟩ : ∃ L : List Loc, L = [] := ⟨_, rfl⟩
  rw [← hHe] at hP
  have hS : va_S A s.heap H locs := by rw [hHe, hLe]; exact hS
  show W p l e rm_X0_begin s m ([.ref a_t] : List Value).toArray below meth c s.heap [] 0 0 _ _
  suffices hgo : W p l e rm_X0_begin s m ([.ref a_t] : List Value).toArray below meth c H locs 0 0 (MQ below (QcV G A (wd_X0_begin cs a_t a_t_turn a_t_bent R0.1 R0.2.1 R0.2.2.1 R0.2.2.2.1 R0.2.2.2.2.1 R0.2.2.2.2.2)) ([.ref a_t] : List Value).toArray s 0 0 A) (F0 m 0 ls []) by rw [hHe, hLe] at hgo; exact hgo
  refine lv_aload_n hx hb dX0_begin_0 rfl (lv_at hl 0 rfl) ?_
  refine lv_iconst (v := 5) hx hb dX0_begin_1 (by decide) ?_
  refine va_put (D := G) (ci := 0) (v := .int (5 : Int32)) (ty := .int) (C := RX0) (T := TX0) (N := 8) hx hb hg inX0 tyX0 tyX0_ok nmX0 hown hKT hP hD hS 0 rfl rfl 0 (by decide) (hg _ gF_X0_9) (fun _ h9 => h9) rfl (by decide +kernel) rfl rfl (Nat.le_of_ble_eq_true rfl) dX0_begin_2 (fun H locs hP hD hS => ?_)
  have hP : va_P G vwCl (wd_X0_begin cs a_t a_t_turn a_t_bent (5 : Int32) v_t_lines v_t_books v_t_told v_t_scribes v_t_need) H := hP
  have hD : va_D A (wd_X0_begin cs a_t a_t_turn a_t_bent (5 : Int32) v_t_lines v_t_books v_t_told v_t_scribes v_t_need) := hD
  refine lv_aload_n hx hb dX0_begin_5 rfl (lv_at hl 0 rfl) ?_
  refine lv_iconst (v := 0) hx hb dX0_begin_6 (by decide) ?_
  refine va_put (D := G) (ci := 0) (v := .int (0 : Int32)) (ty := .int) (C := RX0) (T := TX0) (N := 8) hx hb hg inX0 tyX0 tyX0_ok nmX0 hown hKT hP hD hS 0 rfl rfl 1 (by decide) (hg _ gF_X0_28) (fun _ h9 => h9) rfl (by decide +kernel) rfl rfl (Nat.le_of_ble_eq_true rfl) dX0_begin_7 (fun H locs hP hD hS => ?_)
  have hP : va_P G vwCl (wd_X0_begin cs a_t a_t_turn a_t_bent (5 : Int32) (0 : Int32) v_t_books v_t_told v_t_scribes v_t_need) H := hP
  have hD : va_D A (wd_X0_begin cs a_t a_t_turn a_t_bent (5 : Int32) (0 : Int32) v_t_books v_t_told v_t_scribes v_t_need) := hD
  refine lv_aload_n hx hb dX0_begin_10 rfl (lv_at hl 0 rfl) ?_
  refine lv_iconst (v := 1) hx hb dX0_begin_11 (by decide) ?_
  refine va_put (D := G) (ci := 0) (v := .int (1 : Int32)) (ty := .int) (C := RX0) (T := TX0) (N := 8) hx hb hg inX0 tyX0 tyX0_ok nmX0 hown hKT hP hD hS 0 rfl rfl 2 (by decide) (hg _ gF_X0_15) (fun _ h9 => h9) rfl (by decide +kernel) rfl rfl (Nat.le_of_ble_eq_true rfl) dX0_begin_12 (fun H locs hP hD hS => ?_)
  have hP : va_P G vwCl (wd_X0_begin cs a_t a_t_turn a_t_bent (5 : Int32) (0 : Int32) (1 : Int32) v_t_told v_t_scribes v_t_need) H := hP
  have hD : va_D A (wd_X0_begin cs a_t a_t_turn a_t_bent (5 : Int32) (0 : Int32) (1 : Int32) v_t_told v_t_scribes v_t_need) := hD
  refine lv_aload_n hx hb dX0_begin_15 rfl (lv_at hl 0 rfl) ?_
  refine lv_iconst (v := 0) hx hb dX0_begin_16 (by decide) ?_
  refine va_put (D := G) (ci := 0) (v := .int (0 : Int32)) (ty := .int) (C := RX0) (T := TX0) (N := 8) hx hb hg inX0 tyX0 tyX0_ok nmX0 hown hKT hP hD hS 0 rfl rfl 3 (by decide) (hg _ gF_X0_31) (fun _ h9 => h9) rfl (by decide +kernel) rfl rfl (Nat.le_of_ble_eq_true rfl) dX0_begin_17 (fun H locs hP hD hS => ?_)
  have hP : va_P G vwCl (wd_X0_begin cs a_t a_t_turn a_t_bent (5 : Int32) (0 : Int32) (1 : Int32) (0 : Int32) v_t_scribes v_t_need) H := hP
  have hD : va_D A (wd_X0_begin cs a_t a_t_turn a_t_bent (5 : Int32) (0 : Int32) (1 : Int32) (0 : Int32) v_t_scribes v_t_need) := hD
  refine lv_aload_n hx hb dX0_begin_20 rfl (lv_at hl 0 rfl) ?_
  refine lv_iconst (v := 0) hx hb dX0_begin_21 (by decide) ?_
  refine va_put (D := G) (ci := 0) (v := .int (0 : Int32)) (ty := .int) (C := RX0) (T := TX0) (N := 8) hx hb hg inX0 tyX0 tyX0_ok nmX0 hown hKT hP hD hS 0 rfl rfl 4 (by decide) (hg _ gF_X0_34) (fun _ h9 => h9) rfl (by decide +kernel) rfl rfl (Nat.le_of_ble_eq_true rfl) dX0_begin_22 (fun H locs hP hD hS => ?_)
  have hP : va_P G vwCl (wd_X0_begin cs a_t a_t_turn a_t_bent (5 : Int32) (0 : Int32) (1 : Int32) (0 : Int32) (0 : Int32) v_t_need) H := hP
  have hD : va_D A (wd_X0_begin cs a_t a_t_turn a_t_bent (5 : Int32) (0 : Int32) (1 : Int32) (0 : Int32) (0 : Int32) v_t_need) := hD
  refine lv_aload_n hx hb dX0_begin_25 rfl (lv_at hl 0 rfl) ?_
  refine lv_iconst (v := 1) hx hb dX0_begin_26 (by decide) ?_
  refine va_put (D := G) (ci := 0) (v := .int (1 : Int32)) (ty := .int) (C := RX0) (T := TX0) (N := 8) hx hb hg inX0 tyX0 tyX0_ok nmX0 hown hKT hP hD hS 0 rfl rfl 5 (by decide) (hg _ gF_X0_18) (fun _ h9 => h9) rfl (by decide +kernel) rfl rfl (Nat.le_of_ble_eq_true rfl) dX0_begin_27 (fun H locs hP hD hS => ?_)
  have hP : va_P G vwCl (wd_X0_begin cs a_t a_t_turn a_t_bent (5 : Int32) (0 : Int32) (1 : Int32) (0 : Int32) (0 : Int32) (1 : Int32)) H := hP
  have hD : va_D A (wd_X0_begin cs a_t a_t_turn a_t_bent (5 : Int32) (0 : Int32) (1 : Int32) (0 : Int32) (0 : Int32) (1 : Int32)) := hD
  have hK := leafK hB hK
  have hK : ((5 : Int32), (0 : Int32), (1 : Int32), (0 : Int32), (0 : Int32), (1 : Int32)) = R0 := hK
  subst hK
  exact W.vret hx hb hr (fun t ht hW => ⟨⟨(), rfl, trivial, by rw [ht]; exact hP, hD⟩, hS.F ht⟩) hS.2.2 dX0_begin_30
def wd_X0_addLine (cs : Nat → ClassId) (a_t a_t_turn a_t_bent : Nat) (v_t_opinions : Int32) (v_t_lines : Int32) (v_t_books : Int32) (v_t_told : Int32) (v_t_scribes : Int32) (v_t_need : Int32) : va_W := [(a_t, .inr (0, [.int v_t_opinions, .int v_t_lines, .int v_t_books, .int v_t_told, .int v_t_scribes, .int v_t_need, .ref a_t_turn, .ref a_t_bent]))]
def rm_X0_addLine : Room := { frames := 0, cells := 0, slots := 0, locals := 0 }
theorem mI_X0_addLine : MI yX0_addLine RX0 cX0_addLine 2 none 1 := ⟨gI_X0_addLine, gE_X0_addLine, gN_X0, gC_X0_addLine, by decide +kernel⟩
set_option maxHeartbeats 4000000 in
set_option maxRecDepth 100000 in
theorem k_X0_addLine (l : Launch) (G : va_G) (cs : Nat → ClassId) (a_t a_t_turn a_t_bent : Nat) (v_t_opinions : Int32) (v_t_lines : Int32) (v_t_books : Int32) (v_t_told : Int32) (v_t_scribes : Int32) (v_t_need : Int32) (p1 : Int32) (sz : Nat) (R0 : Int32 × Int32 × Int32) (hB : f_X0_addLine v_t_opinions v_t_lines v_t_books v_t_told p1 = some R0) : Met l yX0_addLine (.code yX0_addLine cX0_addLine 2 none :: GW) rm_X0_addLine (PcW G cs [.ref a_t, .int p1] (wd_X0_addLine cs a_t a_t_turn a_t_bent v_t_opinions v_t_lines v_t_books v_t_told v_t_scribes v_t_need) sz) (QcV G (va_A (wd_X0_addLine cs a_t a_t_turn a_t_bent v_t_opinions v_t_lines v_t_books v_t_told v_t_scribes v_t_need) sz) (wd_X0_addLine cs a_t a_t_turn a_t_bent v_t_opinions R0.1 R0.2.1 R0.2.2 v_t_scribes v_t_need)) 0 0 (va_A (wd_X0_addLine cs a_t a_t_turn a_t_bent v_t_opinions v_t_lines v_t_books v_t_told v_t_scribes v_t_need) sz) := by
  refine Met.ofW (cc := cX0_addLine) (maxL := 2) (ret := none) (by decide) rfl ?_
  intro p e s m args below meth c s₁ B hml hv
  obtain ⟨rfl, hsz, hP, hD0, hK, hN⟩ := hv
  have hx := B.exec
  have hb := B.bytes
  have hr := B.returns
  have hts := atoms_spec (ws := .code yX0_addLine cX0_addLine 2 none :: GW) B.pre
  have hg : ∀ w ∈ GW, w.before _ s = true := fun w h => hts w (List.mem_cons_of_mem _ h)
  have hown : s.vm.findClass RX0 = some m.cls := findClass_of_methodNamed B.named
  have hlocks := B.notSynchronized
  subst hsz
  have hD := hD0.self (sz := s.heap.size)
  generalize hAe : va_A (wd_X0_addLine cs a_t a_t_turn a_t_bent v_t_opinions v_t_lines v_t_books v_t_told v_t_scribes v_t_need) s.heap.size = A at hD ⊢
  have hA : ∀ q : Nat, s.heap.size ≤ q → A q := fun q h => by rw [← hAe]; exact Or.inr h
  have hS : va_S A s.heap s.heap [] := va_S.rf
  have hl := lv_entry ([.ref a_t, .int p1]) (n := 2) (Nat.le_of_ble_eq_true rfl)
  rw [lg_entry_eq]
  generalize (lg_sl ([.ref a_t, .int p1]) ++ List.replicate (2 - (lg_sl ([.ref a_t, .int p1])).length) Slot.unset).toArray = ls at hl ⊢
  have hl : lv_has ls 2 [(0, .ref a_t), (1, .int p1)] := hl
  obtain ⟨y, hB, hK0⟩ : ∃ y, f_X0_addLine v_t_opinions v_t_lines v_t_books v_t_told p1 = some y ∧ KEnd R0 y := ⟨R0, hB, rfl⟩
  have hKT := hK
  have hK := hK0
  obtain ⟨H, hHe⟩ : ∃ H, H = s.heap := ⟨_, rfl⟩
  obtain ⟨locs, hLe⟩ : ∃ L : List Loc, L = [] := ⟨_, rfl⟩
  rw [← hHe] at hP
  have hS : va_S A s.heap H locs := by rw [hHe, hLe]; exact hS
  show W p l e rm_X0_addLine s m ([.ref a_t, .int p1] : List Value).toArray below meth c s.heap [] 0 0 _ _
  suffices hgo : W p l e rm_X0_addLine s m ([.ref a_t, .int p1] : List Value).toArray below meth c H locs 0 0 (MQ below (QcV G A (wd_X0_addLine cs a_t a_t_turn a_t_bent v_t_opinions R0.1 R0.2.1 R0.2.2 v_t_scribes v_t_need)) ([.ref a_t, .int p1] : List Value).toArray s 0 0 A) (F0 m 0 ls []) by rw [hHe, hLe] at hgo; exact hgo
  refine lv_aload_n hx hb dX0_addLine_0 rfl (lv_at hl 0 rfl) ?_
  refine va_get (D := G) (ci := 0) (v := .int v_t_lines) (C := RX0) (T := TX0) (N := 8) hx hb hg inX0 hown hKT hP 0 rfl rfl 1 (by decide) (hg _ gF_X0_28) (fun _ h9 => h9) rfl dX0_addLine_1 ?_
  refine lv_iconst (v := 4) hx hb dX0_addLine_4 (by decide) ?_
  refine lv_icmp_ge (tgt := 46) hx hb dX0_addLine_5 (by decide) (fun c_1 => ?_) (fun c_1 => ?_)
  · have hB := ifP c_1 hB
    have hK := leafK hB hK
    have hK : (v_t_lines, v_t_books, v_t_told) = R0 := hK
    subst hK
    exact W.vret hx hb hr (fun t ht hW => ⟨⟨(), rfl, trivial, by rw [ht]; exact hP, hD⟩, hS.F ht⟩) hS.2.2 dX0_addLine_46
  · have hB := ifN c_1 hB
    refine lv_aload_n hx hb dX0_addLine_8 rfl (lv_at hl 0 rfl) ?_
    refine lv_dup hx hb dX0_addLine_9 rfl ?_
    refine va_get (D := G) (ci := 0) (v := .int v_t_lines) (C := RX0) (T := TX0) (N := 8) hx hb hg inX0 hown hKT hP 0 rfl rfl 1 (by decide) (hg _ gF_X0_28) (fun _ h9 => h9) rfl dX0_addLine_10 ?_
    refine lv_iconst (v := 1) hx hb dX0_addLine_13 (by decide) ?_
    refine lv_iadd hx hb dX0_addLine_14 ?_
    refine va_put (D := G) (ci := 0) (v := .int (v_t_lines + (1 : Int32))) (ty := .int) (C := RX0) (T := TX0) (N := 8) hx hb hg inX0 tyX0 tyX0_ok nmX0 hown hKT hP hD hS 0 rfl rfl 1 (by decide) (hg _ gF_X0_28) (fun _ h9 => h9) rfl (by decide +kernel) rfl rfl (Nat.le_of_ble_eq_true rfl) dX0_addLine_15 (fun H locs hP hD hS => ?_)
    have hP : va_P G vwCl (wd_X0_addLine cs a_t a_t_turn a_t_bent v_t_opinions (v_t_lines + (1 : Int32)) v_t_books v_t_told v_t_scribes v_t_need) H := hP
    have hD : va_D A (wd_X0_addLine cs a_t a_t_turn a_t_bent v_t_opinions (v_t_lines + (1 : Int32)) v_t_books v_t_told v_t_scribes v_t_need) := hD
    refine lv_aload_n hx hb dX0_addLine_18 rfl (lv_at hl 0 rfl) ?_
    refine lv_dup hx hb dX0_addLine_19 rfl ?_
    refine va_get (D := G) (ci := 0) (v := .int v_t_books) (C := RX0) (T := TX0) (N := 8) hx hb hg inX0 hown hKT hP 0 rfl rfl 2 (by decide) (hg _ gF_X0_15) (fun _ h9 => h9) rfl dX0_addLine_20 ?_
    refine lv_aload_n hx hb dX0_addLine_23 rfl (lv_at hl 0 rfl) ?_
    refine va_get (D := G) (ci := 0) (v := .int v_t_opinions) (C := RX0) (T := TX0) (N := 8) hx hb hg inX0 hown hKT hP 0 rfl rfl 0 (by decide) (hg _ gF_X0_9) (fun _ h9 => h9) rfl dX0_addLine_24 ?_
    refine lv_imul hx hb dX0_addLine_27 ?_
    refine va_put (D := G) (ci := 0) (v := .int (v_t_books * v_t_opinions)) (ty := .int) (C := RX0) (T := TX0) (N := 8) hx hb hg inX0 tyX0 tyX0_ok nmX0 hown hKT hP hD hS 0 rfl rfl 2 (by decide) (hg _ gF_X0_15) (fun _ h9 => h9) rfl (by decide +kernel) rfl rfl (Nat.le_of_ble_eq_true rfl) dX0_addLine_28 (fun H locs hP hD hS => ?_)
    have hP : va_P G vwCl (wd_X0_addLine cs a_t a_t_turn a_t_bent v_t_opinions (v_t_lines + (1 : Int32)) (v_t_books * v_t_opinions) v_t_told v_t_scribes v_t_need) H := hP
    have hD : va_D A (wd_X0_addLine cs a_t a_t_turn a_t_bent v_t_opinions (v_t_lines + (1 : Int32)) (v_t_books * v_t_opinions) v_t_told v_t_scribes v_t_need) := hD
    refine lv_aload_n hx hb dX0_addLine_31 rfl (lv_at hl 0 rfl) ?_
    refine lv_aload_n hx hb dX0_addLine_32 rfl (lv_at hl 0 rfl) ?_
    refine va_get (D := G) (ci := 0) (v := .int v_t_told) (C := RX0) (T := TX0) (N := 8) hx hb hg inX0 hown hKT hP 0 rfl rfl 3 (by decide) (hg _ gF_X0_31) (fun _ h9 => h9) rfl dX0_addLine_33 ?_
    refine lv_aload_n hx hb dX0_addLine_36 rfl (lv_at hl 0 rfl) ?_
    refine va_get (D := G) (ci := 0) (v := .int v_t_opinions) (C := RX0) (T := TX0) (N := 8) hx hb hg inX0 hown hKT hP 0 rfl rfl 0 (by decide) (hg _ gF_X0_9) (fun _ h9 => h9) rfl dX0_addLine_37 ?_
    refine lv_imul hx hb dX0_addLine_40 ?_
    refine lv_iload_n hx hb dX0_addLine_41 rfl (lv_at hl 1 rfl) ?_
    refine lv_iadd hx hb dX0_addLine_42 ?_
    refine va_put (D := G) (ci := 0) (v := .int ((v_t_told * v_t_opinions) + p1)) (ty := .int) (C := RX0) (T := TX0) (N := 8) hx hb hg inX0 tyX0 tyX0_ok nmX0 hown hKT hP hD hS 0 rfl rfl 3 (by decide) (hg _ gF_X0_31) (fun _ h9 => h9) rfl (by decide +kernel) rfl rfl (Nat.le_of_ble_eq_true rfl) dX0_addLine_43 (fun H locs hP hD hS => ?_)
    have hP : va_P G vwCl (wd_X0_addLine cs a_t a_t_turn a_t_bent v_t_opinions (v_t_lines + (1 : Int32)) (v_t_books * v_t_opinions) ((v_t_told * v_t_opinions) + p1) v_t_scribes v_t_need) H := hP
    have hD : va_D A (wd_X0_addLine cs a_t a_t_turn a_t_bent v_t_opinions (v_t_lines + (1 : Int32)) (v_t_books * v_t_opinions) ((v_t_told * v_t_opinions) + p1) v_t_scribes v_t_need) := hD
    have hK := leafK hB hK
    have hK : (v_t_lines + (1 : Int32), v_t_books * v_t_opinions, (v_t_told * v_t_opinions) + p1) = R0 := hK
    subst hK
    exact W.vret hx hb hr (fun t ht hW => ⟨⟨(), rfl, trivial, by rw [ht]; exact hP, hD⟩, hS.F ht⟩) hS.2.2 dX0_addLine_46
def wd_X0_addScribe (cs : Nat → ClassId) (a_t a_t_turn a_t_bent : Nat) (v_t_opinions : Int32) (v_t_lines : Int32) (v_t_books : Int32) (v_t_told : Int32) (v_t_scribes : Int32) (v_t_need : Int32) (g_t_turn : Nat → Int32) (g_t_bent : Nat → Int32) : va_W := [(a_t, .inr (0, [.int v_t_opinions, .int v_t_lines, .int v_t_books, .int v_t_told, .int v_t_scribes, .int v_t_need, .ref a_t_turn, .ref a_t_bent])), (a_t_turn, .inl (cs 0, 6, .inl g_t_turn)), (a_t_bent, .inl (cs 0, 6, .inl g_t_bent))]
def rm_X0_addScribe : Room := { frames := 0, cells := 0, slots := 0, locals := 0 }
theorem mI_X0_addScribe : MI yX0_addScribe RX0 cX0_addScribe 3 none 2 := ⟨gI_X0_addScribe, gE_X0_addScribe, gN_X0, gC_X0_addScribe, by decide +kernel⟩
set_option maxHeartbeats 4000000 in
set_option maxRecDepth 100000 in
theorem k_X0_addScribe (l : Launch) (G : va_G) (cs : Nat → ClassId) (a_t a_t_turn a_t_bent : Nat) (v_t_opinions : Int32) (v_t_lines : Int32) (v_t_books : Int32) (v_t_told : Int32) (v_t_scribes : Int32) (v_t_need : Int32) (g_t_turn : Nat → Int32) (g_t_bent : Nat → Int32) (p1 p2 : Int32) (sz : Nat) (R0 : Int32 × (Nat → Int32) × (Nat → Int32)) (hB : f_X0_addScribe v_t_scribes g_t_turn g_t_bent p1 p2 = some R0) : Met l yX0_addScribe (.code yX0_addScribe cX0_addScribe 3 none :: GW) rm_X0_addScribe (PcW G cs [.ref a_t, .int p1, .int p2] (wd_X0_addScribe cs a_t a_t_turn a_t_bent v_t_opinions v_t_lines v_t_books v_t_told v_t_scribes v_t_need g_t_turn g_t_bent) sz) (QcV G (va_A (wd_X0_addScribe cs a_t a_t_turn a_t_bent v_t_opinions v_t_lines v_t_books v_t_told v_t_scribes v_t_need g_t_turn g_t_bent) sz) (wd_X0_addScribe cs a_t a_t_turn a_t_bent v_t_opinions v_t_lines v_t_books v_t_told R0.1 v_t_need R0.2.1 R0.2.2)) 0 0 (va_A (wd_X0_addScribe cs a_t a_t_turn a_t_bent v_t_opinions v_t_lines v_t_books v_t_told v_t_scribes v_t_need g_t_turn g_t_bent) sz) := by
  refine Met.ofW (cc := cX0_addScribe) (maxL := 3) (ret := none) (by decide) rfl ?_
  intro p e s m args below meth c s₁ B hml hv
  obtain ⟨rfl, hsz, hP, hD0, hK, hN⟩ := hv
  have hx := B.exec
  have hb := B.bytes
  have hr := B.returns
  have hts := atoms_spec (ws := .code yX0_addScribe cX0_addScribe 3 none :: GW) B.pre
  have hg : ∀ w ∈ GW, w.before _ s = true := fun w h => hts w (List.mem_cons_of_mem _ h)
  have hown : s.vm.findClass RX0 = some m.cls := findClass_of_methodNamed B.named
  have hlocks := B.notSynchronized
  subst hsz
  have hD := hD0.self (sz := s.heap.size)
  generalize hAe : va_A (wd_X0_addScribe cs a_t a_t_turn a_t_bent v_t_opinions v_t_lines v_t_books v_t_told v_t_scribes v_t_need g_t_turn g_t_bent) s.heap.size = A at hD ⊢
  have hA : ∀ q : Nat, s.heap.size ≤ q → A q := fun q h => by rw [← hAe]; exact Or.inr h
  have hS : va_S A s.heap s.heap [] := va_S.rf
  have hl := lv_entry ([.ref a_t, .int p1, .int p2]) (n := 3) (Nat.le_of_ble_eq_true rfl)
  rw [lg_entry_eq]
  generalize (lg_sl ([.ref a_t, .int p1, .int p2]) ++ List.replicate (3 - (lg_sl ([.ref a_t, .int p1, .int p2])).length) Slot.unset).toArray = ls at hl ⊢
  have hl : lv_has ls 3 [(0, .ref a_t), (1, .int p1), (2, .int p2)] := hl
  obtain ⟨y, hB, hK0⟩ : ∃ y, f_X0_addScribe v_t_scribes g_t_turn g_t_bent p1 p2 = some y ∧ KEnd R0 y := ⟨R0, hB, rfl⟩
  have hKT := hK
  have hK := hK0
  obtain ⟨H, hHe⟩ : ∃ H, H = s.heap := ⟨_, rfl⟩
  obtain ⟨locs, hLe⟩ : ∃ L : List Loc, L = [] := ⟨_, rfl⟩
  rw [← hHe] at hP
  have hS : va_S A s.heap H locs := by rw [hHe, hLe]; exact hS
  show W p l e rm_X0_addScribe s m ([.ref a_t, .int p1, .int p2] : List Value).toArray below meth c s.heap [] 0 0 _ _
  suffices hgo : W p l e rm_X0_addScribe s m ([.ref a_t, .int p1, .int p2] : List Value).toArray below meth c H locs 0 0 (MQ below (QcV G A (wd_X0_addScribe cs a_t a_t_turn a_t_bent v_t_opinions v_t_lines v_t_books v_t_told R0.1 v_t_need R0.2.1 R0.2.2)) ([.ref a_t, .int p1, .int p2] : List Value).toArray s 0 0 A) (F0 m 0 ls []) by rw [hHe, hLe] at hgo; exact hgo
  refine lv_aload_n hx hb dX0_addScribe_0 rfl (lv_at hl 0 rfl) ?_
  refine va_get (D := G) (ci := 0) (v := .int v_t_scribes) (C := RX0) (T := TX0) (N := 8) hx hb hg inX0 hown hKT hP 0 rfl rfl 4 (by decide) (hg _ gF_X0_34) (fun _ h9 => h9) rfl dX0_addScribe_1 ?_
  refine lv_if_lt (tgt := 46) hx hb dX0_addScribe_4 (by decide) (fun c_1 => ?_) (fun c_1 => ?_)
  · have hB := ifP c_1 hB
    have hK := leafK hB hK
    have hK : (v_t_scribes, g_t_turn, g_t_bent) = R0 := hK
    subst hK
    exact W.vret hx hb hr (fun t ht hW => ⟨⟨(), rfl, trivial, by rw [ht]; exact hP, hD⟩, hS.F ht⟩) hS.2.2 dX0_addScribe_46
  · have hB := ifN c_1 hB
    refine lv_aload_n hx hb dX0_addScribe_7 rfl (lv_at hl 0 rfl) ?_
    refine va_get (D := G) (ci := 0) (v := .int v_t_scribes) (C := RX0) (T := TX0) (N := 8) hx hb hg inX0 hown hKT hP 0 rfl rfl 4 (by decide) (hg _ gF_X0_34) (fun _ h9 => h9) rfl dX0_addScribe_8 ?_
    refine lv_bipush (v := 6) hx hb dX0_addScribe_11 (by decide) ?_
    refine lv_icmp_ge (tgt := 46) hx hb dX0_addScribe_13 (by decide) (fun c_2 => ?_) (fun c_2 => ?_)
    · have hB := ifP c_2 hB
      have hK := leafK hB hK
      have hK : (v_t_scribes, g_t_turn, g_t_bent) = R0 := hK
      subst hK
      exact W.vret hx hb hr (fun t ht hW => ⟨⟨(), rfl, trivial, by rw [ht]; exact hP, hD⟩, hS.F ht⟩) hS.2.2 dX0_addScribe_46
    · have hB := ifN c_2 hB
      refine lv_aload_n hx hb dX0_addScribe_16 rfl (lv_at hl 0 rfl) ?_
      refine va_get (D := G) (ci := 0) (v := .ref a_t_turn) (C := RX0) (T := TX0) (N := 8) hx hb hg inX0 hown hKT hP 0 rfl rfl 6 (by decide) (hg _ gF_X0_21) (fun _ h9 => h9) rfl dX0_addScribe_17 ?_
      refine lv_aload_n hx hb dX0_addScribe_20 rfl (lv_at hl 0 rfl) ?_
      refine va_get (D := G) (ci := 0) (v := .int v_t_scribes) (C := RX0) (T := TX0) (N := 8) hx hb hg inX0 hown hKT hP 0 rfl rfl 4 (by decide) (hg _ gF_X0_34) (fun _ h9 => h9) rfl dX0_addScribe_21 ?_
      refine lv_iload_n hx hb dX0_addScribe_24 rfl (lv_at hl 1 rfl) ?_
      obtain ⟨h_3, hB⟩ := ifS hB
      refine va_iast hx hb hKT hP hD hS 1 0 rfl rfl h_3 dX0_addScribe_25 (fun H locs hP hD hS => ?_)
      have hP : va_P G vwCl (wd_X0_addScribe cs a_t a_t_turn a_t_bent v_t_opinions v_t_lines v_t_books v_t_told v_t_scribes v_t_need (upd g_t_turn v_t_scribes.toNatClampNeg p1) g_t_bent) H := hP
      have hD : va_D A (wd_X0_addScribe cs a_t a_t_turn a_t_bent v_t_opinions v_t_lines v_t_books v_t_told v_t_scribes v_t_need (upd g_t_turn v_t_scribes.toNatClampNeg p1) g_t_bent) := hD
      refine lv_aload_n hx hb dX0_addScribe_26 rfl (lv_at hl 0 rfl) ?_
      refine va_get (D := G) (ci := 0) (v := .ref a_t_bent) (C := RX0) (T := TX0) (N := 8) hx hb hg inX0 hown hKT hP 0 rfl rfl 7 (by decide) (hg _ gF_X0_25) (fun _ h9 => h9) rfl dX0_addScribe_27 ?_
      refine lv_aload_n hx hb dX0_addScribe_30 rfl (lv_at hl 0 rfl) ?_
      refine va_get (D := G) (ci := 0) (v := .int v_t_scribes) (C := RX0) (T := TX0) (N := 8) hx hb hg inX0 hown hKT hP 0 rfl rfl 4 (by decide) (hg _ gF_X0_34) (fun _ h9 => h9) rfl dX0_addScribe_31 ?_
      refine lv_iload_n hx hb dX0_addScribe_34 rfl (lv_at hl 2 rfl) ?_
      obtain ⟨h_4, hB⟩ := ifS hB
      refine va_iast hx hb hKT hP hD hS 2 0 rfl rfl h_4 dX0_addScribe_35 (fun H locs hP hD hS => ?_)
      have hP : va_P G vwCl (wd_X0_addScribe cs a_t a_t_turn a_t_bent v_t_opinions v_t_lines v_t_books v_t_told v_t_scribes v_t_need (upd g_t_turn v_t_scribes.toNatClampNeg p1) (upd g_t_bent v_t_scribes.toNatClampNeg p2)) H := hP
      have hD : va_D A (wd_X0_addScribe cs a_t a_t_turn a_t_bent v_t_opinions v_t_lines v_t_books v_t_told v_t_scribes v_t_need (upd g_t_turn v_t_scribes.toNatClampNeg p1) (upd g_t_bent v_t_scribes.toNatClampNeg p2)) := hD
      refine lv_aload_n hx hb dX0_addScribe_36 rfl (lv_at hl 0 rfl) ?_
      refine lv_dup hx hb dX0_addScribe_37 rfl ?_
      refine va_get (D := G) (ci := 0) (v := .int v_t_scribes) (C := RX0) (T := TX0) (N := 8) hx hb hg inX0 hown hKT hP 0 rfl rfl 4 (by decide) (hg _ gF_X0_34) (fun _ h9 => h9) rfl dX0_addScribe_38 ?_
      refine lv_iconst (v := 1) hx hb dX0_addScribe_41 (by decide) ?_
      refine lv_iadd hx hb dX0_addScribe_42 ?_
      refine va_put (D := G) (ci := 0) (v := .int (v_t_scribes + (1 : Int32))) (ty := .int) (C := RX0) (T := TX0) (N := 8) hx hb hg inX0 tyX0 tyX0_ok nmX0 hown hKT hP hD hS 0 rfl rfl 4 (by decide) (hg _ gF_X0_34) (fun _ h9 => h9) rfl (by decide +kernel) rfl rfl (Nat.le_of_ble_eq_true rfl) dX0_addScribe_43 (fun H locs hP hD hS => ?_)
      have hP : va_P G vwCl (wd_X0_addScribe cs a_t a_t_turn a_t_bent v_t_opinions v_t_lines v_t_books v_t_told (v_t_scribes + (1 : Int32)) v_t_need (upd g_t_turn v_t_scribes.toNatClampNeg p1) (upd g_t_bent v_t_scribes.toNatClampNeg p2)) H := hP
      have hD : va_D A (wd_X0_addScribe cs a_t a_t_turn a_t_bent v_t_opinions v_t_lines v_t_books v_t_told (v_t_scribes + (1 : Int32)) v_t_need (upd g_t_turn v_t_scribes.toNatClampNeg p1) (upd g_t_bent v_t_scribes.toNatClampNeg p2)) := hD
      have hK := leafK hB hK
      have hK : (v_t_scribes + (1 : Int32), upd g_t_turn v_t_scribes.toNatClampNeg p1, upd g_t_bent v_t_scribes.toNatClampNeg p2) = R0 := hK
      subst hK
      exact W.vret hx hb hr (fun t ht hW => ⟨⟨(), rfl, trivial, by rw [ht]; exact hP, hD⟩, hS.F ht⟩) hS.2.2 dX0_addScribe_46
def wd_X0_hasOpinion (cs : Nat → ClassId) (a_t a_t_turn a_t_bent : Nat) (v_t_opinions : Int32) (v_t_lines : Int32) (v_t_books : Int32) (v_t_told : Int32) (v_t_scribes : Int32) (v_t_need : Int32) : va_W := [(a_t, .inr (0, [.int v_t_opinions, .int v_t_lines, .int v_t_books, .int v_t_told, .int v_t_scribes, .int v_t_need, .ref a_t_turn, .ref a_t_bent]))]
def rm_X0_hasOpinion : Room := { frames := 0, cells := 0, slots := 0, locals := 0 }
theorem mI_X0_hasOpinion : MI yX0_hasOpinion RX0 cX0_hasOpinion 2 (some .boolean) 1 := ⟨gI_X0_hasOpinion, gE_X0_hasOpinion, gN_X0, gC_X0_hasOpinion, by decide +kernel⟩
set_option maxHeartbeats 4000000 in
set_option maxRecDepth 100000 in
theorem k_X0_hasOpinion (l : Launch) (G : va_G) (cs : Nat → ClassId) (a_t a_t_turn a_t_bent : Nat) (v_t_opinions : Int32) (v_t_lines : Int32) (v_t_books : Int32) (v_t_told : Int32) (v_t_scribes : Int32) (v_t_need : Int32) (p1 : Int32) (R0 : Int32) (hB : f_X0_hasOpinion v_t_opinions p1 = some R0) : Met l yX0_hasOpinion (.code yX0_hasOpinion cX0_hasOpinion 2 (some .boolean) :: GW) rm_X0_hasOpinion (PcR G cs [.ref a_t, .int p1] (wd_X0_hasOpinion cs a_t a_t_turn a_t_bent v_t_opinions v_t_lines v_t_books v_t_told v_t_scribes v_t_need)) (vp_Si (fun r => r = R0)) 0 0 (fun _ => False) := by
  refine Met.ofW (cc := cX0_hasOpinion) (maxL := 2) (ret := (some .boolean)) (by decide) rfl ?_
  intro p e s m args below meth c s₁ B hml hv
  obtain ⟨rfl, hP, hK, hN⟩ := hv
  have hx := B.exec
  have hb := B.bytes
  have hr := B.returns
  have hts := atoms_spec (ws := .code yX0_hasOpinion cX0_hasOpinion 2 (some .boolean) :: GW) B.pre
  have hg : ∀ w ∈ GW, w.before _ s = true := fun w h => hts w (List.mem_cons_of_mem _ h)
  have hown : s.vm.findClass RX0 = some m.cls := findClass_of_methodNamed B.named
  have hlocks := B.notSynchronized
  have hl := lv_entry ([.ref a_t, .int p1]) (n := 2) (Nat.le_of_ble_eq_true rfl)
  rw [lg_entry_eq]
  generalize (lg_sl ([.ref a_t, .int p1]) ++ List.replicate (2 - (lg_sl ([.ref a_t, .int p1])).length) Slot.unset).toArray = ls at hl ⊢
  have hl : lv_has ls 2 [(0, .ref a_t), (1, .int p1)] := hl
  obtain ⟨y, hB, hK0⟩ : ∃ y, f_X0_hasOpinion v_t_opinions p1 = some y ∧ KEnd R0 y := ⟨R0, hB, rfl⟩
  have hKT := hK
  have hK := hK0
  show W p l e rm_X0_hasOpinion s m ([.ref a_t, .int p1] : List Value).toArray below meth c s.heap [] 0 0 (MQ below (vp_Si (fun r => r = R0)) ([.ref a_t, .int p1] : List Value).toArray s 0 0 (fun _ => False)) (F0 m 0 ls [])
  refine lv_iload_n hx hb dX0_hasOpinion_0 rfl (lv_at hl 1 rfl) ?_
  refine lv_if_lt (tgt := 16) hx hb dX0_hasOpinion_1 (by decide) (fun c_1 => ?_) (fun c_1 => ?_)
  · have hB := ifP c_1 hB
    refine lv_iconst (v := 0) hx hb dX0_hasOpinion_16 (by decide) ?_
    have hK := leafK hB hK
    have hK : (0 : Int32) = R0 := hK
    subst hK
    exact W.zret (v := (0 : Int32)) (ty := .boolean) hx hb hr rfl (fun t ht hW => ⟨_, rfl, rfl, ht⟩) (fun _ h => by cases h) dX0_hasOpinion_17
  · have hB := ifN c_1 hB
    refine lv_iload_n hx hb dX0_hasOpinion_4 rfl (lv_at hl 1 rfl) ?_
    refine lv_aload_n hx hb dX0_hasOpinion_5 rfl (lv_at hl 0 rfl) ?_
    refine va_get (D := G) (ci := 0) (v := .int v_t_opinions) (C := RX0) (T := TX0) (N := 8) hx hb hg inX0 hown hKT hP 0 rfl rfl 0 (by decide) (hg _ gF_X0_9) (fun _ h9 => h9) rfl dX0_hasOpinion_6 ?_
    refine lv_icmp_ge (tgt := 16) hx hb dX0_hasOpinion_9 (by decide) (fun c_2 => ?_) (fun c_2 => ?_)
    · have hB := ifP c_2 hB
      refine lv_iconst (v := 0) hx hb dX0_hasOpinion_16 (by decide) ?_
      have hK := leafK hB hK
      have hK : (0 : Int32) = R0 := hK
      subst hK
      exact W.zret (v := (0 : Int32)) (ty := .boolean) hx hb hr rfl (fun t ht hW => ⟨_, rfl, rfl, ht⟩) (fun _ h => by cases h) dX0_hasOpinion_17
    · have hB := ifN c_2 hB
      refine lv_iconst (v := 1) hx hb dX0_hasOpinion_12 (by decide) ?_
      refine lv_goto (tgt := 17) hx hb dX0_hasOpinion_13 (by decide) ?_
      have hK := leafK hB hK
      have hK : (1 : Int32) = R0 := hK
      subst hK
      exact W.zret (v := (1 : Int32)) (ty := .boolean) hx hb hr rfl (fun t ht hW => ⟨_, rfl, rfl, ht⟩) (fun _ h => by cases h) dX0_hasOpinion_17
def wd_X0_hasLine (cs : Nat → ClassId) (a_t a_t_turn a_t_bent : Nat) (v_t_opinions : Int32) (v_t_lines : Int32) (v_t_books : Int32) (v_t_told : Int32) (v_t_scribes : Int32) (v_t_need : Int32) : va_W := [(a_t, .inr (0, [.int v_t_opinions, .int v_t_lines, .int v_t_books, .int v_t_told, .int v_t_scribes, .int v_t_need, .ref a_t_turn, .ref a_t_bent]))]
def rm_X0_hasLine : Room := { frames := 0, cells := 0, slots := 0, locals := 0 }
theorem mI_X0_hasLine : MI yX0_hasLine RX0 cX0_hasLine 2 (some .boolean) 1 := ⟨gI_X0_hasLine, gE_X0_hasLine, gN_X0, gC_X0_hasLine, by decide +kernel⟩
set_option maxHeartbeats 4000000 in
set_option maxRecDepth 100000 in
theorem k_X0_hasLine (l : Launch) (G : va_G) (cs : Nat → ClassId) (a_t a_t_turn a_t_bent : Nat) (v_t_opinions : Int32) (v_t_lines : Int32) (v_t_books : Int32) (v_t_told : Int32) (v_t_scribes : Int32) (v_t_need : Int32) (p1 : Int32) (R0 : Int32) (hB : f_X0_hasLine v_t_lines p1 = some R0) : Met l yX0_hasLine (.code yX0_hasLine cX0_hasLine 2 (some .boolean) :: GW) rm_X0_hasLine (PcR G cs [.ref a_t, .int p1] (wd_X0_hasLine cs a_t a_t_turn a_t_bent v_t_opinions v_t_lines v_t_books v_t_told v_t_scribes v_t_need)) (vp_Si (fun r => r = R0)) 0 0 (fun _ => False) := by
  refine Met.ofW (cc := cX0_hasLine) (maxL := 2) (ret := (some .boolean)) (by decide) rfl ?_
  intro p e s m args below meth c s₁ B hml hv
  obtain ⟨rfl, hP, hK, hN⟩ := hv
  have hx := B.exec
  have hb := B.bytes
  have hr := B.returns
  have hts := atoms_spec (ws := .code yX0_hasLine cX0_hasLine 2 (some .boolean) :: GW) B.pre
  have hg : ∀ w ∈ GW, w.before _ s = true := fun w h => hts w (List.mem_cons_of_mem _ h)
  have hown : s.vm.findClass RX0 = some m.cls := findClass_of_methodNamed B.named
  have hlocks := B.notSynchronized
  have hl := lv_entry ([.ref a_t, .int p1]) (n := 2) (Nat.le_of_ble_eq_true rfl)
  rw [lg_entry_eq]
  generalize (lg_sl ([.ref a_t, .int p1]) ++ List.replicate (2 - (lg_sl ([.ref a_t, .int p1])).length) Slot.unset).toArray = ls at hl ⊢
  have hl : lv_has ls 2 [(0, .ref a_t), (1, .int p1)] := hl
  obtain ⟨y, hB, hK0⟩ : ∃ y, f_X0_hasLine v_t_lines p1 = some y ∧ KEnd R0 y := ⟨R0, hB, rfl⟩
  have hKT := hK
  have hK := hK0
  show W p l e rm_X0_hasLine s m ([.ref a_t, .int p1] : List Value).toArray below meth c s.heap [] 0 0 (MQ below (vp_Si (fun r => r = R0)) ([.ref a_t, .int p1] : List Value).toArray s 0 0 (fun _ => False)) (F0 m 0 ls [])
  refine lv_iload_n hx hb dX0_hasLine_0 rfl (lv_at hl 1 rfl) ?_
  refine lv_if_lt (tgt := 16) hx hb dX0_hasLine_1 (by decide) (fun c_1 => ?_) (fun c_1 => ?_)
  · have hB := ifP c_1 hB
    refine lv_iconst (v := 0) hx hb dX0_hasLine_16 (by decide) ?_
    have hK := leafK hB hK
    have hK : (0 : Int32) = R0 := hK
    subst hK
    exact W.zret (v := (0 : Int32)) (ty := .boolean) hx hb hr rfl (fun t ht hW => ⟨_, rfl, rfl, ht⟩) (fun _ h => by cases h) dX0_hasLine_17
  · have hB := ifN c_1 hB
    refine lv_iload_n hx hb dX0_hasLine_4 rfl (lv_at hl 1 rfl) ?_
    refine lv_aload_n hx hb dX0_hasLine_5 rfl (lv_at hl 0 rfl) ?_
    refine va_get (D := G) (ci := 0) (v := .int v_t_lines) (C := RX0) (T := TX0) (N := 8) hx hb hg inX0 hown hKT hP 0 rfl rfl 1 (by decide) (hg _ gF_X0_28) (fun _ h9 => h9) rfl dX0_hasLine_6 ?_
    refine lv_icmp_ge (tgt := 16) hx hb dX0_hasLine_9 (by decide) (fun c_2 => ?_) (fun c_2 => ?_)
    · have hB := ifP c_2 hB
      refine lv_iconst (v := 0) hx hb dX0_hasLine_16 (by decide) ?_
      have hK := leafK hB hK
      have hK : (0 : Int32) = R0 := hK
      subst hK
      exact W.zret (v := (0 : Int32)) (ty := .boolean) hx hb hr rfl (fun t ht hW => ⟨_, rfl, rfl, ht⟩) (fun _ h => by cases h) dX0_hasLine_17
    · have hB := ifN c_2 hB
      refine lv_iconst (v := 1) hx hb dX0_hasLine_12 (by decide) ?_
      refine lv_goto (tgt := 17) hx hb dX0_hasLine_13 (by decide) ?_
      have hK := leafK hB hK
      have hK : (1 : Int32) = R0 := hK
      subst hK
      exact W.zret (v := (1 : Int32)) (ty := .boolean) hx hb hr rfl (fun t ht hW => ⟨_, rfl, rfl, ht⟩) (fun _ h => by cases h) dX0_hasLine_17
def wd_X0_hasScribe (cs : Nat → ClassId) (a_t a_t_turn a_t_bent : Nat) (v_t_opinions : Int32) (v_t_lines : Int32) (v_t_books : Int32) (v_t_told : Int32) (v_t_scribes : Int32) (v_t_need : Int32) : va_W := [(a_t, .inr (0, [.int v_t_opinions, .int v_t_lines, .int v_t_books, .int v_t_told, .int v_t_scribes, .int v_t_need, .ref a_t_turn, .ref a_t_bent]))]
def rm_X0_hasScribe : Room := { frames := 0, cells := 0, slots := 0, locals := 0 }
theorem mI_X0_hasScribe : MI yX0_hasScribe RX0 cX0_hasScribe 2 (some .boolean) 1 := ⟨gI_X0_hasScribe, gE_X0_hasScribe, gN_X0, gC_X0_hasScribe, by decide +kernel⟩
set_option maxHeartbeats 4000000 in
set_option maxRecDepth 100000 in
theorem k_X0_hasScribe (l : Launch) (G : va_G) (cs : Nat → ClassId) (a_t a_t_turn a_t_bent : Nat) (v_t_opinions : Int32) (v_t_lines : Int32) (v_t_books : Int32) (v_t_told : Int32) (v_t_scribes : Int32) (v_t_need : Int32) (p1 : Int32) (R0 : Int32) (hB : f_X0_hasScribe v_t_scribes p1 = some R0) : Met l yX0_hasScribe (.code yX0_hasScribe cX0_hasScribe 2 (some .boolean) :: GW) rm_X0_hasScribe (PcR G cs [.ref a_t, .int p1] (wd_X0_hasScribe cs a_t a_t_turn a_t_bent v_t_opinions v_t_lines v_t_books v_t_told v_t_scribes v_t_need)) (vp_Si (fun r => r = R0)) 0 0 (fun _ => False) := by
  refine Met.ofW (cc := cX0_hasScribe) (maxL := 2) (ret := (some .boolean)) (by decide) rfl ?_
  intro p e s m args below meth c s₁ B hml hv
  obtain ⟨rfl, hP, hK, hN⟩ := hv
  have hx := B.exec
  have hb := B.bytes
  have hr := B.returns
  have hts := atoms_spec (ws := .code yX0_hasScribe cX0_hasScribe 2 (some .boolean) :: GW) B.pre
  have hg : ∀ w ∈ GW, w.before _ s = true := fun w h => hts w (List.mem_cons_of_mem _ h)
  have hown : s.vm.findClass RX0 = some m.cls := findClass_of_methodNamed B.named
  have hlocks := B.notSynchronized
  have hl := lv_entry ([.ref a_t, .int p1]) (n := 2) (Nat.le_of_ble_eq_true rfl)
  rw [lg_entry_eq]
  generalize (lg_sl ([.ref a_t, .int p1]) ++ List.replicate (2 - (lg_sl ([.ref a_t, .int p1])).length) Slot.unset).toArray = ls at hl ⊢
  have hl : lv_has ls 2 [(0, .ref a_t), (1, .int p1)] := hl
  obtain ⟨y, hB, hK0⟩ : ∃ y, f_X0_hasScribe v_t_scribes p1 = some y ∧ KEnd R0 y := ⟨R0, hB, rfl⟩
  have hKT := hK
  have hK := hK0
  show W p l e rm_X0_hasScribe s m ([.ref a_t, .int p1] : List Value).toArray below meth c s.heap [] 0 0 (MQ below (vp_Si (fun r => r = R0)) ([.ref a_t, .int p1] : List Value).toArray s 0 0 (fun _ => False)) (F0 m 0 ls [])
  refine lv_iload_n hx hb dX0_hasScribe_0 rfl (lv_at hl 1 rfl) ?_
  refine lv_if_lt (tgt := 22) hx hb dX0_hasScribe_1 (by decide) (fun c_1 => ?_) (fun c_1 => ?_)
  · have hB := ifP c_1 hB
    refine lv_iconst (v := 0) hx hb dX0_hasScribe_22 (by decide) ?_
    have hK := leafK hB hK
    have hK : (0 : Int32) = R0 := hK
    subst hK
    exact W.zret (v := (0 : Int32)) (ty := .boolean) hx hb hr rfl (fun t ht hW => ⟨_, rfl, rfl, ht⟩) (fun _ h => by cases h) dX0_hasScribe_23
  · have hB := ifN c_1 hB
    refine lv_iload_n hx hb dX0_hasScribe_4 rfl (lv_at hl 1 rfl) ?_
    refine lv_aload_n hx hb dX0_hasScribe_5 rfl (lv_at hl 0 rfl) ?_
    refine va_get (D := G) (ci := 0) (v := .int v_t_scribes) (C := RX0) (T := TX0) (N := 8) hx hb hg inX0 hown hKT hP 0 rfl rfl 4 (by decide) (hg _ gF_X0_34) (fun _ h9 => h9) rfl dX0_hasScribe_6 ?_
    refine lv_icmp_ge (tgt := 22) hx hb dX0_hasScribe_9 (by decide) (fun c_2 => ?_) (fun c_2 => ?_)
    · have hB := ifP c_2 hB
      refine lv_iconst (v := 0) hx hb dX0_hasScribe_22 (by decide) ?_
      have hK := leafK hB hK
      have hK : (0 : Int32) = R0 := hK
      subst hK
      exact W.zret (v := (0 : Int32)) (ty := .boolean) hx hb hr rfl (fun t ht hW => ⟨_, rfl, rfl, ht⟩) (fun _ h => by cases h) dX0_hasScribe_23
    · have hB := ifN c_2 hB
      refine lv_iload_n hx hb dX0_hasScribe_12 rfl (lv_at hl 1 rfl) ?_
      refine lv_bipush (v := 6) hx hb dX0_hasScribe_13 (by decide) ?_
      refine lv_icmp_ge (tgt := 22) hx hb dX0_hasScribe_15 (by decide) (fun c_3 => ?_) (fun c_3 => ?_)
      · have hB := ifP c_3 hB
        refine lv_iconst (v := 0) hx hb dX0_hasScribe_22 (by decide) ?_
        have hK := leafK hB hK
        have hK : (0 : Int32) = R0 := hK
        subst hK
        exact W.zret (v := (0 : Int32)) (ty := .boolean) hx hb hr rfl (fun t ht hW => ⟨_, rfl, rfl, ht⟩) (fun _ h => by cases h) dX0_hasScribe_23
      · have hB := ifN c_3 hB
        refine lv_iconst (v := 1) hx hb dX0_hasScribe_18 (by decide) ?_
        refine lv_goto (tgt := 23) hx hb dX0_hasScribe_19 (by decide) ?_
        have hK := leafK hB hK
        have hK : (1 : Int32) = R0 := hK
        subst hK
        exact W.zret (v := (1 : Int32)) (ty := .boolean) hx hb hr rfl (fun t ht hW => ⟨_, rfl, rfl, ht⟩) (fun _ h => by cases h) dX0_hasScribe_23
def wd_X0_allScribes (cs : Nat → ClassId) (a_t a_t_turn a_t_bent : Nat) (v_t_opinions : Int32) (v_t_lines : Int32) (v_t_books : Int32) (v_t_told : Int32) (v_t_scribes : Int32) (v_t_need : Int32) : va_W := [(a_t, .inr (0, [.int v_t_opinions, .int v_t_lines, .int v_t_books, .int v_t_told, .int v_t_scribes, .int v_t_need, .ref a_t_turn, .ref a_t_bent]))]
def rm_X0_allScribes : Room := { frames := 0, cells := 0, slots := 0, locals := 0 }
theorem mI_X0_allScribes : MI yX0_allScribes RX0 cX0_allScribes 1 (some .int) 0 := ⟨gI_X0_allScribes, gE_X0_allScribes, gN_X0, gC_X0_allScribes, by decide +kernel⟩
set_option maxHeartbeats 4000000 in
set_option maxRecDepth 100000 in
theorem k_X0_allScribes (l : Launch) (G : va_G) (cs : Nat → ClassId) (a_t a_t_turn a_t_bent : Nat) (v_t_opinions : Int32) (v_t_lines : Int32) (v_t_books : Int32) (v_t_told : Int32) (v_t_scribes : Int32) (v_t_need : Int32) (R0 : Int32) (hB : f_X0_allScribes v_t_scribes = some R0) : Met l yX0_allScribes (.code yX0_allScribes cX0_allScribes 1 (some .int) :: GW) rm_X0_allScribes (PcR G cs [.ref a_t] (wd_X0_allScribes cs a_t a_t_turn a_t_bent v_t_opinions v_t_lines v_t_books v_t_told v_t_scribes v_t_need)) (vp_Si (fun r => r = R0)) 0 0 (fun _ => False) := by
  refine Met.ofW (cc := cX0_allScribes) (maxL := 1) (ret := (some .int)) (by decide) rfl ?_
  intro p e s m args below meth c s₁ B hml hv
  obtain ⟨rfl, hP, hK, hN⟩ := hv
  have hx := B.exec
  have hb := B.bytes
  have hr := B.returns
  have hts := atoms_spec (ws := .code yX0_allScribes cX0_allScribes 1 (some .int) :: GW) B.pre
  have hg : ∀ w ∈ GW, w.before _ s = true := fun w h => hts w (List.mem_cons_of_mem _ h)
  have hown : s.vm.findClass RX0 = some m.cls := findClass_of_methodNamed B.named
  have hlocks := B.notSynchronized
  have hl := lv_entry ([.ref a_t]) (n := 1) (Nat.le_of_ble_eq_true rfl)
  rw [lg_entry_eq]
  generalize (lg_sl ([.ref a_t]) ++ List.replicate (1 - (lg_sl ([.ref a_t])).length) Slot.unset).toArray = ls at hl ⊢
  have hl : lv_has ls 1 [(0, .ref a_t)] := hl
  obtain ⟨y, hB, hK0⟩ : ∃ y, f_X0_allScribes v_t_scribes = some y ∧ KEnd R0 y := ⟨R0, hB, rfl⟩
  have hKT := hK
  have hK := hK0
  show W p l e rm_X0_allScribes s m ([.ref a_t] : List Value).toArray below meth c s.heap [] 0 0 (MQ below (vp_Si (fun r => r = R0)) ([.ref a_t] : List Value).toArray s 0 0 (fun _ => False)) (F0 m 0 ls [])
  refine lv_iconst (v := 1) hx hb dX0_allScribes_0 (by decide) ?_
  refine lv_aload_n hx hb dX0_allScribes_1 rfl (lv_at hl 0 rfl) ?_
  refine va_get (D := G) (ci := 0) (v := .int v_t_scribes) (C := RX0) (T := TX0) (N := 8) hx hb hg inX0 hown hKT hP 0 rfl rfl 4 (by decide) (hg _ gF_X0_34) (fun _ h9 => h9) rfl dX0_allScribes_2 ?_
  refine lj_ishl hx hb dX0_allScribes_5 ?_
  refine lv_iconst (v := 1) hx hb dX0_allScribes_6 (by decide) ?_
  refine lv_isub hx hb dX0_allScribes_7 ?_
  have hK := leafK hB hK
  have hK : ((jshl (1 : Int32) v_t_scribes) - (1 : Int32)) = R0 := hK
  subst hK
  exact W.iret (v := (jshl (1 : Int32) v_t_scribes) - (1 : Int32)) hx hb hr (fun t ht hW => ⟨_, rfl, rfl, ht⟩) (fun _ h => by cases h) dX0_allScribes_8
def wd_X0_turnOf (cs : Nat → ClassId) (a_t a_t_turn a_t_bent : Nat) (v_t_opinions : Int32) (v_t_lines : Int32) (v_t_books : Int32) (v_t_told : Int32) (v_t_scribes : Int32) (v_t_need : Int32) (g_t_turn : Nat → Int32) : va_W := [(a_t, .inr (0, [.int v_t_opinions, .int v_t_lines, .int v_t_books, .int v_t_told, .int v_t_scribes, .int v_t_need, .ref a_t_turn, .ref a_t_bent])), (a_t_turn, .inl (cs 0, 6, .inl g_t_turn))]
def rm_X0_turnOf : Room := { frames := 1, cells := 0, slots := 0, locals := 21 }
theorem mI_X0_turnOf : MI yX0_turnOf RX0 cX0_turnOf 2 (some .int) 1 := ⟨gI_X0_turnOf, gE_X0_turnOf, gN_X0, gC_X0_turnOf, by decide +kernel⟩
set_option maxHeartbeats 4000000 in
set_option maxRecDepth 100000 in
theorem k_X0_turnOf (l : Launch) (G : va_G) (cs : Nat → ClassId) (a_t a_t_turn a_t_bent : Nat) (v_t_opinions : Int32) (v_t_lines : Int32) (v_t_books : Int32) (v_t_told : Int32) (v_t_scribes : Int32) (v_t_need : Int32) (g_t_turn : Nat → Int32) (p1 : Int32) (R0 : Int32) (hB : f_X0_turnOf v_t_scribes g_t_turn p1 = some R0) : Met l yX0_turnOf (.code yX0_turnOf cX0_turnOf 2 (some .int) :: GW) rm_X0_turnOf (PcR G cs [.ref a_t, .int p1] (wd_X0_turnOf cs a_t a_t_turn a_t_bent v_t_opinions v_t_lines v_t_books v_t_told v_t_scribes v_t_need g_t_turn)) (vp_Si (fun r => r = R0)) 0 0 (fun _ => False) := by
  refine Met.ofW (cc := cX0_turnOf) (maxL := 2) (ret := (some .int)) (by decide) rfl ?_
  intro p e s m args below meth c s₁ B hml hv
  obtain ⟨rfl, hP, hK, hN⟩ := hv
  have hx := B.exec
  have hb := B.bytes
  have hr := B.returns
  have hts := atoms_spec (ws := .code yX0_turnOf cX0_turnOf 2 (some .int) :: GW) B.pre
  have hg : ∀ w ∈ GW, w.before _ s = true := fun w h => hts w (List.mem_cons_of_mem _ h)
  have hown : s.vm.findClass RX0 = some m.cls := findClass_of_methodNamed B.named
  have hlocks := B.notSynchronized
  have hl := lv_entry ([.ref a_t, .int p1]) (n := 2) (Nat.le_of_ble_eq_true rfl)
  rw [lg_entry_eq]
  generalize (lg_sl ([.ref a_t, .int p1]) ++ List.replicate (2 - (lg_sl ([.ref a_t, .int p1])).length) Slot.unset).toArray = ls at hl ⊢
  have hl : lv_has ls 2 [(0, .ref a_t), (1, .int p1)] := hl
  obtain ⟨y, hB, hK0⟩ : ∃ y, f_X0_turnOf v_t_scribes g_t_turn p1 = some y ∧ KEnd R0 y := ⟨R0, hB, rfl⟩
  have hKT := hK
  have hK := hK0
  show W p l e rm_X0_turnOf s m ([.ref a_t, .int p1] : List Value).toArray below meth c s.heap [] 0 0 (MQ below (vp_Si (fun r => r = R0)) ([.ref a_t, .int p1] : List Value).toArray s 0 0 (fun _ => False)) (F0 m 0 ls [])
  refine lv_aload_n hx hb dX0_turnOf_0 rfl (lv_at hl 0 rfl) ?_
  refine lv_iload_n hx hb dX0_turnOf_1 rfl (lv_at hl 1 rfl) ?_
  obtain ⟨q1, hq1, hB⟩ := bnd hB
  refine kr_V (WC := wd_X0_hasScribe cs a_t a_t_turn a_t_bent v_t_opinions v_t_lines v_t_books v_t_told v_t_scribes v_t_need) (As := [.int p1]) (rest := []) (r0 := q1) ⟨hx, hb, hml, hown, hg⟩ (k_X0_hasScribe l G cs a_t a_t_turn a_t_bent v_t_opinions v_t_lines v_t_books v_t_told v_t_scribes v_t_need p1 q1 hq1) gM_X0_37 mI_X0_hasScribe (rmk rfl) hP hKT hN 0 rfl rfl [0] rfl rfl hl.1 rfl (Nat.le_of_ble_eq_true rfl) dX0_turnOf_2 ?_
  refine lv_if_eq (tgt := 17) hx hb dX0_turnOf_5 (by decide) (fun c_2 => ?_) (fun c_2 => ?_)
  · have hB := ifP c_2 hB
    refine lv_iconst (v := 0) hx hb dX0_turnOf_17 (by decide) ?_
    have hK := leafK hB hK
    have hK : (0 : Int32) = R0 := hK
    subst hK
    exact W.iret (v := (0 : Int32)) hx hb hr (fun t ht hW => ⟨_, rfl, rfl, ht⟩) (fun _ h => by cases h) dX0_turnOf_18
  · have hB := ifN c_2 hB
    refine lv_aload_n hx hb dX0_turnOf_8 rfl (lv_at hl 0 rfl) ?_
    refine va_get (D := G) (ci := 0) (v := .ref a_t_turn) (C := RX0) (T := TX0) (N := 8) hx hb hg inX0 hown hKT hP 0 rfl rfl 6 (by decide) (hg _ gF_X0_21) (fun _ h9 => h9) rfl dX0_turnOf_9 ?_
    refine lv_iload_n hx hb dX0_turnOf_12 rfl (lv_at hl 1 rfl) ?_
    obtain ⟨h_3, hB⟩ := ifS hB
    refine va_iald hx hb hKT hP 1 0 rfl rfl h_3 dX0_turnOf_13 ?_
    refine lv_goto (tgt := 18) hx hb dX0_turnOf_14 (by decide) ?_
    have hK := leafK hB hK
    have hK : (g_t_turn p1.toNatClampNeg) = R0 := hK
    subst hK
    exact W.iret (v := g_t_turn p1.toNatClampNeg) hx hb hr (fun t ht hW => ⟨_, rfl, rfl, ht⟩) (fun _ h => by cases h) dX0_turnOf_18
def wd_X0_bentOf (cs : Nat → ClassId) (a_t a_t_turn a_t_bent : Nat) (v_t_opinions : Int32) (v_t_lines : Int32) (v_t_books : Int32) (v_t_told : Int32) (v_t_scribes : Int32) (v_t_need : Int32) (g_t_bent : Nat → Int32) : va_W := [(a_t, .inr (0, [.int v_t_opinions, .int v_t_lines, .int v_t_books, .int v_t_told, .int v_t_scribes, .int v_t_need, .ref a_t_turn, .ref a_t_bent])), (a_t_bent, .inl (cs 0, 6, .inl g_t_bent))]
def rm_X0_bentOf : Room := { frames := 1, cells := 0, slots := 0, locals := 21 }
theorem mI_X0_bentOf : MI yX0_bentOf RX0 cX0_bentOf 2 (some .int) 1 := ⟨gI_X0_bentOf, gE_X0_bentOf, gN_X0, gC_X0_bentOf, by decide +kernel⟩
set_option maxHeartbeats 4000000 in
set_option maxRecDepth 100000 in
theorem k_X0_bentOf (l : Launch) (G : va_G) (cs : Nat → ClassId) (a_t a_t_turn a_t_bent : Nat) (v_t_opinions : Int32) (v_t_lines : Int32) (v_t_books : Int32) (v_t_told : Int32) (v_t_scribes : Int32) (v_t_need : Int32) (g_t_bent : Nat → Int32) (p1 : Int32) (R0 : Int32) (hB : f_X0_bentOf v_t_scribes g_t_bent p1 = some R0) : Met l yX0_bentOf (.code yX0_bentOf cX0_bentOf 2 (some .int) :: GW) rm_X0_bentOf (PcR G cs [.ref a_t, .int p1] (wd_X0_bentOf cs a_t a_t_turn a_t_bent v_t_opinions v_t_lines v_t_books v_t_told v_t_scribes v_t_need g_t_bent)) (vp_Si (fun r => r = R0)) 0 0 (fun _ => False) := by
  refine Met.ofW (cc := cX0_bentOf) (maxL := 2) (ret := (some .int)) (by decide) rfl ?_
  intro p e s m args below meth c s₁ B hml hv
  obtain ⟨rfl, hP, hK, hN⟩ := hv
  have hx := B.exec
  have hb := B.bytes
  have hr := B.returns
  have hts := atoms_spec (ws := .code yX0_bentOf cX0_bentOf 2 (some .int) :: GW) B.pre
  have hg : ∀ w ∈ GW, w.before _ s = true := fun w h => hts w (List.mem_cons_of_mem _ h)
  have hown : s.vm.findClass RX0 = some m.cls := findClass_of_methodNamed B.named
  have hlocks := B.notSynchronized
  have hl := lv_entry ([.ref a_t, .int p1]) (n := 2) (Nat.le_of_ble_eq_true rfl)
  rw [lg_entry_eq]
  generalize (lg_sl ([.ref a_t, .int p1]) ++ List.replicate (2 - (lg_sl ([.ref a_t, .int p1])).length) Slot.unset).toArray = ls at hl ⊢
  have hl : lv_has ls 2 [(0, .ref a_t), (1, .int p1)] := hl
  obtain ⟨y, hB, hK0⟩ : ∃ y, f_X0_bentOf v_t_scribes g_t_bent p1 = some y ∧ KEnd R0 y := ⟨R0, hB, rfl⟩
  have hKT := hK
  have hK := hK0
  show W p l e rm_X0_bentOf s m ([.ref a_t, .int p1] : List Value).toArray below meth c s.heap [] 0 0 (MQ below (vp_Si (fun r => r = R0)) ([.ref a_t, .int p1] : List Value).toArray s 0 0 (fun _ => False)) (F0 m 0 ls [])
  refine lv_aload_n hx hb dX0_bentOf_0 rfl (lv_at hl 0 rfl) ?_
  refine lv_iload_n hx hb dX0_bentOf_1 rfl (lv_at hl 1 rfl) ?_
  obtain ⟨q1, hq1, hB⟩ := bnd hB
  refine kr_V (WC := wd_X0_hasScribe cs a_t a_t_turn a_t_bent v_t_opinions v_t_lines v_t_books v_t_told v_t_scribes v_t_need) (As := [.int p1]) (rest := []) (r0 := q1) ⟨hx, hb, hml, hown, hg⟩ (k_X0_hasScribe l G cs a_t a_t_turn a_t_bent v_t_opinions v_t_lines v_t_books v_t_told v_t_scribes v_t_need p1 q1 hq1) gM_X0_37 mI_X0_hasScribe (rmk rfl) hP hKT hN 0 rfl rfl [0] rfl rfl hl.1 rfl (Nat.le_of_ble_eq_true rfl) dX0_bentOf_2 ?_
  refine lv_if_eq (tgt := 17) hx hb dX0_bentOf_5 (by decide) (fun c_2 => ?_) (fun c_2 => ?_)
  · have hB := ifP c_2 hB
    refine lv_iconst (v := 0) hx hb dX0_bentOf_17 (by decide) ?_
    have hK := leafK hB hK
    have hK : (0 : Int32) = R0 := hK
    subst hK
    exact W.iret (v := (0 : Int32)) hx hb hr (fun t ht hW => ⟨_, rfl, rfl, ht⟩) (fun _ h => by cases h) dX0_bentOf_18
  · have hB := ifN c_2 hB
    refine lv_aload_n hx hb dX0_bentOf_8 rfl (lv_at hl 0 rfl) ?_
    refine va_get (D := G) (ci := 0) (v := .ref a_t_bent) (C := RX0) (T := TX0) (N := 8) hx hb hg inX0 hown hKT hP 0 rfl rfl 7 (by decide) (hg _ gF_X0_25) (fun _ h9 => h9) rfl dX0_bentOf_9 ?_
    refine lv_iload_n hx hb dX0_bentOf_12 rfl (lv_at hl 1 rfl) ?_
    obtain ⟨h_3, hB⟩ := ifS hB
    refine va_iald hx hb hKT hP 1 0 rfl rfl h_3 dX0_bentOf_13 ?_
    refine lv_goto (tgt := 18) hx hb dX0_bentOf_14 (by decide) ?_
    have hK := leafK hB hK
    have hK : (g_t_bent p1.toNatClampNeg) = R0 := hK
    subst hK
    exact W.iret (v := g_t_bent p1.toNatClampNeg) hx hb hr (fun t ht hW => ⟨_, rfl, rfl, ht⟩) (fun _ h => by cases h) dX0_bentOf_18
def wd_X0_said (cs : Nat → ClassId) : va_W := []
def rm_X0_said : Room := { frames := 0, cells := 0, slots := 0, locals := 0 }
theorem mS_X0_said : MS yX0_said cX0_said 4 (some .int) 4 := ⟨gS_X0_said, gN_X0, gC_X0_said, by decide +kernel⟩
set_option maxHeartbeats 4000000 in
set_option maxRecDepth 100000 in
theorem k_X0_said (l : Launch) (G : va_G) (cs : Nat → ClassId) (p0 p1 p2 p3 : Int32) (R0 : Int32) (hB : f_X0_said p0 p1 p2 p3 = some R0) : Met l yX0_said (.code yX0_said cX0_said 4 (some .int) :: GW) rm_X0_said (PcR G cs [.int p0, .int p1, .int p2, .int p3] (wd_X0_said cs )) (vp_Si (fun r => r = R0)) 0 0 (fun _ => False) := by
  refine Met.ofW (cc := cX0_said) (maxL := 4) (ret := (some .int)) (by decide) rfl ?_
  intro p e s m args below meth c s₁ B hml hv
  obtain ⟨rfl, hP, hK, hN⟩ := hv
  have hx := B.exec
  have hb := B.bytes
  have hr := B.returns
  have hts := atoms_spec (ws := .code yX0_said cX0_said 4 (some .int) :: GW) B.pre
  have hg : ∀ w ∈ GW, w.before _ s = true := fun w h => hts w (List.mem_cons_of_mem _ h)
  have hown : s.vm.findClass RX0 = some m.cls := findClass_of_methodNamed B.named
  have hlocks := B.notSynchronized
  have hl := lv_entry ([.int p0, .int p1, .int p2, .int p3]) (n := 4) (Nat.le_of_ble_eq_true rfl)
  rw [lg_entry_eq]
  generalize (lg_sl ([.int p0, .int p1, .int p2, .int p3]) ++ List.replicate (4 - (lg_sl ([.int p0, .int p1, .int p2, .int p3])).length) Slot.unset).toArray = ls at hl ⊢
  have hl : lv_has ls 4 [(0, .int p0), (1, .int p1), (2, .int p2), (3, .int p3)] := hl
  obtain ⟨y, hB, hK0⟩ : ∃ y, f_X0_said p0 p1 p2 p3 = some y ∧ KEnd R0 y := ⟨R0, hB, rfl⟩
  have hKT := hK
  have hK := hK0
  show W p l e rm_X0_said s m ([.int p0, .int p1, .int p2, .int p3] : List Value).toArray below meth c s.heap [] 0 0 (MQ below (vp_Si (fun r => r = R0)) ([.int p0, .int p1, .int p2, .int p3] : List Value).toArray s 0 0 (fun _ => False)) (F0 m 0 ls [])
  refine lv_iload_n hx hb dX0_said_0 rfl (lv_at hl 3 rfl) ?_
  refine lv_iconst (v := 1) hx hb dX0_said_1 (by decide) ?_
  refine lv_icmp_ge (tgt := 9) hx hb dX0_said_2 (by decide) (fun c_1 => ?_) (fun c_1 => ?_)
  · have hB := ifP c_1 hB
    refine lv_iload_n hx hb dX0_said_9 rfl (lv_at hl 0 rfl) ?_
    refine lv_iload_n hx hb dX0_said_10 rfl (lv_at hl 2 rfl) ?_
    refine lv_imul hx hb dX0_said_11 ?_
    refine lv_iload_n hx hb dX0_said_12 rfl (lv_at hl 1 rfl) ?_
    refine lv_iadd hx hb dX0_said_13 ?_
    refine lv_iload_n hx hb dX0_said_14 rfl (lv_at hl 3 rfl) ?_
    obtain ⟨h_2, hB⟩ := ifS hB
    refine lj_irem hx hb dX0_said_15 h_2 ?_
    have hK := leafK hB hK
    have hK : (jrem ((p0 * p2) + p1) p3) = R0 := hK
    subst hK
    exact W.iret (v := jrem ((p0 * p2) + p1) p3) hx hb hr (fun t ht hW => ⟨_, rfl, rfl, ht⟩) (fun _ h => by cases h) dX0_said_16
  · have hB := ifN c_1 hB
    refine lv_iconst (v := 0) hx hb dX0_said_5 (by decide) ?_
    refine lv_goto (tgt := 16) hx hb dX0_said_6 (by decide) ?_
    have hK := leafK hB hK
    have hK : (0 : Int32) = R0 := hK
    subst hK
    exact W.iret (v := (0 : Int32)) hx hb hr (fun t ht hW => ⟨_, rfl, rfl, ht⟩) (fun _ h => by cases h) dX0_said_16
def wd_X0_saidBy (cs : Nat → ClassId) (a_t a_t_turn a_t_bent : Nat) (v_t_opinions : Int32) (v_t_lines : Int32) (v_t_books : Int32) (v_t_told : Int32) (v_t_scribes : Int32) (v_t_need : Int32) (g_t_turn : Nat → Int32) (g_t_bent : Nat → Int32) : va_W := [(a_t, .inr (0, [.int v_t_opinions, .int v_t_lines, .int v_t_books, .int v_t_told, .int v_t_scribes, .int v_t_need, .ref a_t_turn, .ref a_t_bent])), (a_t_turn, .inl (cs 0, 6, .inl g_t_turn)), (a_t_bent, .inl (cs 0, 6, .inl g_t_bent))]
def rm_X0_saidBy : Room := { frames := 2, cells := 0, slots := 0, locals := 42 }
theorem mI_X0_saidBy : MI yX0_saidBy RX0 cX0_saidBy 3 (some .int) 2 := ⟨gI_X0_saidBy, gE_X0_saidBy, gN_X0, gC_X0_saidBy, by decide +kernel⟩
set_option maxHeartbeats 4000000 in
set_option maxRecDepth 100000 in
theorem k_X0_saidBy (l : Launch) (G : va_G) (cs : Nat → ClassId) (a_t a_t_turn a_t_bent : Nat) (v_t_opinions : Int32) (v_t_lines : Int32) (v_t_books : Int32) (v_t_told : Int32) (v_t_scribes : Int32) (v_t_need : Int32) (g_t_turn : Nat → Int32) (g_t_bent : Nat → Int32) (p1 p2 : Int32) (R0 : Int32) (hB : f_X0_saidBy v_t_opinions v_t_scribes g_t_turn g_t_bent p1 p2 = some R0) : Met l yX0_saidBy (.code yX0_saidBy cX0_saidBy 3 (some .int) :: GW) rm_X0_saidBy (PcR G cs [.ref a_t, .int p1, .int p2] (wd_X0_saidBy cs a_t a_t_turn a_t_bent v_t_opinions v_t_lines v_t_books v_t_told v_t_scribes v_t_need g_t_turn g_t_bent)) (vp_Si (fun r => r = R0)) 0 0 (fun _ => False) := by
  refine Met.ofW (cc := cX0_saidBy) (maxL := 3) (ret := (some .int)) (by decide) rfl ?_
  intro p e s m args below meth c s₁ B hml hv
  obtain ⟨rfl, hP, hK, hN⟩ := hv
  have hx := B.exec
  have hb := B.bytes
  have hr := B.returns
  have hts := atoms_spec (ws := .code yX0_saidBy cX0_saidBy 3 (some .int) :: GW) B.pre
  have hg : ∀ w ∈ GW, w.before _ s = true := fun w h => hts w (List.mem_cons_of_mem _ h)
  have hown : s.vm.findClass RX0 = some m.cls := findClass_of_methodNamed B.named
  have hlocks := B.notSynchronized
  have hl := lv_entry ([.ref a_t, .int p1, .int p2]) (n := 3) (Nat.le_of_ble_eq_true rfl)
  rw [lg_entry_eq]
  generalize (lg_sl ([.ref a_t, .int p1, .int p2]) ++ List.replicate (3 - (lg_sl ([.ref a_t, .int p1, .int p2])).length) Slot.unset).toArray = ls at hl ⊢
  have hl : lv_has ls 3 [(0, .ref a_t), (1, .int p1), (2, .int p2)] := hl
  obtain ⟨y, hB, hK0⟩ : ∃ y, f_X0_saidBy v_t_opinions v_t_scribes g_t_turn g_t_bent p1 p2 = some y ∧ KEnd R0 y := ⟨R0, hB, rfl⟩
  have hKT := hK
  have hK := hK0
  show W p l e rm_X0_saidBy s m ([.ref a_t, .int p1, .int p2] : List Value).toArray below meth c s.heap [] 0 0 (MQ below (vp_Si (fun r => r = R0)) ([.ref a_t, .int p1, .int p2] : List Value).toArray s 0 0 (fun _ => False)) (F0 m 0 ls [])
  refine lv_aload_n hx hb dX0_saidBy_0 rfl (lv_at hl 0 rfl) ?_
  refine lv_iload_n hx hb dX0_saidBy_1 rfl (lv_at hl 1 rfl) ?_
  obtain ⟨q1, hq1, hB⟩ := bnd hB
  refine kr_V (WC := wd_X0_turnOf cs a_t a_t_turn a_t_bent v_t_opinions v_t_lines v_t_books v_t_told v_t_scribes v_t_need g_t_turn) (As := [.int p1]) (rest := []) (r0 := q1) ⟨hx, hb, hml, hown, hg⟩ (k_X0_turnOf l G cs a_t a_t_turn a_t_bent v_t_opinions v_t_lines v_t_books v_t_told v_t_scribes v_t_need g_t_turn p1 q1 hq1) gM_X0_41 mI_X0_turnOf (rmk rfl) hP hKT hN 0 rfl rfl [0, 1] rfl rfl hl.1 rfl (Nat.le_of_ble_eq_true rfl) dX0_saidBy_2 ?_
  refine lv_aload_n hx hb dX0_saidBy_5 rfl (lv_at hl 0 rfl) ?_
  refine lv_iload_n hx hb dX0_saidBy_6 rfl (lv_at hl 1 rfl) ?_
  obtain ⟨q2, hq2, hB⟩ := bnd hB
  refine kr_V (WC := wd_X0_bentOf cs a_t a_t_turn a_t_bent v_t_opinions v_t_lines v_t_books v_t_told v_t_scribes v_t_need g_t_bent) (As := [.int p1]) (rest := [.int q1]) (r0 := q2) ⟨hx, hb, hml, hown, hg⟩ (k_X0_bentOf l G cs a_t a_t_turn a_t_bent v_t_opinions v_t_lines v_t_books v_t_told v_t_scribes v_t_need g_t_bent p1 q2 hq2) gM_X0_45 mI_X0_bentOf (rmk rfl) hP hKT hN 0 rfl rfl [0, 2] rfl rfl hl.1 rfl (Nat.le_of_ble_eq_true rfl) dX0_saidBy_7 ?_
  refine lv_iload_n hx hb dX0_saidBy_10 rfl (lv_at hl 2 rfl) ?_
  refine lv_aload_n hx hb dX0_saidBy_11 rfl (lv_at hl 0 rfl) ?_
  refine va_get (D := G) (ci := 0) (v := .int v_t_opinions) (C := RX0) (T := TX0) (N := 8) hx hb hg inX0 hown hKT hP 0 rfl rfl 0 (by decide) (hg _ gF_X0_9) (fun _ h9 => h9) rfl dX0_saidBy_12 ?_
  obtain ⟨q3, hq3, hB⟩ := bnd hB
  refine kr_S (WC := wd_X0_said cs ) (As := [.int q1, .int q2, .int p2, .int v_t_opinions]) (rest := []) (r0 := q3) ⟨hx, hb, hml, hown, hg⟩ (k_X0_said l G cs q1 q2 p2 v_t_opinions q3 hq3) gM_X0_48 mS_X0_said (rmk rfl) hP hKT hN [] rfl rfl hl.1 rfl (Nat.le_of_ble_eq_true rfl) dX0_saidBy_15 ?_
  have hK := leafK hB hK
  have hK : q3 = R0 := hK
  subst hK
  exact W.iret (v := q3) hx hb hr (fun t ht hW => ⟨_, rfl, rfl, ht⟩) (fun _ h => by cases h) dX0_saidBy_18
def wd_X0_weightOf (cs : Nat → ClassId) (a_t a_t_turn a_t_bent : Nat) (v_t_opinions : Int32) (v_t_lines : Int32) (v_t_books : Int32) (v_t_told : Int32) (v_t_scribes : Int32) (v_t_need : Int32) : va_W := [(a_t, .inr (0, [.int v_t_opinions, .int v_t_lines, .int v_t_books, .int v_t_told, .int v_t_scribes, .int v_t_need, .ref a_t_turn, .ref a_t_bent]))]
def rm_X0_weightOf : Room := { frames := 0, cells := 0, slots := 0, locals := 0 }
theorem mI_X0_weightOf : MI yX0_weightOf RX0 cX0_weightOf 4 (some .int) 1 := ⟨gI_X0_weightOf, gE_X0_weightOf, gN_X0, gC_X0_weightOf, by decide +kernel⟩
set_option maxHeartbeats 4000000 in
set_option maxRecDepth 100000 in
theorem k_X0_weightOf (l : Launch) (G : va_G) (cs : Nat → ClassId) (a_t a_t_turn a_t_bent : Nat) (v_t_opinions : Int32) (v_t_lines : Int32) (v_t_books : Int32) (v_t_told : Int32) (v_t_scribes : Int32) (v_t_need : Int32) (p1 : Int32) (R0 : Int32) (hB : f_X0_weightOf v_t_opinions v_t_lines p1 = some R0) : Met l yX0_weightOf (.code yX0_weightOf cX0_weightOf 4 (some .int) :: GW) rm_X0_weightOf (PcR G cs [.ref a_t, .int p1] (wd_X0_weightOf cs a_t a_t_turn a_t_bent v_t_opinions v_t_lines v_t_books v_t_told v_t_scribes v_t_need)) (vp_Si (fun r => r = R0)) 0 0 (fun _ => False) := by
  refine Met.ofW (cc := cX0_weightOf) (maxL := 4) (ret := (some .int)) (by decide) rfl ?_
  intro p e s m args below meth c s₁ B hml hv
  obtain ⟨rfl, hP, hK, hN⟩ := hv
  have hx := B.exec
  have hb := B.bytes
  have hr := B.returns
  have hts := atoms_spec (ws := .code yX0_weightOf cX0_weightOf 4 (some .int) :: GW) B.pre
  have hg : ∀ w ∈ GW, w.before _ s = true := fun w h => hts w (List.mem_cons_of_mem _ h)
  have hown : s.vm.findClass RX0 = some m.cls := findClass_of_methodNamed B.named
  have hlocks := B.notSynchronized
  have hl := lv_entry ([.ref a_t, .int p1]) (n := 4) (Nat.le_of_ble_eq_true rfl)
  rw [lg_entry_eq]
  generalize (lg_sl ([.ref a_t, .int p1]) ++ List.replicate (4 - (lg_sl ([.ref a_t, .int p1])).length) Slot.unset).toArray = ls at hl ⊢
  have hl : lv_has ls 4 [(0, .ref a_t), (1, .int p1)] := hl
  obtain ⟨y, hB, hK0⟩ : ∃ y, f_X0_weightOf v_t_opinions v_t_lines p1 = some y ∧ KEnd R0 y := ⟨R0, hB, rfl⟩
  have hKT := hK
  have hK := hK0
  show W p l e rm_X0_weightOf s m ([.ref a_t, .int p1] : List Value).toArray below meth c s.heap [] 0 0 (MQ below (vp_Si (fun r => r = R0)) ([.ref a_t, .int p1] : List Value).toArray s 0 0 (fun _ => False)) (F0 m 0 ls [])
  refine lv_iconst (v := 1) hx hb dX0_weightOf_0 (by decide) ?_
  refine lv_istore_n (lv' := [(2, .int (1 : Int32)), (0, .ref a_t), (1, .int p1)]) hx hb dX0_weightOf_1 rfl hl (by decide) rfl (fun ls hl => ?_)
  refine lv_iload_n hx hb dX0_weightOf_2 rfl (lv_at hl 2 rfl) ?_
  refine lv_iconst (v := 1) hx hb dX0_weightOf_3 (by decide) ?_
  refine lv_iadd hx hb dX0_weightOf_4 ?_
  refine lv_istore_n (lv' := [(3, .int (p1 + (1 : Int32))), (2, .int (1 : Int32)), (0, .ref a_t), (1, .int p1)]) hx hb dX0_weightOf_5 rfl hl (by decide) rfl (fun ls hl => ?_)
  refine lp_ind (Wh := fun (z1 : Int32 × Int32) => ∀ (ls : Array Slot), lv_has ls 4 [(0, .ref a_t), (2, .int z1.1), (3, .int z1.2)] → W p l e rm_X0_weightOf s m ([.ref a_t, .int p1] : List Value).toArray below meth c s.heap [] 0 0 (MQ below (vp_Si (fun r => r = R0)) ([.ref a_t, .int p1] : List Value).toArray s 0 0 (fun _ => False)) (F0 m 6 ls [])) ?_ FU _ _ hB hK ls (lv_sub hl [2, 1, 0] rfl)
  rintro ⟨z1_0, z1_1⟩ y hB hK ls hl
  have hl : lv_has ls 4 [(0, .ref a_t), (2, .int z1_0), (3, .int z1_1)] := hl
  refine lv_iload_n hx hb dX0_weightOf_6 rfl (lv_at hl 2 rfl) ?_
  refine lv_aload_n hx hb dX0_weightOf_7 rfl (lv_at hl 0 rfl) ?_
  refine va_get (D := G) (ci := 0) (v := .int v_t_lines) (C := RX0) (T := TX0) (N := 8) hx hb hg inX0 hown hKT hP 0 rfl rfl 1 (by decide) (hg _ gF_X0_28) (fun _ h9 => h9) rfl dX0_weightOf_8 ?_
  refine lv_icmp_ge (tgt := 27) hx hb dX0_weightOf_11 (by decide) (fun c_2 => ?_) (fun c_2 => ?_)
  · have hB := ifP c_2 hB
    refine lv_iload_n hx hb dX0_weightOf_27 rfl (lv_at hl 1 rfl) ?_
    have hK := leafK hB hK
    have hK := elimR hK
    have hK : z1_0 = R0 := hK
    subst hK
    exact W.iret (v := z1_0) hx hb hr (fun t ht hW => ⟨_, rfl, rfl, ht⟩) (fun _ h => by cases h) dX0_weightOf_28
  · have hB := ifN c_2 hB
    refine lv_iload_n hx hb dX0_weightOf_14 rfl (lv_at hl 1 rfl) ?_
    refine lv_aload_n hx hb dX0_weightOf_15 rfl (lv_at hl 0 rfl) ?_
    refine va_get (D := G) (ci := 0) (v := .int v_t_opinions) (C := RX0) (T := TX0) (N := 8) hx hb hg inX0 hown hKT hP 0 rfl rfl 0 (by decide) (hg _ gF_X0_9) (fun _ h9 => h9) rfl dX0_weightOf_16 ?_
    refine lv_imul hx hb dX0_weightOf_19 ?_
    refine lv_istore_n (lv' := [(2, .int (z1_0 * v_t_opinions)), (0, .ref a_t), (3, .int z1_1)]) hx hb dX0_weightOf_20 rfl hl (by decide) rfl (fun ls hl => ?_)
    refine lv_iinc (v := z1_1 + (1 : Int32)) (lv' := [(3, .int (z1_1 + (1 : Int32))), (2, .int (z1_0 * v_t_opinions)), (0, .ref a_t)]) hx hb dX0_weightOf_21 hl (k := 2) rfl (inc_ok (by decide)) (by decide) rfl (fun ls hl => ?_)
    refine lv_goto (tgt := 6) hx hb dX0_weightOf_24 (by decide) ?_
    have hK := leafK hB hK
    have hK := elimL hK
    exact hK ls (lv_sub hl [2, 1, 0] rfl)
def wd_X0_lineOf (cs : Nat → ClassId) (a_t a_t_turn a_t_bent : Nat) (v_t_opinions : Int32) (v_t_lines : Int32) (v_t_books : Int32) (v_t_told : Int32) (v_t_scribes : Int32) (v_t_need : Int32) : va_W := [(a_t, .inr (0, [.int v_t_opinions, .int v_t_lines, .int v_t_books, .int v_t_told, .int v_t_scribes, .int v_t_need, .ref a_t_turn, .ref a_t_bent]))]
def rm_X0_lineOf : Room := { frames := 1, cells := 0, slots := 0, locals := 23 }
theorem mI_X0_lineOf : MI yX0_lineOf RX0 cX0_lineOf 4 (some .int) 2 := ⟨gI_X0_lineOf, gE_X0_lineOf, gN_X0, gC_X0_lineOf, by decide +kernel⟩
set_option maxHeartbeats 4000000 in
set_option maxRecDepth 100000 in
theorem k_X0_lineOf (l : Launch) (G : va_G) (cs : Nat → ClassId) (a_t a_t_turn a_t_bent : Nat) (v_t_opinions : Int32) (v_t_lines : Int32) (v_t_books : Int32) (v_t_told : Int32) (v_t_scribes : Int32) (v_t_need : Int32) (p1 p2 : Int32) (R0 : Int32) (hB : f_X0_lineOf v_t_opinions v_t_lines p1 p2 = some R0) : Met l yX0_lineOf (.code yX0_lineOf cX0_lineOf 4 (some .int) :: GW) rm_X0_lineOf (PcR G cs [.ref a_t, .int p1, .int p2] (wd_X0_lineOf cs a_t a_t_turn a_t_bent v_t_opinions v_t_lines v_t_books v_t_told v_t_scribes v_t_need)) (vp_Si (fun r => r = R0)) 0 0 (fun _ => False) := by
  refine Met.ofW (cc := cX0_lineOf) (maxL := 4) (ret := (some .int)) (by decide) rfl ?_
  intro p e s m args below meth c s₁ B hml hv
  obtain ⟨rfl, hP, hK, hN⟩ := hv
  have hx := B.exec
  have hb := B.bytes
  have hr := B.returns
  have hts := atoms_spec (ws := .code yX0_lineOf cX0_lineOf 4 (some .int) :: GW) B.pre
  have hg : ∀ w ∈ GW, w.before _ s = true := fun w h => hts w (List.mem_cons_of_mem _ h)
  have hown : s.vm.findClass RX0 = some m.cls := findClass_of_methodNamed B.named
  have hlocks := B.notSynchronized
  have hl := lv_entry ([.ref a_t, .int p1, .int p2]) (n := 4) (Nat.le_of_ble_eq_true rfl)
  rw [lg_entry_eq]
  generalize (lg_sl ([.ref a_t, .int p1, .int p2]) ++ List.replicate (4 - (lg_sl ([.ref a_t, .int p1, .int p2])).length) Slot.unset).toArray = ls at hl ⊢
  have hl : lv_has ls 4 [(0, .ref a_t), (1, .int p1), (2, .int p2)] := hl
  obtain ⟨y, hB, hK0⟩ : ∃ y, f_X0_lineOf v_t_opinions v_t_lines p1 p2 = some y ∧ KEnd R0 y := ⟨R0, hB, rfl⟩
  have hKT := hK
  have hK := hK0
  show W p l e rm_X0_lineOf s m ([.ref a_t, .int p1, .int p2] : List Value).toArray below meth c s.heap [] 0 0 (MQ below (vp_Si (fun r => r = R0)) ([.ref a_t, .int p1, .int p2] : List Value).toArray s 0 0 (fun _ => False)) (F0 m 0 ls [])
  refine lv_aload_n hx hb dX0_lineOf_0 rfl (lv_at hl 0 rfl) ?_
  refine lv_iload_n hx hb dX0_lineOf_1 rfl (lv_at hl 2 rfl) ?_
  obtain ⟨q1, hq1, hB⟩ := bnd hB
  refine kr_V (WC := wd_X0_weightOf cs a_t a_t_turn a_t_bent v_t_opinions v_t_lines v_t_books v_t_told v_t_scribes v_t_need) (As := [.int p2]) (rest := []) (r0 := q1) ⟨hx, hb, hml, hown, hg⟩ (k_X0_weightOf l G cs a_t a_t_turn a_t_bent v_t_opinions v_t_lines v_t_books v_t_told v_t_scribes v_t_need p2 q1 hq1) gM_X0_52 mI_X0_weightOf (rmk rfl) hP hKT hN 0 rfl rfl [0] rfl rfl hl.1 rfl (Nat.le_of_ble_eq_true rfl) dX0_lineOf_2 ?_
  refine lv_istore_n (lv' := [(3, .int q1), (0, .ref a_t), (1, .int p1), (2, .int p2)]) hx hb dX0_lineOf_5 rfl hl (by decide) rfl (fun ls hl => ?_)
  refine lv_iload_n hx hb dX0_lineOf_6 rfl (lv_at hl 0 rfl) ?_
  refine lv_iconst (v := 1) hx hb dX0_lineOf_7 (by decide) ?_
  refine lv_icmp_lt (tgt := 19) hx hb dX0_lineOf_8 (by decide) (fun c_2 => ?_) (fun c_2 => ?_)
  · have hB := ifP c_2 hB
    refine lv_iconst (v := 0) hx hb dX0_lineOf_19 (by decide) ?_
    refine lv_goto (tgt := 31) hx hb dX0_lineOf_20 (by decide) ?_
    have hK := leafK hB hK
    have hK : (0 : Int32) = R0 := hK
    subst hK
    exact W.iret (v := (0 : Int32)) hx hb hr (fun t ht hW => ⟨_, rfl, rfl, ht⟩) (fun _ h => by cases h) dX0_lineOf_31
  · have hB := ifN c_2 hB
    refine lv_aload_n hx hb dX0_lineOf_11 rfl (lv_at hl 1 rfl) ?_
    refine va_get (D := G) (ci := 0) (v := .int v_t_opinions) (C := RX0) (T := TX0) (N := 8) hx hb hg inX0 hown hKT hP 0 rfl rfl 0 (by decide) (hg _ gF_X0_9) (fun _ h9 => h9) rfl dX0_lineOf_12 ?_
    refine lv_iconst (v := 1) hx hb dX0_lineOf_15 (by decide) ?_
    refine lv_icmp_ge (tgt := 23) hx hb dX0_lineOf_16 (by decide) (fun c_3 => ?_) (fun c_3 => ?_)
    · have hB := ifP c_3 hB
      refine lv_iload_n hx hb dX0_lineOf_23 rfl (lv_at hl 2 rfl) ?_
      refine lv_iload_n hx hb dX0_lineOf_24 rfl (lv_at hl 0 rfl) ?_
      obtain ⟨h_4, hB⟩ := ifS hB
      refine lv_idiv hx hb dX0_lineOf_25 h_4 ?_
      refine lv_aload_n hx hb dX0_lineOf_26 rfl (lv_at hl 1 rfl) ?_
      refine va_get (D := G) (ci := 0) (v := .int v_t_opinions) (C := RX0) (T := TX0) (N := 8) hx hb hg inX0 hown hKT hP 0 rfl rfl 0 (by decide) (hg _ gF_X0_9) (fun _ h9 => h9) rfl dX0_lineOf_27 ?_
      obtain ⟨h_5, hB⟩ := ifS hB
      refine lj_irem hx hb dX0_lineOf_30 h_5 ?_
      have hK := leafK hB hK
      have hK : (jrem (p1 / q1) v_t_opinions) = R0 := hK
      subst hK
      exact W.iret (v := jrem (p1 / q1) v_t_opinions) hx hb hr (fun t ht hW => ⟨_, rfl, rfl, ht⟩) (fun _ h => by cases h) dX0_lineOf_31
    · have hB := ifN c_3 hB
      refine lv_iconst (v := 0) hx hb dX0_lineOf_19 (by decide) ?_
      refine lv_goto (tgt := 31) hx hb dX0_lineOf_20 (by decide) ?_
      have hK := leafK hB hK
      have hK : (0 : Int32) = R0 := hK
      subst hK
      exact W.iret (v := (0 : Int32)) hx hb hr (fun t ht hW => ⟨_, rfl, rfl, ht⟩) (fun _ h => by cases h) dX0_lineOf_31
def wd_X0_withLine (cs : Nat → ClassId) (a_t a_t_turn a_t_bent : Nat) (v_t_opinions : Int32) (v_t_lines : Int32) (v_t_books : Int32) (v_t_told : Int32) (v_t_scribes : Int32) (v_t_need : Int32) : va_W := [(a_t, .inr (0, [.int v_t_opinions, .int v_t_lines, .int v_t_books, .int v_t_told, .int v_t_scribes, .int v_t_need, .ref a_t_turn, .ref a_t_bent]))]
def rm_X0_withLine : Room := { frames := 2, cells := 0, slots := 0, locals := 46 }
theorem mI_X0_withLine : MI yX0_withLine RX0 cX0_withLine 4 (some .int) 3 := ⟨gI_X0_withLine, gE_X0_withLine, gN_X0, gC_X0_withLine, by decide +kernel⟩
set_option maxHeartbeats 4000000 in
set_option maxRecDepth 100000 in
theorem k_X0_withLine (l : Launch) (G : va_G) (cs : Nat → ClassId) (a_t a_t_turn a_t_bent : Nat) (v_t_opinions : Int32) (v_t_lines : Int32) (v_t_books : Int32) (v_t_told : Int32) (v_t_scribes : Int32) (v_t_need : Int32) (p1 p2 p3 : Int32) (R0 : Int32) (hB : f_X0_withLine v_t_opinions v_t_lines p1 p2 p3 = some R0) : Met l yX0_withLine (.code yX0_withLine cX0_withLine 4 (some .int) :: GW) rm_X0_withLine (PcR G cs [.ref a_t, .int p1, .int p2, .int p3] (wd_X0_withLine cs a_t a_t_turn a_t_bent v_t_opinions v_t_lines v_t_books v_t_told v_t_scribes v_t_need)) (vp_Si (fun r => r = R0)) 0 0 (fun _ => False) := by
  refine Met.ofW (cc := cX0_withLine) (maxL := 4) (ret := (some .int)) (by decide) rfl ?_
  intro p e s m args below meth c s₁ B hml hv
  obtain ⟨rfl, hP, hK, hN⟩ := hv
  have hx := B.exec
  have hb := B.bytes
  have hr := B.returns
  have hts := atoms_spec (ws := .code yX0_withLine cX0_withLine 4 (some .int) :: GW) B.pre
  have hg : ∀ w ∈ GW, w.before _ s = true := fun w h => hts w (List.mem_cons_of_mem _ h)
  have hown : s.vm.findClass RX0 = some m.cls := findClass_of_methodNamed B.named
  have hlocks := B.notSynchronized
  have hl := lv_entry ([.ref a_t, .int p1, .int p2, .int p3]) (n := 4) (Nat.le_of_ble_eq_true rfl)
  rw [lg_entry_eq]
  generalize (lg_sl ([.ref a_t, .int p1, .int p2, .int p3]) ++ List.replicate (4 - (lg_sl ([.ref a_t, .int p1, .int p2, .int p3])).length) Slot.unset).toArray = ls at hl ⊢
  have hl : lv_has ls 4 [(0, .ref a_t), (1, .int p1), (2, .int p2), (3, .int p3)] := hl
  obtain ⟨y, hB, hK0⟩ : ∃ y, f_X0_withLine v_t_opinions v_t_lines p1 p2 p3 = some y ∧ KEnd R0 y := ⟨R0, hB, rfl⟩
  have hKT := hK
  have hK := hK0
  show W p l e rm_X0_withLine s m ([.ref a_t, .int p1, .int p2, .int p3] : List Value).toArray below meth c s.heap [] 0 0 (MQ below (vp_Si (fun r => r = R0)) ([.ref a_t, .int p1, .int p2, .int p3] : List Value).toArray s 0 0 (fun _ => False)) (F0 m 0 ls [])
  refine lv_iload_n hx hb dX0_withLine_0 rfl (lv_at hl 1 rfl) ?_
  refine lv_iload_n hx hb dX0_withLine_1 rfl (lv_at hl 3 rfl) ?_
  refine lv_aload_n hx hb dX0_withLine_2 rfl (lv_at hl 0 rfl) ?_
  refine lv_iload_n hx hb dX0_withLine_3 rfl (lv_at hl 1 rfl) ?_
  refine lv_iload_n hx hb dX0_withLine_4 rfl (lv_at hl 2 rfl) ?_
  obtain ⟨q1, hq1, hB⟩ := bnd hB
  refine kr_V (WC := wd_X0_lineOf cs a_t a_t_turn a_t_bent v_t_opinions v_t_lines v_t_books v_t_told v_t_scribes v_t_need) (As := [.int p1, .int p2]) (rest := [.int p3, .int p1]) (r0 := q1) ⟨hx, hb, hml, hown, hg⟩ (k_X0_lineOf l G cs a_t a_t_turn a_t_bent v_t_opinions v_t_lines v_t_books v_t_told v_t_scribes v_t_need p1 p2 q1 hq1) gM_X0_55 mI_X0_lineOf (rmk rfl) hP hKT hN 0 rfl rfl [0] rfl rfl hl.1 rfl (Nat.le_of_ble_eq_true rfl) dX0_withLine_5 ?_
  refine lv_isub hx hb dX0_withLine_8 ?_
  refine lv_aload_n hx hb dX0_withLine_9 rfl (lv_at hl 0 rfl) ?_
  refine lv_iload_n hx hb dX0_withLine_10 rfl (lv_at hl 2 rfl) ?_
  obtain ⟨q2, hq2, hB⟩ := bnd hB
  refine kr_V (WC := wd_X0_weightOf cs a_t a_t_turn a_t_bent v_t_opinions v_t_lines v_t_books v_t_told v_t_scribes v_t_need) (As := [.int p2]) (rest := [.int (p3 - q1), .int p1]) (r0 := q2) ⟨hx, hb, hml, hown, hg⟩ (k_X0_weightOf l G cs a_t a_t_turn a_t_bent v_t_opinions v_t_lines v_t_books v_t_told v_t_scribes v_t_need p2 q2 hq2) gM_X0_52 mI_X0_weightOf (rmk rfl) hP hKT hN 0 rfl rfl [0] rfl rfl hl.1 rfl (Nat.le_of_ble_eq_true rfl) dX0_withLine_11 ?_
  refine lv_imul hx hb dX0_withLine_14 ?_
  refine lv_iadd hx hb dX0_withLine_15 ?_
  have hK := leafK hB hK
  have hK : (p1 + ((p3 - q1) * q2)) = R0 := hK
  subst hK
  exact W.iret (v := p1 + ((p3 - q1) * q2)) hx hb hr (fun t ht hW => ⟨_, rfl, rfl, ht⟩) (fun _ h => by cases h) dX0_withLine_16
def wd_X0_becomes (cs : Nat → ClassId) (a_t a_t_turn a_t_bent : Nat) (v_t_opinions : Int32) (v_t_lines : Int32) (v_t_books : Int32) (v_t_told : Int32) (v_t_scribes : Int32) (v_t_need : Int32) (g_t_turn : Nat → Int32) (g_t_bent : Nat → Int32) : va_W := [(a_t, .inr (0, [.int v_t_opinions, .int v_t_lines, .int v_t_books, .int v_t_told, .int v_t_scribes, .int v_t_need, .ref a_t_turn, .ref a_t_bent])), (a_t_turn, .inl (cs 0, 6, .inl g_t_turn)), (a_t_bent, .inl (cs 0, 6, .inl g_t_bent))]
def rm_X0_becomes : Room := { frames := 3, cells := 0, slots := 0, locals := 64 }
theorem mI_X0_becomes : MI yX0_becomes RX0 cX0_becomes 7 (some .int) 2 := ⟨gI_X0_becomes, gE_X0_becomes, gN_X0, gC_X0_becomes, by decide +kernel⟩
set_option maxHeartbeats 4000000 in
set_option maxRecDepth 100000 in
theorem k_X0_becomes (l : Launch) (G : va_G) (cs : Nat → ClassId) (a_t a_t_turn a_t_bent : Nat) (v_t_opinions : Int32) (v_t_lines : Int32) (v_t_books : Int32) (v_t_told : Int32) (v_t_scribes : Int32) (v_t_need : Int32) (g_t_turn : Nat → Int32) (g_t_bent : Nat → Int32) (p1 p2 : Int32) (R0 : Int32) (hB : f_X0_becomes v_t_opinions v_t_lines v_t_scribes g_t_turn g_t_bent p1 p2 = some R0) : Met l yX0_becomes (.code yX0_becomes cX0_becomes 7 (some .int) :: GW) rm_X0_becomes (PcR G cs [.ref a_t, .int p1, .int p2] (wd_X0_becomes cs a_t a_t_turn a_t_bent v_t_opinions v_t_lines v_t_books v_t_told v_t_scribes v_t_need g_t_turn g_t_bent)) (vp_Si (fun r => r = R0)) 0 0 (fun _ => False) := by
  refine Met.ofW (cc := cX0_becomes) (maxL := 7) (ret := (some .int)) (by decide) rfl ?_
  intro p e s m args below meth c s₁ B hml hv
  obtain ⟨rfl, hP, hK, hN⟩ := hv
  have hx := B.exec
  have hb := B.bytes
  have hr := B.returns
  have hts := atoms_spec (ws := .code yX0_becomes cX0_becomes 7 (some .int) :: GW) B.pre
  have hg : ∀ w ∈ GW, w.before _ s = true := fun w h => hts w (List.mem_cons_of_mem _ h)
  have hown : s.vm.findClass RX0 = some m.cls := findClass_of_methodNamed B.named
  have hlocks := B.notSynchronized
  have hl := lv_entry ([.ref a_t, .int p1, .int p2]) (n := 7) (Nat.le_of_ble_eq_true rfl)
  rw [lg_entry_eq]
  generalize (lg_sl ([.ref a_t, .int p1, .int p2]) ++ List.replicate (7 - (lg_sl ([.ref a_t, .int p1, .int p2])).length) Slot.unset).toArray = ls at hl ⊢
  have hl : lv_has ls 7 [(0, .ref a_t), (1, .int p1), (2, .int p2)] := hl
  obtain ⟨y, hB, hK0⟩ : ∃ y, f_X0_becomes v_t_opinions v_t_lines v_t_scribes g_t_turn g_t_bent p1 p2 = some y ∧ KEnd R0 y := ⟨R0, hB, rfl⟩
  have hKT := hK
  have hK := hK0
  show W p l e rm_X0_becomes s m ([.ref a_t, .int p1, .int p2] : List Value).toArray below meth c s.heap [] 0 0 (MQ below (vp_Si (fun r => r = R0)) ([.ref a_t, .int p1, .int p2] : List Value).toArray s 0 0 (fun _ => False)) (F0 m 0 ls [])
  refine lv_iconst (v := 0) hx hb dX0_becomes_0 (by decide) ?_
  refine lv_istore_n (lv' := [(3, .int (0 : Int32)), (0, .ref a_t), (1, .int p1), (2, .int p2)]) hx hb dX0_becomes_1 rfl hl (by decide) rfl (fun ls hl => ?_)
  refine lv_iload_n hx hb dX0_becomes_2 rfl (lv_at hl 3 rfl) ?_
  refine lv_istore (lv' := [(4, .int p2), (3, .int (0 : Int32)), (0, .ref a_t), (1, .int p1), (2, .int p2)]) hx hb dX0_becomes_3 hl (by decide) rfl (fun ls hl => ?_)
  refine lv_iconst (v := 1) hx hb dX0_becomes_5 (by decide) ?_
  refine lv_istore (lv' := [(5, .int (1 : Int32)), (4, .int p2), (3, .int (0 : Int32)), (0, .ref a_t), (1, .int p1), (2, .int p2)]) hx hb dX0_becomes_6 hl (by decide) rfl (fun ls hl => ?_)
  refine lv_aload_n hx hb dX0_becomes_8 rfl (lv_at hl 3 rfl) ?_
  refine va_get (D := G) (ci := 0) (v := .int v_t_lines) (C := RX0) (T := TX0) (N := 8) hx hb hg inX0 hown hKT hP 0 rfl rfl 1 (by decide) (hg _ gF_X0_28) (fun _ h9 => h9) rfl dX0_becomes_9 ?_
  refine lv_iconst (v := 1) hx hb dX0_becomes_12 (by decide) ?_
  refine lv_isub hx hb dX0_becomes_13 ?_
  refine lv_istore (lv' := [(6, .int (v_t_lines - (1 : Int32))), (5, .int (1 : Int32)), (4, .int p2), (3, .int (0 : Int32)), (0, .ref a_t), (1, .int p1), (2, .int p2)]) hx hb dX0_becomes_14 hl (by decide) rfl (fun ls hl => ?_)
  refine lp_ind (Wh := fun (z1 : Int32 × Int32 × Int32 × Int32) => ∀ (ls : Array Slot), lv_has ls 7 [(0, .ref a_t), (1, .int p1), (3, .int z1.1), (4, .int z1.2.1), (5, .int z1.2.2.1), (6, .int z1.2.2.2)] → W p l e rm_X0_becomes s m ([.ref a_t, .int p1, .int p2] : List Value).toArray below meth c s.heap [] 0 0 (MQ below (vp_Si (fun r => r = R0)) ([.ref a_t, .int p1, .int p2] : List Value).toArray s 0 0 (fun _ => False)) (F0 m 16 ls [])) ?_ FU _ _ hB hK ls (lv_sub hl [4, 5, 3, 2, 1, 0] rfl)
  rintro ⟨z1_0, z1_1, z1_2, z1_3⟩ y hB hK ls hl
  have hl : lv_has ls 7 [(0, .ref a_t), (1, .int p1), (3, .int z1_0), (4, .int z1_1), (5, .int z1_2), (6, .int z1_3)] := hl
  refine lv_iload hx hb dX0_becomes_16 (lv_at hl 5 rfl) ?_
  refine lv_if_lt (tgt := 70) hx hb dX0_becomes_18 (by decide) (fun c_2 => ?_) (fun c_2 => ?_)
  · have hB := ifP c_2 hB
    refine lv_iload_n hx hb dX0_becomes_70 rfl (lv_at hl 2 rfl) ?_
    have hK := leafK hB hK
    have hK := elimR hK
    have hK : z1_0 = R0 := hK
    subst hK
    exact W.iret (v := z1_0) hx hb hr (fun t ht hW => ⟨_, rfl, rfl, ht⟩) (fun _ h => by cases h) dX0_becomes_71
  · have hB := ifN c_2 hB
    refine lv_aload_n hx hb dX0_becomes_21 rfl (lv_at hl 0 rfl) ?_
    refine va_get (D := G) (ci := 0) (v := .int v_t_opinions) (C := RX0) (T := TX0) (N := 8) hx hb hg inX0 hown hKT hP 0 rfl rfl 0 (by decide) (hg _ gF_X0_9) (fun _ h9 => h9) rfl dX0_becomes_22 ?_
    refine lv_if_le (tgt := 70) hx hb dX0_becomes_25 (by decide) (fun c_3 => ?_) (fun c_3 => ?_)
    · have hB := ifP c_3 hB
      refine lv_iload_n hx hb dX0_becomes_70 rfl (lv_at hl 2 rfl) ?_
      have hK := leafK hB hK
      have hK := elimR hK
      have hK : z1_0 = R0 := hK
      subst hK
      exact W.iret (v := z1_0) hx hb hr (fun t ht hW => ⟨_, rfl, rfl, ht⟩) (fun _ h => by cases h) dX0_becomes_71
    · have hB := ifN c_3 hB
      refine lv_iload_n hx hb dX0_becomes_28 rfl (lv_at hl 2 rfl) ?_
      refine lv_iload hx hb dX0_becomes_29 (lv_at hl 4 rfl) ?_
      refine lv_aload_n hx hb dX0_becomes_31 rfl (lv_at hl 0 rfl) ?_
      refine lv_iload_n hx hb dX0_becomes_32 rfl (lv_at hl 1 rfl) ?_
      refine lv_iload hx hb dX0_becomes_33 (lv_at hl 3 rfl) ?_
      refine lv_aload_n hx hb dX0_becomes_35 rfl (lv_at hl 0 rfl) ?_
      refine va_get (D := G) (ci := 0) (v := .int v_t_opinions) (C := RX0) (T := TX0) (N := 8) hx hb hg inX0 hown hKT hP 0 rfl rfl 0 (by decide) (hg _ gF_X0_9) (fun _ h9 => h9) rfl dX0_becomes_36 ?_
      obtain ⟨h_4, hB⟩ := ifS hB
      refine lj_irem hx hb dX0_becomes_39 h_4 ?_
      obtain ⟨q5, hq5, hB⟩ := bnd hB
      refine kr_V (WC := wd_X0_saidBy cs a_t a_t_turn a_t_bent v_t_opinions v_t_lines v_t_books v_t_told v_t_scribes v_t_need g_t_turn g_t_bent) (As := [.int p1, .int (jrem z1_1 v_t_opinions)]) (rest := [.int z1_2, .int z1_0]) (r0 := q5) ⟨hx, hb, hml, hown, hg⟩ (k_X0_saidBy l G cs a_t a_t_turn a_t_bent v_t_opinions v_t_lines v_t_books v_t_told v_t_scribes v_t_need g_t_turn g_t_bent p1 (jrem z1_1 v_t_opinions) q5 hq5) gM_X0_59 mI_X0_saidBy (rmk rfl) hP hKT hN 0 rfl rfl [0, 1, 2] rfl rfl hl.1 rfl (Nat.le_of_ble_eq_true rfl) dX0_becomes_40 ?_
      refine lv_imul hx hb dX0_becomes_43 ?_
      refine lv_iadd hx hb dX0_becomes_44 ?_
      refine lv_istore_n (lv' := [(3, .int (z1_0 + (z1_2 * q5))), (0, .ref a_t), (1, .int p1), (4, .int z1_1), (5, .int z1_2), (6, .int z1_3)]) hx hb dX0_becomes_45 rfl hl (by decide) rfl (fun ls hl => ?_)
      refine lv_iload hx hb dX0_becomes_46 (lv_at hl 3 rfl) ?_
      refine lv_aload_n hx hb dX0_becomes_48 rfl (lv_at hl 1 rfl) ?_
      refine va_get (D := G) (ci := 0) (v := .int v_t_opinions) (C := RX0) (T := TX0) (N := 8) hx hb hg inX0 hown hKT hP 0 rfl rfl 0 (by decide) (hg _ gF_X0_9) (fun _ h9 => h9) rfl dX0_becomes_49 ?_
      obtain ⟨h_6, hB⟩ := ifS hB
      refine lv_idiv hx hb dX0_becomes_52 h_6 ?_
      refine lv_istore (lv' := [(4, .int (z1_1 / v_t_opinions)), (3, .int (z1_0 + (z1_2 * q5))), (0, .ref a_t), (1, .int p1), (5, .int z1_2), (6, .int z1_3)]) hx hb dX0_becomes_53 hl (by decide) rfl (fun ls hl => ?_)
      refine lv_iload hx hb dX0_becomes_55 (lv_at hl 4 rfl) ?_
      refine lv_aload_n hx hb dX0_becomes_57 rfl (lv_at hl 2 rfl) ?_
      refine va_get (D := G) (ci := 0) (v := .int v_t_opinions) (C := RX0) (T := TX0) (N := 8) hx hb hg inX0 hown hKT hP 0 rfl rfl 0 (by decide) (hg _ gF_X0_9) (fun _ h9 => h9) rfl dX0_becomes_58 ?_
      refine lv_imul hx hb dX0_becomes_61 ?_
      refine lv_istore (lv' := [(5, .int (z1_2 * v_t_opinions)), (4, .int (z1_1 / v_t_opinions)), (3, .int (z1_0 + (z1_2 * q5))), (0, .ref a_t), (1, .int p1), (6, .int z1_3)]) hx hb dX0_becomes_62 hl (by decide) rfl (fun ls hl => ?_)
      refine lv_iinc (v := z1_3 + (-1 : Int32)) (lv' := [(6, .int (z1_3 + (-1 : Int32))), (5, .int (z1_2 * v_t_opinions)), (4, .int (z1_1 / v_t_opinions)), (3, .int (z1_0 + (z1_2 * q5))), (0, .ref a_t), (1, .int p1)]) hx hb dX0_becomes_64 hl (k := 5) rfl (inc_ok (by decide)) (by decide) rfl (fun ls hl => ?_)
      refine lv_goto (tgt := 16) hx hb dX0_becomes_67 (by decide) ?_
      have hK := leafK hB hK
      have hK := elimL hK
      exact hK ls (lv_sub hl [4, 5, 3, 2, 1, 0] rfl)
def wd_X0_unlikeLines (cs : Nat → ClassId) (a_t a_t_turn a_t_bent : Nat) (v_t_opinions : Int32) (v_t_lines : Int32) (v_t_books : Int32) (v_t_told : Int32) (v_t_scribes : Int32) (v_t_need : Int32) (g_t_turn : Nat → Int32) (g_t_bent : Nat → Int32) : va_W := [(a_t, .inr (0, [.int v_t_opinions, .int v_t_lines, .int v_t_books, .int v_t_told, .int v_t_scribes, .int v_t_need, .ref a_t_turn, .ref a_t_bent])), (a_t_turn, .inl (cs 0, 6, .inl g_t_turn)), (a_t_bent, .inl (cs 0, 6, .inl g_t_bent))]
def rm_X0_unlikeLines : Room := { frames := 3, cells := 0, slots := 0, locals := 64 }
theorem mI_X0_unlikeLines : MI yX0_unlikeLines RX0 cX0_unlikeLines 7 (some .int) 2 := ⟨gI_X0_unlikeLines, gE_X0_unlikeLines, gN_X0, gC_X0_unlikeLines, by decide +kernel⟩
set_option maxHeartbeats 4000000 in
set_option maxRecDepth 100000 in
theorem k_X0_unlikeLines (l : Launch) (G : va_G) (cs : Nat → ClassId) (a_t a_t_turn a_t_bent : Nat) (v_t_opinions : Int32) (v_t_lines : Int32) (v_t_books : Int32) (v_t_told : Int32) (v_t_scribes : Int32) (v_t_need : Int32) (g_t_turn : Nat → Int32) (g_t_bent : Nat → Int32) (p1 p2 : Int32) (R0 : Int32) (hB : f_X0_unlikeLines v_t_opinions v_t_lines v_t_scribes g_t_turn g_t_bent p1 p2 = some R0) : Met l yX0_unlikeLines (.code yX0_unlikeLines cX0_unlikeLines 7 (some .int) :: GW) rm_X0_unlikeLines (PcR G cs [.ref a_t, .int p1, .int p2] (wd_X0_unlikeLines cs a_t a_t_turn a_t_bent v_t_opinions v_t_lines v_t_books v_t_told v_t_scribes v_t_need g_t_turn g_t_bent)) (vp_Si (fun r => r = R0)) 0 0 (fun _ => False) := by
  refine Met.ofW (cc := cX0_unlikeLines) (maxL := 7) (ret := (some .int)) (by decide) rfl ?_
  intro p e s m args below meth c s₁ B hml hv
  obtain ⟨rfl, hP, hK, hN⟩ := hv
  have hx := B.exec
  have hb := B.bytes
  have hr := B.returns
  have hts := atoms_spec (ws := .code yX0_unlikeLines cX0_unlikeLines 7 (some .int) :: GW) B.pre
  have hg : ∀ w ∈ GW, w.before _ s = true := fun w h => hts w (List.mem_cons_of_mem _ h)
  have hown : s.vm.findClass RX0 = some m.cls := findClass_of_methodNamed B.named
  have hlocks := B.notSynchronized
  have hl := lv_entry ([.ref a_t, .int p1, .int p2]) (n := 7) (Nat.le_of_ble_eq_true rfl)
  rw [lg_entry_eq]
  generalize (lg_sl ([.ref a_t, .int p1, .int p2]) ++ List.replicate (7 - (lg_sl ([.ref a_t, .int p1, .int p2])).length) Slot.unset).toArray = ls at hl ⊢
  have hl : lv_has ls 7 [(0, .ref a_t), (1, .int p1), (2, .int p2)] := hl
  obtain ⟨y, hB, hK0⟩ : ∃ y, f_X0_unlikeLines v_t_opinions v_t_lines v_t_scribes g_t_turn g_t_bent p1 p2 = some y ∧ KEnd R0 y := ⟨R0, hB, rfl⟩
  have hKT := hK
  have hK := hK0
  show W p l e rm_X0_unlikeLines s m ([.ref a_t, .int p1, .int p2] : List Value).toArray below meth c s.heap [] 0 0 (MQ below (vp_Si (fun r => r = R0)) ([.ref a_t, .int p1, .int p2] : List Value).toArray s 0 0 (fun _ => False)) (F0 m 0 ls [])
  refine lv_iconst (v := 0) hx hb dX0_unlikeLines_0 (by decide) ?_
  refine lv_istore_n (lv' := [(3, .int (0 : Int32)), (0, .ref a_t), (1, .int p1), (2, .int p2)]) hx hb dX0_unlikeLines_1 rfl hl (by decide) rfl (fun ls hl => ?_)
  refine lv_iload_n hx hb dX0_unlikeLines_2 rfl (lv_at hl 3 rfl) ?_
  refine lv_istore (lv' := [(4, .int p2), (3, .int (0 : Int32)), (0, .ref a_t), (1, .int p1), (2, .int p2)]) hx hb dX0_unlikeLines_3 hl (by decide) rfl (fun ls hl => ?_)
  refine lv_aload_n hx hb dX0_unlikeLines_5 rfl (lv_at hl 2 rfl) ?_
  refine va_get (D := G) (ci := 0) (v := .int v_t_lines) (C := RX0) (T := TX0) (N := 8) hx hb hg inX0 hown hKT hP 0 rfl rfl 1 (by decide) (hg _ gF_X0_28) (fun _ h9 => h9) rfl dX0_unlikeLines_6 ?_
  refine lv_iconst (v := 1) hx hb dX0_unlikeLines_9 (by decide) ?_
  refine lv_isub hx hb dX0_unlikeLines_10 ?_
  refine lv_istore (lv' := [(5, .int (v_t_lines - (1 : Int32))), (4, .int p2), (3, .int (0 : Int32)), (0, .ref a_t), (1, .int p1), (2, .int p2)]) hx hb dX0_unlikeLines_11 hl (by decide) rfl (fun ls hl => ?_)
  refine lp_ind (Wh := fun (z1 : Int32 × Int32 × Int32) => ∀ (ls : Array Slot), lv_has ls 7 [(0, .ref a_t), (1, .int p1), (3, .int z1.1), (4, .int z1.2.1), (5, .int z1.2.2)] → W p l e rm_X0_unlikeLines s m ([.ref a_t, .int p1, .int p2] : List Value).toArray below meth c s.heap [] 0 0 (MQ below (vp_Si (fun r => r = R0)) ([.ref a_t, .int p1, .int p2] : List Value).toArray s 0 0 (fun _ => False)) (F0 m 13 ls [])) ?_ FU _ _ hB hK ls (lv_sub hl [3, 4, 2, 1, 0] rfl)
  rintro ⟨z1_0, z1_1, z1_2⟩ y hB hK ls hl
  have hl : lv_has ls 7 [(0, .ref a_t), (1, .int p1), (3, .int z1_0), (4, .int z1_1), (5, .int z1_2)] := hl
  refine lv_iload hx hb dX0_unlikeLines_13 (lv_at hl 4 rfl) ?_
  refine lv_if_lt (tgt := 68) hx hb dX0_unlikeLines_15 (by decide) (fun c_2 => ?_) (fun c_2 => ?_)
  · have hB := ifP c_2 hB
    refine lv_iload_n hx hb dX0_unlikeLines_68 rfl (lv_at hl 2 rfl) ?_
    have hK := leafK hB hK
    have hK := elimR hK
    have hK : z1_0 = R0 := hK
    subst hK
    exact W.iret (v := z1_0) hx hb hr (fun t ht hW => ⟨_, rfl, rfl, ht⟩) (fun _ h => by cases h) dX0_unlikeLines_69
  · have hB := ifN c_2 hB
    refine lv_aload_n hx hb dX0_unlikeLines_18 rfl (lv_at hl 0 rfl) ?_
    refine va_get (D := G) (ci := 0) (v := .int v_t_opinions) (C := RX0) (T := TX0) (N := 8) hx hb hg inX0 hown hKT hP 0 rfl rfl 0 (by decide) (hg _ gF_X0_9) (fun _ h9 => h9) rfl dX0_unlikeLines_19 ?_
    refine lv_if_le (tgt := 68) hx hb dX0_unlikeLines_22 (by decide) (fun c_3 => ?_) (fun c_3 => ?_)
    · have hB := ifP c_3 hB
      refine lv_iload_n hx hb dX0_unlikeLines_68 rfl (lv_at hl 2 rfl) ?_
      have hK := leafK hB hK
      have hK := elimR hK
      have hK : z1_0 = R0 := hK
      subst hK
      exact W.iret (v := z1_0) hx hb hr (fun t ht hW => ⟨_, rfl, rfl, ht⟩) (fun _ h => by cases h) dX0_unlikeLines_69
    · have hB := ifN c_3 hB
      refine lv_iload hx hb dX0_unlikeLines_25 (lv_at hl 3 rfl) ?_
      refine lv_aload_n hx hb dX0_unlikeLines_27 rfl (lv_at hl 0 rfl) ?_
      refine va_get (D := G) (ci := 0) (v := .int v_t_opinions) (C := RX0) (T := TX0) (N := 8) hx hb hg inX0 hown hKT hP 0 rfl rfl 0 (by decide) (hg _ gF_X0_9) (fun _ h9 => h9) rfl dX0_unlikeLines_28 ?_
      obtain ⟨h_4, hB⟩ := ifS hB
      refine lj_irem hx hb dX0_unlikeLines_31 h_4 ?_
      refine lv_istore (lv' := [(6, .int (jrem z1_1 v_t_opinions)), (0, .ref a_t), (1, .int p1), (3, .int z1_0), (4, .int z1_1), (5, .int z1_2)]) hx hb dX0_unlikeLines_32 hl (by decide) rfl (fun ls hl => ?_)
      refine lv_aload_n hx hb dX0_unlikeLines_34 rfl (lv_at hl 1 rfl) ?_
      refine lv_iload_n hx hb dX0_unlikeLines_35 rfl (lv_at hl 2 rfl) ?_
      refine lv_iload hx hb dX0_unlikeLines_36 (lv_at hl 0 rfl) ?_
      obtain ⟨q5, hq5, hB⟩ := bnd hB
      refine kr_V (WC := wd_X0_saidBy cs a_t a_t_turn a_t_bent v_t_opinions v_t_lines v_t_books v_t_told v_t_scribes v_t_need g_t_turn g_t_bent) (As := [.int p1, .int (jrem z1_1 v_t_opinions)]) (rest := []) (r0 := q5) ⟨hx, hb, hml, hown, hg⟩ (k_X0_saidBy l G cs a_t a_t_turn a_t_bent v_t_opinions v_t_lines v_t_books v_t_told v_t_scribes v_t_need g_t_turn g_t_bent p1 (jrem z1_1 v_t_opinions) q5 hq5) gM_X0_59 mI_X0_saidBy (rmk rfl) hP hKT hN 0 rfl rfl [0, 1, 2] rfl rfl hl.1 rfl (Nat.le_of_ble_eq_true rfl) dX0_unlikeLines_38 ?_
      refine lv_iload hx hb dX0_unlikeLines_41 (lv_at hl 0 rfl) ?_
      refine lv_icmp_eq (tgt := 53) hx hb dX0_unlikeLines_43 (by decide) (fun c_6 => ?_) (fun c_6 => ?_)
      · have hB := ifP c_6 hB
        refine lv_iload hx hb dX0_unlikeLines_53 (lv_at hl 4 rfl) ?_
        refine lv_aload_n hx hb dX0_unlikeLines_55 rfl (lv_at hl 1 rfl) ?_
        refine va_get (D := G) (ci := 0) (v := .int v_t_opinions) (C := RX0) (T := TX0) (N := 8) hx hb hg inX0 hown hKT hP 0 rfl rfl 0 (by decide) (hg _ gF_X0_9) (fun _ h9 => h9) rfl dX0_unlikeLines_56 ?_
        obtain ⟨h_7, hB⟩ := ifS hB
        refine lv_idiv hx hb dX0_unlikeLines_59 h_7 ?_
        refine lv_istore (lv' := [(4, .int (z1_1 / v_t_opinions)), (6, .int (jrem z1_1 v_t_opinions)), (0, .ref a_t), (1, .int p1), (3, .int z1_0), (5, .int z1_2)]) hx hb dX0_unlikeLines_60 hl (by decide) rfl (fun ls hl => ?_)
        refine lv_iinc (v := z1_2 + (-1 : Int32)) (lv' := [(5, .int (z1_2 + (-1 : Int32))), (4, .int (z1_1 / v_t_opinions)), (6, .int (jrem z1_1 v_t_opinions)), (0, .ref a_t), (1, .int p1), (3, .int z1_0)]) hx hb dX0_unlikeLines_62 hl (k := 5) rfl (inc_ok (by decide)) (by decide) rfl (fun ls hl => ?_)
        refine lv_goto (tgt := 13) hx hb dX0_unlikeLines_65 (by decide) ?_
        have hK := leafK hB hK
        have hK := elimL hK
        exact hK ls (lv_sub hl [3, 4, 5, 1, 0] rfl)
      · have hB := ifN c_6 hB
        refine lv_iload_n hx hb dX0_unlikeLines_46 rfl (lv_at hl 3 rfl) ?_
        refine lv_iconst (v := 1) hx hb dX0_unlikeLines_47 (by decide) ?_
        refine lv_iload hx hb dX0_unlikeLines_48 (lv_at hl 5 rfl) ?_
        refine lj_ishl hx hb dX0_unlikeLines_50 ?_
        refine lv_ior hx hb dX0_unlikeLines_51 ?_
        refine lv_istore_n (lv' := [(3, .int (z1_0 ||| (jshl (1 : Int32) z1_2))), (6, .int (jrem z1_1 v_t_opinions)), (0, .ref a_t), (1, .int p1), (4, .int z1_1), (5, .int z1_2)]) hx hb dX0_unlikeLines_52 rfl hl (by decide) rfl (fun ls hl => ?_)
        refine lv_iload hx hb dX0_unlikeLines_53 (lv_at hl 4 rfl) ?_
        refine lv_aload_n hx hb dX0_unlikeLines_55 rfl (lv_at hl 2 rfl) ?_
        refine va_get (D := G) (ci := 0) (v := .int v_t_opinions) (C := RX0) (T := TX0) (N := 8) hx hb hg inX0 hown hKT hP 0 rfl rfl 0 (by decide) (hg _ gF_X0_9) (fun _ h9 => h9) rfl dX0_unlikeLines_56 ?_
        obtain ⟨h_8, hB⟩ := ifS hB
        refine lv_idiv hx hb dX0_unlikeLines_59 h_8 ?_
        refine lv_istore (lv' := [(4, .int (z1_1 / v_t_opinions)), (3, .int (z1_0 ||| (jshl (1 : Int32) z1_2))), (6, .int (jrem z1_1 v_t_opinions)), (0, .ref a_t), (1, .int p1), (5, .int z1_2)]) hx hb dX0_unlikeLines_60 hl (by decide) rfl (fun ls hl => ?_)
        refine lv_iinc (v := z1_2 + (-1 : Int32)) (lv' := [(5, .int (z1_2 + (-1 : Int32))), (4, .int (z1_1 / v_t_opinions)), (3, .int (z1_0 ||| (jshl (1 : Int32) z1_2))), (6, .int (jrem z1_1 v_t_opinions)), (0, .ref a_t), (1, .int p1)]) hx hb dX0_unlikeLines_62 hl (k := 5) rfl (inc_ok (by decide)) (by decide) rfl (fun ls hl => ?_)
        refine lv_goto (tgt := 13) hx hb dX0_unlikeLines_65 (by decide) ?_
        have hK := leafK hB hK
        have hK := elimL hK
        exact hK ls (lv_sub hl [4, 5, 2, 1, 0] rfl)
def wd_X0_isConvinced (cs : Nat → ClassId) (a_t a_t_turn a_t_bent : Nat) (v_t_opinions : Int32) (v_t_lines : Int32) (v_t_books : Int32) (v_t_told : Int32) (v_t_scribes : Int32) (v_t_need : Int32) (g_t_turn : Nat → Int32) (g_t_bent : Nat → Int32) : va_W := [(a_t, .inr (0, [.int v_t_opinions, .int v_t_lines, .int v_t_books, .int v_t_told, .int v_t_scribes, .int v_t_need, .ref a_t_turn, .ref a_t_bent])), (a_t_turn, .inl (cs 0, 6, .inl g_t_turn)), (a_t_bent, .inl (cs 0, 6, .inl g_t_bent))]
def rm_X0_isConvinced : Room := { frames := 4, cells := 0, slots := 0, locals := 90 }
theorem mI_X0_isConvinced : MI yX0_isConvinced RX0 cX0_isConvinced 3 (some .boolean) 2 := ⟨gI_X0_isConvinced, gE_X0_isConvinced, gN_X0, gC_X0_isConvinced, by decide +kernel⟩
set_option maxHeartbeats 4000000 in
set_option maxRecDepth 100000 in
theorem k_X0_isConvinced (l : Launch) (G : va_G) (cs : Nat → ClassId) (a_t a_t_turn a_t_bent : Nat) (v_t_opinions : Int32) (v_t_lines : Int32) (v_t_books : Int32) (v_t_told : Int32) (v_t_scribes : Int32) (v_t_need : Int32) (g_t_turn : Nat → Int32) (g_t_bent : Nat → Int32) (p1 p2 : Int32) (R0 : Int32) (hB : f_X0_isConvinced v_t_opinions v_t_lines v_t_scribes v_t_need g_t_turn g_t_bent p1 p2 = some R0) : Met l yX0_isConvinced (.code yX0_isConvinced cX0_isConvinced 3 (some .boolean) :: GW) rm_X0_isConvinced (PcR G cs [.ref a_t, .int p1, .int p2] (wd_X0_isConvinced cs a_t a_t_turn a_t_bent v_t_opinions v_t_lines v_t_books v_t_told v_t_scribes v_t_need g_t_turn g_t_bent)) (vp_Si (fun r => r = R0)) 0 0 (fun _ => False) := by
  refine Met.ofW (cc := cX0_isConvinced) (maxL := 3) (ret := (some .boolean)) (by decide) rfl ?_
  intro p e s m args below meth c s₁ B hml hv
  obtain ⟨rfl, hP, hK, hN⟩ := hv
  have hx := B.exec
  have hb := B.bytes
  have hr := B.returns
  have hts := atoms_spec (ws := .code yX0_isConvinced cX0_isConvinced 3 (some .boolean) :: GW) B.pre
  have hg : ∀ w ∈ GW, w.before _ s = true := fun w h => hts w (List.mem_cons_of_mem _ h)
  have hown : s.vm.findClass RX0 = some m.cls := findClass_of_methodNamed B.named
  have hlocks := B.notSynchronized
  have hl := lv_entry ([.ref a_t, .int p1, .int p2]) (n := 3) (Nat.le_of_ble_eq_true rfl)
  rw [lg_entry_eq]
  generalize (lg_sl ([.ref a_t, .int p1, .int p2]) ++ List.replicate (3 - (lg_sl ([.ref a_t, .int p1, .int p2])).length) Slot.unset).toArray = ls at hl ⊢
  have hl : lv_has ls 3 [(0, .ref a_t), (1, .int p1), (2, .int p2)] := hl
  obtain ⟨y, hB, hK0⟩ : ∃ y, f_X0_isConvinced v_t_opinions v_t_lines v_t_scribes v_t_need g_t_turn g_t_bent p1 p2 = some y ∧ KEnd R0 y := ⟨R0, hB, rfl⟩
  have hKT := hK
  have hK := hK0
  show W p l e rm_X0_isConvinced s m ([.ref a_t, .int p1, .int p2] : List Value).toArray below meth c s.heap [] 0 0 (MQ below (vp_Si (fun r => r = R0)) ([.ref a_t, .int p1, .int p2] : List Value).toArray s 0 0 (fun _ => False)) (F0 m 0 ls [])
  refine lv_aload_n hx hb dX0_isConvinced_0 rfl (lv_at hl 0 rfl) ?_
  refine lv_iload_n hx hb dX0_isConvinced_1 rfl (lv_at hl 1 rfl) ?_
  refine lv_iload_n hx hb dX0_isConvinced_2 rfl (lv_at hl 2 rfl) ?_
  obtain ⟨q1, hq1, hB⟩ := bnd hB
  refine kr_V (WC := wd_X0_unlikeLines cs a_t a_t_turn a_t_bent v_t_opinions v_t_lines v_t_books v_t_told v_t_scribes v_t_need g_t_turn g_t_bent) (As := [.int p1, .int p2]) (rest := []) (r0 := q1) ⟨hx, hb, hml, hown, hg⟩ (k_X0_unlikeLines l G cs a_t a_t_turn a_t_bent v_t_opinions v_t_lines v_t_books v_t_told v_t_scribes v_t_need g_t_turn g_t_bent p1 p2 q1 hq1) gM_X0_62 mI_X0_unlikeLines (rmk rfl) hP hKT hN 0 rfl rfl [0, 1, 2] rfl rfl hl.1 rfl (Nat.le_of_ble_eq_true rfl) dX0_isConvinced_3 ?_
  obtain ⟨q2, hq2, hB⟩ := bnd hB
  refine kr_S (WC := wd_J6_bitCount_0f7a4 cs ) (As := [.int q1]) (rest := []) (r0 := q2) ⟨hx, hb, hml, hown, hg⟩ (k_J6_bitCount_0f7a4 l G cs q1 q2 hq2) gM_X0_65 mS_J6_bitCount_0f7a4 (rmk rfl) hP hKT hN [] rfl rfl hl.1 rfl (Nat.le_of_ble_eq_true rfl) dX0_isConvinced_6 ?_
  refine lv_aload_n hx hb dX0_isConvinced_9 rfl (lv_at hl 0 rfl) ?_
  refine va_get (D := G) (ci := 0) (v := .int v_t_need) (C := RX0) (T := TX0) (N := 8) hx hb hg inX0 hown hKT hP 0 rfl rfl 5 (by decide) (hg _ gF_X0_18) (fun _ h9 => h9) rfl dX0_isConvinced_10 ?_
  refine lv_icmp_ge (tgt := 20) hx hb dX0_isConvinced_13 (by decide) (fun c_3 => ?_) (fun c_3 => ?_)
  · have hB := ifP c_3 hB
    refine lv_iconst (v := 0) hx hb dX0_isConvinced_20 (by decide) ?_
    have hK := leafK hB hK
    have hK : (0 : Int32) = R0 := hK
    subst hK
    exact W.zret (v := (0 : Int32)) (ty := .boolean) hx hb hr rfl (fun t ht hW => ⟨_, rfl, rfl, ht⟩) (fun _ h => by cases h) dX0_isConvinced_21
  · have hB := ifN c_3 hB
    refine lv_iconst (v := 1) hx hb dX0_isConvinced_16 (by decide) ?_
    refine lv_goto (tgt := 21) hx hb dX0_isConvinced_17 (by decide) ?_
    have hK := leafK hB hK
    have hK : (1 : Int32) = R0 := hK
    subst hK
    exact W.zret (v := (1 : Int32)) (ty := .boolean) hx hb hr rfl (fun t ht hW => ⟨_, rfl, rfl, ht⟩) (fun _ h => by cases h) dX0_isConvinced_21
def wd_X0_comesRound (cs : Nat → ClassId) (a_t a_t_turn a_t_bent : Nat) (v_t_opinions : Int32) (v_t_lines : Int32) (v_t_books : Int32) (v_t_told : Int32) (v_t_scribes : Int32) (v_t_need : Int32) (g_t_turn : Nat → Int32) (g_t_bent : Nat → Int32) : va_W := [(a_t, .inr (0, [.int v_t_opinions, .int v_t_lines, .int v_t_books, .int v_t_told, .int v_t_scribes, .int v_t_need, .ref a_t_turn, .ref a_t_bent])), (a_t_turn, .inl (cs 0, 6, .inl g_t_turn)), (a_t_bent, .inl (cs 0, 6, .inl g_t_bent))]
def rm_X0_comesRound : Room := { frames := 4, cells := 0, slots := 0, locals := 90 }
theorem mI_X0_comesRound : MI yX0_comesRound RX0 cX0_comesRound 5 (some .int) 2 := ⟨gI_X0_comesRound, gE_X0_comesRound, gN_X0, gC_X0_comesRound, by decide +kernel⟩
set_option maxHeartbeats 4000000 in
set_option maxRecDepth 100000 in
theorem k_X0_comesRound (l : Launch) (G : va_G) (cs : Nat → ClassId) (a_t a_t_turn a_t_bent : Nat) (v_t_opinions : Int32) (v_t_lines : Int32) (v_t_books : Int32) (v_t_told : Int32) (v_t_scribes : Int32) (v_t_need : Int32) (g_t_turn : Nat → Int32) (g_t_bent : Nat → Int32) (p1 p2 : Int32) (R0 : Int32) (hB : f_X0_comesRound v_t_opinions v_t_lines v_t_books v_t_scribes g_t_turn g_t_bent p1 p2 = some R0) : Met l yX0_comesRound (.code yX0_comesRound cX0_comesRound 5 (some .int) :: GW) rm_X0_comesRound (PcR G cs [.ref a_t, .int p1, .int p2] (wd_X0_comesRound cs a_t a_t_turn a_t_bent v_t_opinions v_t_lines v_t_books v_t_told v_t_scribes v_t_need g_t_turn g_t_bent)) (vp_Si (fun r => r = R0)) 0 0 (fun _ => False) := by
  refine Met.ofW (cc := cX0_comesRound) (maxL := 5) (ret := (some .int)) (by decide) rfl ?_
  intro p e s m args below meth c s₁ B hml hv
  obtain ⟨rfl, hP, hK, hN⟩ := hv
  have hx := B.exec
  have hb := B.bytes
  have hr := B.returns
  have hts := atoms_spec (ws := .code yX0_comesRound cX0_comesRound 5 (some .int) :: GW) B.pre
  have hg : ∀ w ∈ GW, w.before _ s = true := fun w h => hts w (List.mem_cons_of_mem _ h)
  have hown : s.vm.findClass RX0 = some m.cls := findClass_of_methodNamed B.named
  have hlocks := B.notSynchronized
  have hl := lv_entry ([.ref a_t, .int p1, .int p2]) (n := 5) (Nat.le_of_ble_eq_true rfl)
  rw [lg_entry_eq]
  generalize (lg_sl ([.ref a_t, .int p1, .int p2]) ++ List.replicate (5 - (lg_sl ([.ref a_t, .int p1, .int p2])).length) Slot.unset).toArray = ls at hl ⊢
  have hl : lv_has ls 5 [(0, .ref a_t), (1, .int p1), (2, .int p2)] := hl
  obtain ⟨y, hB, hK0⟩ : ∃ y, f_X0_comesRound v_t_opinions v_t_lines v_t_books v_t_scribes g_t_turn g_t_bent p1 p2 = some y ∧ KEnd R0 y := ⟨R0, hB, rfl⟩
  have hKT := hK
  have hK := hK0
  show W p l e rm_X0_comesRound s m ([.ref a_t, .int p1, .int p2] : List Value).toArray below meth c s.heap [] 0 0 (MQ below (vp_Si (fun r => r = R0)) ([.ref a_t, .int p1, .int p2] : List Value).toArray s 0 0 (fun _ => False)) (F0 m 0 ls [])
  refine lv_iload_n hx hb dX0_comesRound_0 rfl (lv_at hl 2 rfl) ?_
  refine lv_istore_n (lv' := [(3, .int p2), (0, .ref a_t), (1, .int p1), (2, .int p2)]) hx hb dX0_comesRound_1 rfl hl (by decide) rfl (fun ls hl => ?_)
  refine lv_iconst (v := 1) hx hb dX0_comesRound_2 (by decide) ?_
  refine lv_istore (lv' := [(4, .int (1 : Int32)), (3, .int p2), (0, .ref a_t), (1, .int p1), (2, .int p2)]) hx hb dX0_comesRound_3 hl (by decide) rfl (fun ls hl => ?_)
  refine lp_ind (Wh := fun (z1 : Int32 × Int32) => ∀ (ls : Array Slot), lv_has ls 5 [(0, .ref a_t), (1, .int p1), (2, .int p2), (3, .int z1.1), (4, .int z1.2)] → W p l e rm_X0_comesRound s m ([.ref a_t, .int p1, .int p2] : List Value).toArray below meth c s.heap [] 0 0 (MQ below (vp_Si (fun r => r = R0)) ([.ref a_t, .int p1, .int p2] : List Value).toArray s 0 0 (fun _ => False)) (F0 m 5 ls [])) ?_ FU _ _ hB hK ls (lv_sub hl [2, 3, 4, 1, 0] rfl)
  rintro ⟨z1_0, z1_1⟩ y hB hK ls hl
  have hl : lv_has ls 5 [(0, .ref a_t), (1, .int p1), (2, .int p2), (3, .int z1_0), (4, .int z1_1)] := hl
  refine lv_iload hx hb dX0_comesRound_5 (lv_at hl 4 rfl) ?_
  refine lv_aload_n hx hb dX0_comesRound_7 rfl (lv_at hl 0 rfl) ?_
  refine va_get (D := G) (ci := 0) (v := .int v_t_books) (C := RX0) (T := TX0) (N := 8) hx hb hg inX0 hown hKT hP 0 rfl rfl 2 (by decide) (hg _ gF_X0_15) (fun _ h9 => h9) rfl dX0_comesRound_8 ?_
  refine lv_icmp_gt (tgt := 35) hx hb dX0_comesRound_11 (by decide) (fun c_2 => ?_) (fun c_2 => ?_)
  · have hB := ifP c_2 hB
    refine lv_bipush (v := -9) hx hb dX0_comesRound_35 (by decide) ?_
    have hK := leafK hB hK
    have hK := elimR hK
    have hK : (-9 : Int32) = R0 := hK
    subst hK
    exact W.iret (v := (-9 : Int32)) hx hb hr (fun t ht hW => ⟨_, rfl, rfl, ht⟩) (fun _ h => by cases h) dX0_comesRound_37
  · have hB := ifN c_2 hB
    refine lv_aload_n hx hb dX0_comesRound_14 rfl (lv_at hl 0 rfl) ?_
    refine lv_iload_n hx hb dX0_comesRound_15 rfl (lv_at hl 1 rfl) ?_
    refine lv_iload_n hx hb dX0_comesRound_16 rfl (lv_at hl 3 rfl) ?_
    obtain ⟨q3, hq3, hB⟩ := bnd hB
    refine kr_V (WC := wd_X0_becomes cs a_t a_t_turn a_t_bent v_t_opinions v_t_lines v_t_books v_t_told v_t_scribes v_t_need g_t_turn g_t_bent) (As := [.int p1, .int z1_0]) (rest := []) (r0 := q3) ⟨hx, hb, hml, hown, hg⟩ (k_X0_becomes l G cs a_t a_t_turn a_t_bent v_t_opinions v_t_lines v_t_books v_t_told v_t_scribes v_t_need g_t_turn g_t_bent p1 z1_0 q3 hq3) gM_X0_70 mI_X0_becomes (rmk rfl) hP hKT hN 0 rfl rfl [0, 1, 2] rfl rfl hl.1 rfl (Nat.le_of_ble_eq_true rfl) dX0_comesRound_17 ?_
    refine lv_istore_n (lv' := [(3, .int q3), (0, .ref a_t), (1, .int p1), (2, .int p2), (4, .int z1_1)]) hx hb dX0_comesRound_20 rfl hl (by decide) rfl (fun ls hl => ?_)
    refine lv_iload_n hx hb dX0_comesRound_21 rfl (lv_at hl 0 rfl) ?_
    refine lv_iload_n hx hb dX0_comesRound_22 rfl (lv_at hl 3 rfl) ?_
    refine lv_icmp_ne (tgt := 29) hx hb dX0_comesRound_23 (by decide) (fun c_4 => ?_) (fun c_4 => ?_)
    · have hB := ifN c_4 hB
      refine lv_iinc (v := z1_1 + (1 : Int32)) (lv' := [(4, .int (z1_1 + (1 : Int32))), (3, .int q3), (0, .ref a_t), (1, .int p1), (2, .int p2)]) hx hb dX0_comesRound_29 hl (k := 4) rfl (inc_ok (by decide)) (by decide) rfl (fun ls hl => ?_)
      refine lv_goto (tgt := 5) hx hb dX0_comesRound_32 (by decide) ?_
      have hK := leafK hB hK
      have hK := elimL hK
      exact hK ls (lv_sub hl [2, 3, 4, 1, 0] rfl)
    · have hB := ifP c_4 hB
      refine lv_iload hx hb dX0_comesRound_26 (lv_at hl 4 rfl) ?_
      have hK := leafK hB hK
      have hK := elimR hK
      have hK : z1_1 = R0 := hK
      subst hK
      exact W.iret (v := z1_1) hx hb hr (fun t ht hW => ⟨_, rfl, rfl, ht⟩) (fun _ h => by cases h) dX0_comesRound_28
