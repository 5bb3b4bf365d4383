theorem inX2 : ∀ w ∈ u_ws RX2 TX2 3, w ∈ GW := by
  intro w h
  obtain ⟨k, hk, rfl⟩ := List.mem_map.mp h
  have hk := List.mem_range.mp hk
  rcases (show k = 0 ∨ k = 1 ∨ k = 2 by omega) with rfl | rfl | rfl
  · exact gY_X2_of
  · exact gY_X2_said
  · exact gY_X2_size
def wd_X2_add (cs : Nat → ClassId) (a_t a_t_of a_t_said : Nat) (v_t_size : Int32) (g_t_of : Nat → Int32) (g_t_said : Nat → Int32) : va_W := [(a_t, .inr (2, [.ref a_t_of, .ref a_t_said, .int v_t_size])), (a_t_of, .inl (cs 0, 6, .inl g_t_of)), (a_t_said, .inl (cs 0, 6, .inl g_t_said))]
def rm_X2_add : Room := { frames := 0, cells := 0, slots := 0, locals := 0 }
theorem mI_X2_add : MI yX2_add RX2 cX2_add 3 (some .boolean) 2 := ⟨gI_X2_add, gE_X2_add, gN_X2, gC_X2_add, by decide +kernel⟩
set_option maxHeartbeats 4000000 in
set_option maxRecDepth 100000 in
theorem k_X2_add (l : Launch) (G : va_G) (cs : Nat → ClassId) (a_t a_t_of a_t_said : Nat) (v_t_size : Int32) (g_t_of : Nat → Int32) (g_t_said : Nat → Int32) (p1 p2 : Int32) (sz : Nat) (R0 : Int32 × Int32 × (Nat → Int32) × (Nat → Int32)) (hB : f_X2_add v_t_size g_t_of g_t_said p1 p2 = some R0) : Met l yX2_add (.code yX2_add cX2_add 3 (some .boolean) :: GW) rm_X2_add (PcW G cs [.ref a_t, .int p1, .int p2] (wd_X2_add cs a_t a_t_of a_t_said v_t_size g_t_of g_t_said) sz) (QcI G (va_A (wd_X2_add cs a_t a_t_of a_t_said v_t_size g_t_of g_t_said) sz) (wd_X2_add cs a_t a_t_of a_t_said R0.2.1 R0.2.2.1 R0.2.2.2) R0.1) 0 0 (va_A (wd_X2_add cs a_t a_t_of a_t_said v_t_size g_t_of g_t_said) sz) := by
  refine Met.ofW (cc := cX2_add) (maxL := 3) (ret := (some .boolean)) (by decide) rfl ?_
  intro p e s m args below meth c s₁ B hml hv
  obtain ⟨rfl, hsz, hP, hD0, hK, hN⟩ := hv
  have hx := B.exec
  have hb := B.bytes
  have hr := B.returns
  have hts := atoms_spec (ws := .code yX2_add cX2_add 3 (some .boolean) :: GW) B.pre
  have hg : ∀ w ∈ GW, w.before _ s = true := fun w h => hts w (List.mem_cons_of_mem _ h)
  have hown : s.vm.findClass RX2 = some m.cls := findClass_of_methodNamed B.named
  have hlocks := B.notSynchronized
  subst hsz
  have hD := hD0.self (sz := s.heap.size)
  generalize hAe : va_A (wd_X2_add cs a_t a_t_of a_t_said v_t_size g_t_of g_t_said) s.heap.size = A at hD ⊢
  have hA : ∀ q : Nat, s.heap.size ≤ q → A q := fun q h => by rw [← hAe]; exact Or.inr h
  have hS : va_S A s.heap s.heap [] := va_S.rf
  have hl := lv_entry ([.ref a_t, .int p1, .int p2]) (n := 3) (Nat.le_of_ble_eq_true rfl)
  rw [lg_entry_eq]
  generalize (lg_sl ([.ref a_t, .int p1, .int p2]) ++ List.replicate (3 - (lg_sl ([.ref a_t, .int p1, .int p2])).length) Slot.unset).toArray = ls at hl ⊢
  have hl : lv_has ls 3 [(0, .ref a_t), (1, .int p1), (2, .int p2)] := hl
  obtain ⟨y, hB, hK0⟩ : ∃ y, f_X2_add v_t_size g_t_of g_t_said p1 p2 = some y ∧ KEnd R0 y := ⟨R0, hB, rfl⟩
  have hKT := hK
  have hK := hK0
  obtain ⟨H, hHe⟩ : ∃ H, H = s.heap := ⟨_, rfl⟩
  obtain ⟨locs, hLe⟩ : ∃ L : List Loc, L = [] := ⟨_, rfl⟩
  rw [← hHe] at hP
  have hS : va_S A s.heap H locs := by rw [hHe, hLe]; exact hS
  show W p l e rm_X2_add s m ([.ref a_t, .int p1, .int p2] : List Value).toArray below meth c s.heap [] 0 0 _ _
  suffices hgo : W p l e rm_X2_add s m ([.ref a_t, .int p1, .int p2] : List Value).toArray below meth c H locs 0 0 (MQ below (QcI G A (wd_X2_add cs a_t a_t_of a_t_said R0.2.1 R0.2.2.1 R0.2.2.2) R0.1) ([.ref a_t, .int p1, .int p2] : List Value).toArray s 0 0 A) (F0 m 0 ls []) by rw [hHe, hLe] at hgo; exact hgo
  refine lv_aload_n hx hb dX2_add_0 rfl (lv_at hl 0 rfl) ?_
  refine va_get (D := G) (ci := 2) (v := .int v_t_size) (C := RX2) (T := TX2) (N := 3) hx hb hg inX2 hown hKT hP 0 rfl rfl 2 (by decide) (hg _ gF_X2_18) (fun _ h9 => h9) rfl dX2_add_1 ?_
  refine lv_if_lt (tgt := 16) hx hb dX2_add_4 (by decide) (fun c_1 => ?_) (fun c_1 => ?_)
  · have hB := ifP c_1 hB
    refine lv_iconst (v := 0) hx hb dX2_add_16 (by decide) ?_
    have hK := leafK hB hK
    have hK : ((0 : Int32), v_t_size, g_t_of, g_t_said) = R0 := hK
    subst hK
    exact W.zret (v := (0 : Int32)) (ty := .boolean) hx hb hr rfl (fun t ht hW => ⟨⟨_, (), rfl, rfl, by rw [ht]; exact hP, hD⟩, hS.F ht⟩) hS.2.2 dX2_add_17
  · have hB := ifN c_1 hB
    refine lv_aload_n hx hb dX2_add_7 rfl (lv_at hl 0 rfl) ?_
    refine va_get (D := G) (ci := 2) (v := .int v_t_size) (C := RX2) (T := TX2) (N := 3) hx hb hg inX2 hown hKT hP 0 rfl rfl 2 (by decide) (hg _ gF_X2_18) (fun _ h9 => h9) rfl dX2_add_8 ?_
    refine lv_bipush (v := 6) hx hb dX2_add_11 (by decide) ?_
    refine lv_icmp_lt (tgt := 18) hx hb dX2_add_13 (by decide) (fun c_2 => ?_) (fun c_2 => ?_)
    · have hB := ifP c_2 hB
      refine lv_aload_n hx hb dX2_add_18 rfl (lv_at hl 0 rfl) ?_
      refine va_get (D := G) (ci := 2) (v := .ref a_t_of) (C := RX2) (T := TX2) (N := 3) hx hb hg inX2 hown hKT hP 0 rfl rfl 0 (by decide) (hg _ gF_X2_11) (fun _ h9 => h9) rfl dX2_add_19 ?_
      refine lv_aload_n hx hb dX2_add_22 rfl (lv_at hl 0 rfl) ?_
      refine va_get (D := G) (ci := 2) (v := .int v_t_size) (C := RX2) (T := TX2) (N := 3) hx hb hg inX2 hown hKT hP 0 rfl rfl 2 (by decide) (hg _ gF_X2_18) (fun _ h9 => h9) rfl dX2_add_23 ?_
      refine lv_iload_n hx hb dX2_add_26 rfl (lv_at hl 1 rfl) ?_
      obtain ⟨h_3, hB⟩ := ifS hB
      refine va_iast hx hb hKT hP hD hS 1 0 rfl rfl h_3 dX2_add_27 (fun H locs hP hD hS => ?_)
      have hP : va_P G vwCl (wd_X2_add cs a_t a_t_of a_t_said v_t_size (upd g_t_of v_t_size.toNatClampNeg p1) g_t_said) H := hP
      have hD : va_D A (wd_X2_add cs a_t a_t_of a_t_said v_t_size (upd g_t_of v_t_size.toNatClampNeg p1) g_t_said) := hD
      refine lv_aload_n hx hb dX2_add_28 rfl (lv_at hl 0 rfl) ?_
      refine va_get (D := G) (ci := 2) (v := .ref a_t_said) (C := RX2) (T := TX2) (N := 3) hx hb hg inX2 hown hKT hP 0 rfl rfl 1 (by decide) (hg _ gF_X2_15) (fun _ h9 => h9) rfl dX2_add_29 ?_
      refine lv_aload_n hx hb dX2_add_32 rfl (lv_at hl 0 rfl) ?_
      refine va_get (D := G) (ci := 2) (v := .int v_t_size) (C := RX2) (T := TX2) (N := 3) hx hb hg inX2 hown hKT hP 0 rfl rfl 2 (by decide) (hg _ gF_X2_18) (fun _ h9 => h9) rfl dX2_add_33 ?_
      refine lv_iload_n hx hb dX2_add_36 rfl (lv_at hl 2 rfl) ?_
      obtain ⟨h_4, hB⟩ := ifS hB
      refine va_iast hx hb hKT hP hD hS 2 0 rfl rfl h_4 dX2_add_37 (fun H locs hP hD hS => ?_)
      have hP : va_P G vwCl (wd_X2_add cs a_t a_t_of a_t_said v_t_size (upd g_t_of v_t_size.toNatClampNeg p1) (upd g_t_said v_t_size.toNatClampNeg p2)) H := hP
      have hD : va_D A (wd_X2_add cs a_t a_t_of a_t_said v_t_size (upd g_t_of v_t_size.toNatClampNeg p1) (upd g_t_said v_t_size.toNatClampNeg p2)) := hD
      refine lv_aload_n hx hb dX2_add_38 rfl (lv_at hl 0 rfl) ?_
      refine lv_dup hx hb dX2_add_39 rfl ?_
      refine va_get (D := G) (ci := 2) (v := .int v_t_size) (C := RX2) (T := TX2) (N := 3) hx hb hg inX2 hown hKT hP 0 rfl rfl 2 (by decide) (hg _ gF_X2_18) (fun _ h9 => h9) rfl dX2_add_40 ?_
      refine lv_iconst (v := 1) hx hb dX2_add_43 (by decide) ?_
      refine lv_iadd hx hb dX2_add_44 ?_
      refine va_put (D := G) (ci := 2) (v := .int (v_t_size + (1 : Int32))) (ty := .int) (C := RX2) (T := TX2) (N := 3) hx hb hg inX2 tyX2 tyX2_ok nmX2 hown hKT hP hD hS 0 rfl rfl 2 (by decide) (hg _ gF_X2_18) (fun _ h9 => h9) rfl (by decide +kernel) rfl rfl (Nat.le_of_ble_eq_true rfl) dX2_add_45 (fun H locs hP hD hS => ?_)
      have hP : va_P G vwCl (wd_X2_add cs a_t a_t_of a_t_said (v_t_size + (1 : Int32)) (upd g_t_of v_t_size.toNatClampNeg p1) (upd g_t_said v_t_size.toNatClampNeg p2)) H := hP
      have hD : va_D A (wd_X2_add cs a_t a_t_of a_t_said (v_t_size + (1 : Int32)) (upd g_t_of v_t_size.toNatClampNeg p1) (upd g_t_said v_t_size.toNatClampNeg p2)) := hD
      refine lv_iconst (v := 1) hx hb dX2_add_48 (by decide) ?_
      have hK := leafK hB hK
      have hK : ((1 : Int32), v_t_size + (1 : Int32), upd g_t_of v_t_size.toNatClampNeg p1, upd g_t_said v_t_size.toNatClampNeg p2) = R0 := hK
      subst hK
      exact W.zret (v := (1 : Int32)) (ty := .boolean) hx hb hr rfl (fun t ht hW => ⟨⟨_, (), rfl, rfl, by rw [ht]; exact hP, hD⟩, hS.F ht⟩) hS.2.2 dX2_add_49
    · have hB := ifN c_2 hB
      refine lv_iconst (v := 0) hx hb dX2_add_16 (by decide) ?_
      have hK := leafK hB hK
      have hK : ((0 : Int32), v_t_size, g_t_of, g_t_said) = R0 := hK
      subst hK
      exact W.zret (v := (0 : Int32)) (ty := .boolean) hx hb hr rfl (fun t ht hW => ⟨⟨_, (), rfl, rfl, by rw [ht]; exact hP, hD⟩, hS.F ht⟩) hS.2.2 dX2_add_17
def wd_X2_empty (cs : Nat → ClassId) (a_t a_t_of a_t_said : Nat) (v_t_size : Int32) : va_W := [(a_t, .inr (2, [.ref a_t_of, .ref a_t_said, .int v_t_size]))]
def rm_X2_empty : Room := { frames := 0, cells := 0, slots := 0, locals := 0 }
theorem mI_X2_empty : MI yX2_empty RX2 cX2_empty 2 (some .int) 0 := ⟨gI_X2_empty, gE_X2_empty, gN_X2, gC_X2_empty, by decide +kernel⟩
set_option maxHeartbeats 4000000 in
set_option maxRecDepth 100000 in
theorem k_X2_empty (l : Launch) (G : va_G) (cs : Nat → ClassId) (a_t a_t_of a_t_said : Nat) (v_t_size : Int32) (sz : Nat) (R0 : Int32 × Int32) (hB : f_X2_empty v_t_size = some R0) : Met l yX2_empty (.code yX2_empty cX2_empty 2 (some .int) :: GW) rm_X2_empty (PcW G cs [.ref a_t] (wd_X2_empty cs a_t a_t_of a_t_said v_t_size) sz) (QcI G (va_A (wd_X2_empty cs a_t a_t_of a_t_said v_t_size) sz) (wd_X2_empty cs a_t a_t_of a_t_said R0.2) R0.1) 0 0 (va_A (wd_X2_empty cs a_t a_t_of a_t_said v_t_size) sz) := by
  refine Met.ofW (cc := cX2_empty) (maxL := 2) (ret := (some .int)) (by decide) rfl ?_
  intro p e s m args below meth c s₁ B hml hv
  obtain ⟨rfl, hsz, hP, hD0, hK, hN⟩ := hv
  have hx := B.exec
  have hb := B.bytes
  have hr := B.returns
  have hts := atoms_spec (ws := .code yX2_empty cX2_empty 2 (some .int) :: GW) B.pre
  have hg : ∀ w ∈ GW, w.before _ s = true := fun w h => hts w (List.mem_cons_of_mem _ h)
  have hown : s.vm.findClass RX2 = some m.cls := findClass_of_methodNamed B.named
  have hlocks := B.notSynchronized
  subst hsz
  have hD := hD0.self (sz := s.heap.size)
  generalize hAe : va_A (wd_X2_empty cs a_t a_t_of a_t_said v_t_size) s.heap.size = A at hD ⊢
  have hA : ∀ q : Nat, s.heap.size ≤ q → A q := fun q h => by rw [← hAe]; exact Or.inr h
  have hS : va_S A s.heap s.heap [] := va_S.rf
  have hl := lv_entry ([.ref a_t]) (n := 2) (Nat.le_of_ble_eq_true rfl)
  rw [lg_entry_eq]
  generalize (lg_sl ([.ref a_t]) ++ List.replicate (2 - (lg_sl ([.ref a_t])).length) Slot.unset).toArray = ls at hl ⊢
  have hl : lv_has ls 2 [(0, .ref a_t)] := hl
  obtain ⟨y, hB, hK0⟩ : ∃ y, f_X2_empty v_t_size = some y ∧ KEnd R0 y := ⟨R0, hB, rfl⟩
  have hKT := hK
  have hK := hK0
  obtain ⟨H, hHe⟩ : ∃ H, H = s.heap := ⟨_, rfl⟩
  obtain ⟨locs, hLe⟩ : ∃ L : List Loc, L = [] := ⟨_, rfl⟩
  rw [← hHe] at hP
  have hS : va_S A s.heap H locs := by rw [hHe, hLe]; exact hS
  show W p l e rm_X2_empty s m ([.ref a_t] : List Value).toArray below meth c s.heap [] 0 0 _ _
  suffices hgo : W p l e rm_X2_empty s m ([.ref a_t] : List Value).toArray below meth c H locs 0 0 (MQ below (QcI G A (wd_X2_empty cs a_t a_t_of a_t_said R0.2) R0.1) ([.ref a_t] : List Value).toArray s 0 0 A) (F0 m 0 ls []) by rw [hHe, hLe] at hgo; exact hgo
  refine lv_aload_n hx hb dX2_empty_0 rfl (lv_at hl 0 rfl) ?_
  refine va_get (D := G) (ci := 2) (v := .int v_t_size) (C := RX2) (T := TX2) (N := 3) hx hb hg inX2 hown hKT hP 0 rfl rfl 2 (by decide) (hg _ gF_X2_18) (fun _ h9 => h9) rfl dX2_empty_1 ?_
  refine lv_istore_n (lv' := [(1, .int v_t_size), (0, .ref a_t)]) hx hb dX2_empty_4 rfl hl (by decide) rfl (fun ls hl => ?_)
  refine lv_aload_n hx hb dX2_empty_5 rfl (lv_at hl 1 rfl) ?_
  refine lv_iconst (v := 0) hx hb dX2_empty_6 (by decide) ?_
  refine va_put (D := G) (ci := 2) (v := .int (0 : Int32)) (ty := .int) (C := RX2) (T := TX2) (N := 3) hx hb hg inX2 tyX2 tyX2_ok nmX2 hown hKT hP hD hS 0 rfl rfl 2 (by decide) (hg _ gF_X2_18) (fun _ h9 => h9) rfl (by decide +kernel) rfl rfl (Nat.le_of_ble_eq_true rfl) dX2_empty_7 (fun H locs hP hD hS => ?_)
  have hP : va_P G vwCl (wd_X2_empty cs a_t a_t_of a_t_said (0 : Int32)) H := hP
  have hD : va_D A (wd_X2_empty cs a_t a_t_of a_t_said (0 : Int32)) := hD
  refine lv_iload_n hx hb dX2_empty_10 rfl (lv_at hl 0 rfl) ?_
  have hK := leafK hB hK
  have hK : (v_t_size, (0 : Int32)) = R0 := hK
  subst hK
  exact W.iret (v := v_t_size) hx hb hr (fun t ht hW => ⟨⟨_, (), rfl, rfl, by rw [ht]; exact hP, hD⟩, hS.F ht⟩) hS.2.2 dX2_empty_11
def wd_X2_fits (cs : Nat → ClassId) (a_t a_t_of a_t_said : Nat) (v_t_size : Int32) (g_t_of : Nat → Int32) (g_t_said : Nat → Int32) : va_W := [(a_t, .inr (2, [.ref a_t_of, .ref a_t_said, .int v_t_size])), (a_t_of, .inl (cs 0, 6, .inl g_t_of)), (a_t_said, .inl (cs 0, 6, .inl g_t_said))]
def rm_X2_fits : Room := { frames := 1, cells := 0, slots := 0, locals := 23 }
theorem mI_X2_fits : MI yX2_fits RX2 cX2_fits 5 (some .boolean) 3 := ⟨gI_X2_fits, gE_X2_fits, gN_X2, gC_X2_fits, by decide +kernel⟩
set_option maxHeartbeats 4000000 in
set_option maxRecDepth 100000 in
theorem k_X2_fits (l : Launch) (G : va_G) (cs : Nat → ClassId) (a_t a_t_of a_t_said : Nat) (v_t_size : Int32) (g_t_of : Nat → Int32) (g_t_said : Nat → Int32) (p1 p2 p3 : Int32) (R0 : Int32) (hB : f_X2_fits v_t_size g_t_of g_t_said p1 p2 p3 = some R0) : Met l yX2_fits (.code yX2_fits cX2_fits 5 (some .boolean) :: GW) rm_X2_fits (PcR G cs [.ref a_t, .int p1, .int p2, .int p3] (wd_X2_fits cs a_t a_t_of a_t_said v_t_size g_t_of g_t_said)) (vp_Si (fun r => r = R0)) 0 0 (fun _ => False) := by
  refine Met.ofW (cc := cX2_fits) (maxL := 5) (ret := (some .boolean)) (by decide) rfl ?_
  intro p e s m args below meth c s₁ B hml hv
  obtain ⟨rfl, hP, hK, hN⟩ := hv
  have hx := B.exec
  have hb := B.bytes
  have hr := B.returns
  have hts := atoms_spec (ws := .code yX2_fits cX2_fits 5 (some .boolean) :: GW) B.pre
  have hg : ∀ w ∈ GW, w.before _ s = true := fun w h => hts w (List.mem_cons_of_mem _ h)
  have hown : s.vm.findClass RX2 = some m.cls := findClass_of_methodNamed B.named
  have hlocks := B.notSynchronized
  have hl := lv_entry ([.ref a_t, .int p1, .int p2, .int p3]) (n := 5) (Nat.le_of_ble_eq_true rfl)
  rw [lg_entry_eq]
  generalize (lg_sl ([.ref a_t, .int p1, .int p2, .int p3]) ++ List.replicate (5 - (lg_sl ([.ref a_t, .int p1, .int p2, .int p3])).length) Slot.unset).toArray = ls at hl ⊢
  have hl : lv_has ls 5 [(0, .ref a_t), (1, .int p1), (2, .int p2), (3, .int p3)] := hl
  obtain ⟨y, hB, hK0⟩ : ∃ y, f_X2_fits v_t_size g_t_of g_t_said p1 p2 p3 = some y ∧ KEnd R0 y := ⟨R0, hB, rfl⟩
  have hKT := hK
  have hK := hK0
  show W p l e rm_X2_fits s m ([.ref a_t, .int p1, .int p2, .int p3] : List Value).toArray below meth c s.heap [] 0 0 (MQ below (vp_Si (fun r => r = R0)) ([.ref a_t, .int p1, .int p2, .int p3] : List Value).toArray s 0 0 (fun _ => False)) (F0 m 0 ls [])
  refine lv_iconst (v := 0) hx hb dX2_fits_0 (by decide) ?_
  refine lv_istore (lv' := [(4, .int (0 : Int32)), (0, .ref a_t), (1, .int p1), (2, .int p2), (3, .int p3)]) hx hb dX2_fits_1 hl (by decide) rfl (fun ls hl => ?_)
  refine lp_ind (Wh := fun (z1 : Int32) => ∀ (ls : Array Slot), lv_has ls 5 [(0, .ref a_t), (1, .int p1), (2, .int p2), (3, .int p3), (4, .int z1)] → W p l e rm_X2_fits s m ([.ref a_t, .int p1, .int p2, .int p3] : List Value).toArray below meth c s.heap [] 0 0 (MQ below (vp_Si (fun r => r = R0)) ([.ref a_t, .int p1, .int p2, .int p3] : List Value).toArray s 0 0 (fun _ => False)) (F0 m 3 ls [])) ?_ FU _ _ hB hK ls (lv_sub hl [1, 2, 3, 4, 0] rfl)
  rintro z1 y hB hK ls hl
  have hl : lv_has ls 5 [(0, .ref a_t), (1, .int p1), (2, .int p2), (3, .int p3), (4, .int z1)] := hl
  refine lv_iload hx hb dX2_fits_3 (lv_at hl 4 rfl) ?_
  refine lv_aload_n hx hb dX2_fits_5 rfl (lv_at hl 0 rfl) ?_
  refine va_get (D := G) (ci := 2) (v := .int v_t_size) (C := RX2) (T := TX2) (N := 3) hx hb hg inX2 hown hKT hP 0 rfl rfl 2 (by decide) (hg _ gF_X2_18) (fun _ h9 => h9) rfl dX2_fits_6 ?_
  refine lv_icmp_ge (tgt := 50) hx hb dX2_fits_9 (by decide) (fun c_2 => ?_) (fun c_2 => ?_)
  · have hB := ifP c_2 hB
    refine lv_iconst (v := 1) hx hb dX2_fits_50 (by decide) ?_
    have hK := leafK hB hK
    have hK := elimR hK
    have hK : (1 : Int32) = R0 := hK
    subst hK
    exact W.zret (v := (1 : Int32)) (ty := .boolean) hx hb hr rfl (fun t ht hW => ⟨_, rfl, rfl, ht⟩) (fun _ h => by cases h) dX2_fits_51
  · have hB := ifN c_2 hB
    refine lv_iload hx hb dX2_fits_12 (lv_at hl 4 rfl) ?_
    refine lv_bipush (v := 6) hx hb dX2_fits_14 (by decide) ?_
    refine lv_icmp_ge (tgt := 50) hx hb dX2_fits_16 (by decide) (fun c_3 => ?_) (fun c_3 => ?_)
    · have hB := ifP c_3 hB
      refine lv_iconst (v := 1) hx hb dX2_fits_50 (by decide) ?_
      have hK := leafK hB hK
      have hK := elimR hK
      have hK : (1 : Int32) = R0 := hK
      subst hK
      exact W.zret (v := (1 : Int32)) (ty := .boolean) hx hb hr rfl (fun t ht hW => ⟨_, rfl, rfl, ht⟩) (fun _ h => by cases h) dX2_fits_51
    · have hB := ifN c_3 hB
      refine lv_iload_n hx hb dX2_fits_19 rfl (lv_at hl 1 rfl) ?_
      refine lv_iload_n hx hb dX2_fits_20 rfl (lv_at hl 2 rfl) ?_
      refine lv_aload_n hx hb dX2_fits_21 rfl (lv_at hl 0 rfl) ?_
      refine va_get (D := G) (ci := 2) (v := .ref a_t_of) (C := RX2) (T := TX2) (N := 3) hx hb hg inX2 hown hKT hP 0 rfl rfl 0 (by decide) (hg _ gF_X2_11) (fun _ h9 => h9) rfl dX2_fits_22 ?_
      refine lv_iload hx hb dX2_fits_25 (lv_at hl 4 rfl) ?_
      obtain ⟨h_4, hB⟩ := ifS hB
      refine va_iald hx hb hKT hP 1 0 rfl rfl h_4 dX2_fits_27 ?_
      refine lv_iload_n hx hb dX2_fits_28 rfl (lv_at hl 3 rfl) ?_
      obtain ⟨q5, hq5, hB⟩ := bnd hB
      refine kr_SN (WC := wd_X0_said cs ) (As := [.int p1, .int p2, .int (g_t_of z1.toNatClampNeg), .int p3]) (rest := []) (r0 := q5) ⟨hx, hb, hml, hown, hg⟩ (k_X0_said l G cs p1 p2 (g_t_of z1.toNatClampNeg) p3 q5 hq5) nM_X2_22_l mS_X0_said (rmk rfl) hP hKT hN [] rfl rfl hl.1 rfl (Nat.le_of_ble_eq_true rfl) dX2_fits_29 ?_
      refine lv_aload_n hx hb dX2_fits_32 rfl (lv_at hl 0 rfl) ?_
      refine va_get (D := G) (ci := 2) (v := .ref a_t_said) (C := RX2) (T := TX2) (N := 3) hx hb hg inX2 hown hKT hP 0 rfl rfl 1 (by decide) (hg _ gF_X2_15) (fun _ h9 => h9) rfl dX2_fits_33 ?_
      refine lv_iload hx hb dX2_fits_36 (lv_at hl 4 rfl) ?_
      obtain ⟨h_6, hB⟩ := ifS hB
      refine va_iald hx hb hKT hP 2 0 rfl rfl h_6 dX2_fits_38 ?_
      refine lv_icmp_eq (tgt := 44) hx hb dX2_fits_39 (by decide) (fun c_7 => ?_) (fun c_7 => ?_)
      · have hB := ifP c_7 hB
        refine lv_iinc (v := z1 + (1 : Int32)) (lv' := [(4, .int (z1 + (1 : Int32))), (0, .ref a_t), (1, .int p1), (2, .int p2), (3, .int p3)]) hx hb dX2_fits_44 hl (k := 4) rfl (inc_ok (by decide)) (by decide) rfl (fun ls hl => ?_)
        refine lv_goto (tgt := 3) hx hb dX2_fits_47 (by decide) ?_
        have hK := leafK hB hK
        have hK := elimL hK
        exact hK ls (lv_sub hl [1, 2, 3, 4, 0] rfl)
      · have hB := ifN c_7 hB
        refine lv_iconst (v := 0) hx hb dX2_fits_42 (by decide) ?_
        have hK := leafK hB hK
        have hK := elimR hK
        have hK : (0 : Int32) = R0 := hK
        subst hK
        exact W.zret (v := (0 : Int32)) (ty := .boolean) hx hb hr rfl (fun t ht hW => ⟨_, rfl, rfl, ht⟩) (fun _ h => by cases h) dX2_fits_43
def wd_X2_countFits (cs : Nat → ClassId) (a_t a_t_of a_t_said : Nat) (v_t_size : Int32) (g_t_of : Nat → Int32) (g_t_said : Nat → Int32) : va_W := [(a_t, .inr (2, [.ref a_t_of, .ref a_t_said, .int v_t_size])), (a_t_of, .inl (cs 0, 6, .inl g_t_of)), (a_t_said, .inl (cs 0, 6, .inl g_t_said))]
def rm_X2_countFits : Room := { frames := 2, cells := 0, slots := 0, locals := 47 }
theorem mI_X2_countFits : MI yX2_countFits RX2 cX2_countFits 5 (some .int) 1 := ⟨gI_X2_countFits, gE_X2_countFits, gN_X2, gC_X2_countFits, by decide +kernel⟩
set_option maxHeartbeats 4000000 in
set_option maxRecDepth 100000 in
theorem k_X2_countFits (l : Launch) (G : va_G) (cs : Nat → ClassId) (a_t a_t_of a_t_said : Nat) (v_t_size : Int32) (g_t_of : Nat → Int32) (g_t_said : Nat → Int32) (p1 : Int32) (R0 : Int32) (hB : f_X2_countFits v_t_size g_t_of g_t_said p1 = some R0) : Met l yX2_countFits (.code yX2_countFits cX2_countFits 5 (some .int) :: GW) rm_X2_countFits (PcR G cs [.ref a_t, .int p1] (wd_X2_countFits cs a_t a_t_of a_t_said v_t_size g_t_of g_t_said)) (vp_Si (fun r => r = R0)) 0 0 (fun _ => False) := by
  refine Met.ofW (cc := cX2_countFits) (maxL := 5) (ret := (some .int)) (by decide) rfl ?_
  intro p e s m args below meth c s₁ B hml hv
  obtain ⟨rfl, hP, hK, hN⟩ := hv
  have hx := B.exec
  have hb := B.bytes
  have hr := B.returns
  have hts := atoms_spec (ws := .code yX2_countFits cX2_countFits 5 (some .int) :: GW) B.pre
  have hg : ∀ w ∈ GW, w.before _ s = true := fun w h => hts w (List.mem_cons_of_mem _ h)
  have hown : s.vm.findClass RX2 = some m.cls := findClass_of_methodNamed B.named
  have hlocks := B.notSynchronized
  have hl := lv_entry ([.ref a_t, .int p1]) (n := 5) (Nat.le_of_ble_eq_true rfl)
  rw [lg_entry_eq]
  generalize (lg_sl ([.ref a_t, .int p1]) ++ List.replicate (5 - (lg_sl ([.ref a_t, .int p1])).length) Slot.unset).toArray = ls at hl ⊢
  have hl : lv_has ls 5 [(0, .ref a_t), (1, .int p1)] := hl
  obtain ⟨y, hB, hK0⟩ : ∃ y, f_X2_countFits v_t_size g_t_of g_t_said p1 = some y ∧ KEnd R0 y := ⟨R0, hB, rfl⟩
  have hKT := hK
  have hK := hK0
  show W p l e rm_X2_countFits s m ([.ref a_t, .int p1] : List Value).toArray below meth c s.heap [] 0 0 (MQ below (vp_Si (fun r => r = R0)) ([.ref a_t, .int p1] : List Value).toArray s 0 0 (fun _ => False)) (F0 m 0 ls [])
  refine lv_iconst (v := 0) hx hb dX2_countFits_0 (by decide) ?_
  refine lv_istore_n (lv' := [(2, .int (0 : Int32)), (0, .ref a_t), (1, .int p1)]) hx hb dX2_countFits_1 rfl hl (by decide) rfl (fun ls hl => ?_)
  refine lv_iconst (v := 0) hx hb dX2_countFits_2 (by decide) ?_
  refine lv_istore_n (lv' := [(3, .int (0 : Int32)), (2, .int (0 : Int32)), (0, .ref a_t), (1, .int p1)]) hx hb dX2_countFits_3 rfl hl (by decide) rfl (fun ls hl => ?_)
  refine lp_ind (Wh := fun (z1 : Int32 × Int32) => ∀ (ls : Array Slot), lv_has ls 5 [(0, .ref a_t), (1, .int p1), (2, .int z1.1), (3, .int z1.2)] → W p l e rm_X2_countFits s m ([.ref a_t, .int p1] : List Value).toArray below meth c s.heap [] 0 0 (MQ below (vp_Si (fun r => r = R0)) ([.ref a_t, .int p1] : List Value).toArray s 0 0 (fun _ => False)) (F0 m 4 ls [])) ?_ FU _ _ hB hK ls (lv_sub hl [2, 3, 1, 0] rfl)
  rintro ⟨z1_0, z1_1⟩ y hB hK ls hl
  have hl : lv_has ls 5 [(0, .ref a_t), (1, .int p1), (2, .int z1_0), (3, .int z1_1)] := hl
  refine lv_iload_n hx hb dX2_countFits_4 rfl (lv_at hl 3 rfl) ?_
  refine lv_iload_n hx hb dX2_countFits_5 rfl (lv_at hl 1 rfl) ?_
  refine lv_icmp_ge (tgt := 44) hx hb dX2_countFits_6 (by decide) (fun c_2 => ?_) (fun c_2 => ?_)
  · have hB := ifP c_2 hB
    refine lv_iload_n hx hb dX2_countFits_44 rfl (lv_at hl 2 rfl) ?_
    have hK := leafK hB hK
    have hK := elimR hK
    have hK : z1_0 = R0 := hK
    subst hK
    exact W.iret (v := z1_0) hx hb hr (fun t ht hW => ⟨_, rfl, rfl, ht⟩) (fun _ h => by cases h) dX2_countFits_45
  · have hB := ifN c_2 hB
    refine lv_iconst (v := 0) hx hb dX2_countFits_9 (by decide) ?_
    refine lv_istore (lv' := [(4, .int (0 : Int32)), (0, .ref a_t), (1, .int p1), (2, .int z1_0), (3, .int z1_1)]) hx hb dX2_countFits_10 hl (by decide) rfl (fun ls hl => ?_)
    refine lp_ind (Wh := fun (z3 : Int32 × Int32) => ∀ (ls : Array Slot), lv_has ls 5 [(0, .ref a_t), (1, .int p1), (2, .int z3.1), (3, .int z1_1), (4, .int z3.2)] → W p l e rm_X2_countFits s m ([.ref a_t, .int p1] : List Value).toArray below meth c s.heap [] 0 0 (MQ below (vp_Si (fun r => r = R0)) ([.ref a_t, .int p1] : List Value).toArray s 0 0 (fun _ => False)) (F0 m 12 ls [])) ?_ FU _ _ hB hK ls (lv_sub hl [1, 2, 3, 4, 0] rfl)
    rintro ⟨z3_0, z3_1⟩ y hB hK ls hl
    have hl : lv_has ls 5 [(0, .ref a_t), (1, .int p1), (2, .int z3_0), (3, .int z1_1), (4, .int z3_1)] := hl
    refine lv_iload hx hb dX2_countFits_12 (lv_at hl 4 rfl) ?_
    refine lv_iload_n hx hb dX2_countFits_14 rfl (lv_at hl 1 rfl) ?_
    refine lv_icmp_ge (tgt := 38) hx hb dX2_countFits_15 (by decide) (fun c_4 => ?_) (fun c_4 => ?_)
    · have hB := ifP c_4 hB
      refine lv_iinc (v := z1_1 + (1 : Int32)) (lv' := [(3, .int (z1_1 + (1 : Int32))), (0, .ref a_t), (1, .int p1), (2, .int z3_0), (4, .int z3_1)]) hx hb dX2_countFits_38 hl (k := 3) rfl (inc_ok (by decide)) (by decide) rfl (fun ls hl => ?_)
      refine lv_goto (tgt := 4) hx hb dX2_countFits_41 (by decide) ?_
      have hK := leafK hB hK
      have hK := elimR hK
      have hK := elimL hK
      exact hK ls (lv_sub hl [1, 2, 3, 0] rfl)
    · have hB := ifN c_4 hB
      refine lv_aload_n hx hb dX2_countFits_18 rfl (lv_at hl 0 rfl) ?_
      refine lv_iload_n hx hb dX2_countFits_19 rfl (lv_at hl 3 rfl) ?_
      refine lv_iload hx hb dX2_countFits_20 (lv_at hl 4 rfl) ?_
      refine lv_iload_n hx hb dX2_countFits_22 rfl (lv_at hl 1 rfl) ?_
      obtain ⟨q5, hq5, hB⟩ := bnd hB
      refine kr_V (WC := wd_X2_fits cs a_t a_t_of a_t_said v_t_size g_t_of g_t_said) (As := [.int z1_1, .int z3_1, .int p1]) (rest := []) (r0 := q5) ⟨hx, hb, hml, hown, hg⟩ (k_X2_fits l G cs a_t a_t_of a_t_said v_t_size g_t_of g_t_said z1_1 z3_1 p1 q5 hq5) gM_X2_27 mI_X2_fits (rmk rfl) hP hKT hN 0 rfl rfl [0, 1, 2] rfl rfl hl.1 rfl (Nat.le_of_ble_eq_true rfl) dX2_countFits_23 ?_
      refine lv_if_eq (tgt := 32) hx hb dX2_countFits_26 (by decide) (fun c_6 => ?_) (fun c_6 => ?_)
      · have hB := ifP c_6 hB
        refine lv_iinc (v := z3_1 + (1 : Int32)) (lv' := [(4, .int (z3_1 + (1 : Int32))), (0, .ref a_t), (1, .int p1), (2, .int z3_0), (3, .int z1_1)]) hx hb dX2_countFits_32 hl (k := 4) rfl (inc_ok (by decide)) (by decide) rfl (fun ls hl => ?_)
        refine lv_goto (tgt := 12) hx hb dX2_countFits_35 (by decide) ?_
        have hK := leafK hB hK
        have hK := elimL hK
        exact hK ls (lv_sub hl [1, 2, 3, 4, 0] rfl)
      · have hB := ifN c_6 hB
        refine lv_iinc (v := z3_0 + (1 : Int32)) (lv' := [(2, .int (z3_0 + (1 : Int32))), (0, .ref a_t), (1, .int p1), (3, .int z1_1), (4, .int z3_1)]) hx hb dX2_countFits_29 hl (k := 2) rfl (inc_ok (by decide)) (by decide) rfl (fun ls hl => ?_)
        refine lv_iinc (v := z3_1 + (1 : Int32)) (lv' := [(4, .int (z3_1 + (1 : Int32))), (2, .int (z3_0 + (1 : Int32))), (0, .ref a_t), (1, .int p1), (3, .int z1_1)]) hx hb dX2_countFits_32 hl (k := 4) rfl (inc_ok (by decide)) (by decide) rfl (fun ls hl => ?_)
        refine lv_goto (tgt := 12) hx hb dX2_countFits_35 (by decide) ?_
        have hK := leafK hB hK
        have hK := elimL hK
        exact hK ls (lv_sub hl [2, 3, 1, 4, 0] rfl)
def wd_X2_firstFit (cs : Nat → ClassId) (a_t a_t_of a_t_said : Nat) (v_t_size : Int32) (g_t_of : Nat → Int32) (g_t_said : Nat → Int32) : va_W := [(a_t, .inr (2, [.ref a_t_of, .ref a_t_said, .int v_t_size])), (a_t_of, .inl (cs 0, 6, .inl g_t_of)), (a_t_said, .inl (cs 0, 6, .inl g_t_said))]
def rm_X2_firstFit : Room := { frames := 2, cells := 0, slots := 0, locals := 47 }
theorem mI_X2_firstFit : MI yX2_firstFit RX2 cX2_firstFit 4 (some .int) 1 := ⟨gI_X2_firstFit, gE_X2_firstFit, gN_X2, gC_X2_firstFit, by decide +kernel⟩
set_option maxHeartbeats 4000000 in
set_option maxRecDepth 100000 in
theorem k_X2_firstFit (l : Launch) (G : va_G) (cs : Nat → ClassId) (a_t a_t_of a_t_said : Nat) (v_t_size : Int32) (g_t_of : Nat → Int32) (g_t_said : Nat → Int32) (p1 : Int32) (R0 : Int32) (hB : f_X2_firstFit v_t_size g_t_of g_t_said p1 = some R0) : Met l yX2_firstFit (.code yX2_firstFit cX2_firstFit 4 (some .int) :: GW) rm_X2_firstFit (PcR G cs [.ref a_t, .int p1] (wd_X2_firstFit cs a_t a_t_of a_t_said v_t_size g_t_of g_t_said)) (vp_Si (fun r => r = R0)) 0 0 (fun _ => False) := by
  refine Met.ofW (cc := cX2_firstFit) (maxL := 4) (ret := (some .int)) (by decide) rfl ?_
  intro p e s m args below meth c s₁ B hml hv
  obtain ⟨rfl, hP, hK, hN⟩ := hv
  have hx := B.exec
  have hb := B.bytes
  have hr := B.returns
  have hts := atoms_spec (ws := .code yX2_firstFit cX2_firstFit 4 (some .int) :: GW) B.pre
  have hg : ∀ w ∈ GW, w.before _ s = true := fun w h => hts w (List.mem_cons_of_mem _ h)
  have hown : s.vm.findClass RX2 = some m.cls := findClass_of_methodNamed B.named
  have hlocks := B.notSynchronized
  have hl := lv_entry ([.ref a_t, .int p1]) (n := 4) (Nat.le_of_ble_eq_true rfl)
  rw [lg_entry_eq]
  generalize (lg_sl ([.ref a_t, .int p1]) ++ List.replicate (4 - (lg_sl ([.ref a_t, .int p1])).length) Slot.unset).toArray = ls at hl ⊢
  have hl : lv_has ls 4 [(0, .ref a_t), (1, .int p1)] := hl
  obtain ⟨y, hB, hK0⟩ : ∃ y, f_X2_firstFit v_t_size g_t_of g_t_said p1 = some y ∧ KEnd R0 y := ⟨R0, hB, rfl⟩
  have hKT := hK
  have hK := hK0
  show W p l e rm_X2_firstFit s m ([.ref a_t, .int p1] : List Value).toArray below meth c s.heap [] 0 0 (MQ below (vp_Si (fun r => r = R0)) ([.ref a_t, .int p1] : List Value).toArray s 0 0 (fun _ => False)) (F0 m 0 ls [])
  refine lv_iconst (v := 0) hx hb dX2_firstFit_0 (by decide) ?_
  refine lv_istore_n (lv' := [(2, .int (0 : Int32)), (0, .ref a_t), (1, .int p1)]) hx hb dX2_firstFit_1 rfl hl (by decide) rfl (fun ls hl => ?_)
  refine lp_ind (Wh := fun (z1 : Int32) => ∀ (ls : Array Slot), lv_has ls 4 [(0, .ref a_t), (1, .int p1), (2, .int z1)] → W p l e rm_X2_firstFit s m ([.ref a_t, .int p1] : List Value).toArray below meth c s.heap [] 0 0 (MQ below (vp_Si (fun r => r = R0)) ([.ref a_t, .int p1] : List Value).toArray s 0 0 (fun _ => False)) (F0 m 2 ls [])) ?_ FU _ _ hB hK ls (lv_sub hl [1, 2, 0] rfl)
  rintro z1 y hB hK ls hl
  have hl : lv_has ls 4 [(0, .ref a_t), (1, .int p1), (2, .int z1)] := hl
  refine lv_iload_n hx hb dX2_firstFit_2 rfl (lv_at hl 2 rfl) ?_
  refine lv_iload_n hx hb dX2_firstFit_3 rfl (lv_at hl 1 rfl) ?_
  refine lv_icmp_ge (tgt := 43) hx hb dX2_firstFit_4 (by decide) (fun c_2 => ?_) (fun c_2 => ?_)
  · have hB := ifP c_2 hB
    refine lv_bipush (v := -9) hx hb dX2_firstFit_43 (by decide) ?_
    have hK := leafK hB hK
    have hK := elimR hK
    have hK : (-9 : Int32) = R0 := hK
    subst hK
    exact W.iret (v := (-9 : Int32)) hx hb hr (fun t ht hW => ⟨_, rfl, rfl, ht⟩) (fun _ h => by cases h) dX2_firstFit_45
  · have hB := ifN c_2 hB
    refine lv_iconst (v := 0) hx hb dX2_firstFit_7 (by decide) ?_
    refine lv_istore_n (lv' := [(3, .int (0 : Int32)), (0, .ref a_t), (1, .int p1), (2, .int z1)]) hx hb dX2_firstFit_8 rfl hl (by decide) rfl (fun ls hl => ?_)
    refine lp_ind (Wh := fun (z3 : Int32) => ∀ (ls : Array Slot), lv_has ls 4 [(0, .ref a_t), (1, .int p1), (2, .int z1), (3, .int z3)] → W p l e rm_X2_firstFit s m ([.ref a_t, .int p1] : List Value).toArray below meth c s.heap [] 0 0 (MQ below (vp_Si (fun r => r = R0)) ([.ref a_t, .int p1] : List Value).toArray s 0 0 (fun _ => False)) (F0 m 9 ls [])) ?_ FU _ _ hB hK ls (lv_sub hl [1, 2, 3, 0] rfl)
    rintro z3 y hB hK ls hl
    have hl : lv_has ls 4 [(0, .ref a_t), (1, .int p1), (2, .int z1), (3, .int z3)] := hl
    refine lv_iload_n hx hb dX2_firstFit_9 rfl (lv_at hl 3 rfl) ?_
    refine lv_iload_n hx hb dX2_firstFit_10 rfl (lv_at hl 1 rfl) ?_
    refine lv_icmp_ge (tgt := 37) hx hb dX2_firstFit_11 (by decide) (fun c_4 => ?_) (fun c_4 => ?_)
    · have hB := ifP c_4 hB
      refine lv_iinc (v := z1 + (1 : Int32)) (lv' := [(2, .int (z1 + (1 : Int32))), (0, .ref a_t), (1, .int p1), (3, .int z3)]) hx hb dX2_firstFit_37 hl (k := 2) rfl (inc_ok (by decide)) (by decide) rfl (fun ls hl => ?_)
      refine lv_goto (tgt := 2) hx hb dX2_firstFit_40 (by decide) ?_
      have hK := leafK hB hK
      have hK := elimR hK
      have hK := elimL hK
      exact hK ls (lv_sub hl [1, 2, 0] rfl)
    · have hB := ifN c_4 hB
      refine lv_aload_n hx hb dX2_firstFit_14 rfl (lv_at hl 0 rfl) ?_
      refine lv_iload_n hx hb dX2_firstFit_15 rfl (lv_at hl 2 rfl) ?_
      refine lv_iload_n hx hb dX2_firstFit_16 rfl (lv_at hl 3 rfl) ?_
      refine lv_iload_n hx hb dX2_firstFit_17 rfl (lv_at hl 1 rfl) ?_
      obtain ⟨q5, hq5, hB⟩ := bnd hB
      refine kr_V (WC := wd_X2_fits cs a_t a_t_of a_t_said v_t_size g_t_of g_t_said) (As := [.int z1, .int z3, .int p1]) (rest := []) (r0 := q5) ⟨hx, hb, hml, hown, hg⟩ (k_X2_fits l G cs a_t a_t_of a_t_said v_t_size g_t_of g_t_said z1 z3 p1 q5 hq5) gM_X2_27 mI_X2_fits (rmk rfl) hP hKT hN 0 rfl rfl [0, 1, 2] rfl rfl hl.1 rfl (Nat.le_of_ble_eq_true rfl) dX2_firstFit_18 ?_
      refine lv_if_eq (tgt := 31) hx hb dX2_firstFit_21 (by decide) (fun c_6 => ?_) (fun c_6 => ?_)
      · have hB := ifP c_6 hB
        refine lv_iinc (v := z3 + (1 : Int32)) (lv' := [(3, .int (z3 + (1 : Int32))), (0, .ref a_t), (1, .int p1), (2, .int z1)]) hx hb dX2_firstFit_31 hl (k := 3) rfl (inc_ok (by decide)) (by decide) rfl (fun ls hl => ?_)
        refine lv_goto (tgt := 9) hx hb dX2_firstFit_34 (by decide) ?_
        have hK := leafK hB hK
        have hK := elimL hK
        exact hK ls (lv_sub hl [1, 2, 3, 0] rfl)
      · have hB := ifN c_6 hB
        refine lv_bipush (v := 10) hx hb dX2_firstFit_24 (by decide) ?_
        refine lv_iload_n hx hb dX2_firstFit_26 rfl (lv_at hl 2 rfl) ?_
        refine lv_imul hx hb dX2_firstFit_27 ?_
        refine lv_iload_n hx hb dX2_firstFit_28 rfl (lv_at hl 3 rfl) ?_
        refine lv_iadd hx hb dX2_firstFit_29 ?_
        have hK := leafK hB hK
        have hK := elimR hK
        have hK := elimR hK
        have hK : (((10 : Int32) * z1) + z3) = R0 := hK
        subst hK
        exact W.iret (v := ((10 : Int32) * z1) + z3) hx hb hr (fun t ht hW => ⟨_, rfl, rfl, ht⟩) (fun _ h => by cases h) dX2_firstFit_30
def wd_X2_answersTo (cs : Nat → ClassId) (a_t a_t_of a_t_said : Nat) (v_t_size : Int32) (g_t_of : Nat → Int32) (g_t_said : Nat → Int32) : va_W := [(a_t, .inr (2, [.ref a_t_of, .ref a_t_said, .int v_t_size])), (a_t_of, .inl (cs 0, 6, .inl g_t_of)), (a_t_said, .inl (cs 0, 6, .inl g_t_said))]
def rm_X2_answersTo : Room := { frames := 2, cells := 0, slots := 0, locals := 47 }
theorem mI_X2_answersTo : MI yX2_answersTo RX2 cX2_answersTo 6 (some .int) 2 := ⟨gI_X2_answersTo, gE_X2_answersTo, gN_X2, gC_X2_answersTo, by decide +kernel⟩
set_option maxHeartbeats 4000000 in
set_option maxRecDepth 100000 in
theorem k_X2_answersTo (l : Launch) (G : va_G) (cs : Nat → ClassId) (a_t a_t_of a_t_said : Nat) (v_t_size : Int32) (g_t_of : Nat → Int32) (g_t_said : Nat → Int32) (p1 p2 : Int32) (R0 : Int32) (hB : f_X2_answersTo v_t_size g_t_of g_t_said p1 p2 = some R0) : Met l yX2_answersTo (.code yX2_answersTo cX2_answersTo 6 (some .int) :: GW) rm_X2_answersTo (PcR G cs [.ref a_t, .int p1, .int p2] (wd_X2_answersTo cs a_t a_t_of a_t_said v_t_size g_t_of g_t_said)) (vp_Si (fun r => r = R0)) 0 0 (fun _ => False) := by
  refine Met.ofW (cc := cX2_answersTo) (maxL := 6) (ret := (some .int)) (by decide) rfl ?_
  intro p e s m args below meth c s₁ B hml hv
  obtain ⟨rfl, hP, hK, hN⟩ := hv
  have hx := B.exec
  have hb := B.bytes
  have hr := B.returns
  have hts := atoms_spec (ws := .code yX2_answersTo cX2_answersTo 6 (some .int) :: GW) B.pre
  have hg : ∀ w ∈ GW, w.before _ s = true := fun w h => hts w (List.mem_cons_of_mem _ h)
  have hown : s.vm.findClass RX2 = some m.cls := findClass_of_methodNamed B.named
  have hlocks := B.notSynchronized
  have hl := lv_entry ([.ref a_t, .int p1, .int p2]) (n := 6) (Nat.le_of_ble_eq_true rfl)
  rw [lg_entry_eq]
  generalize (lg_sl ([.ref a_t, .int p1, .int p2]) ++ List.replicate (6 - (lg_sl ([.ref a_t, .int p1, .int p2])).length) Slot.unset).toArray = ls at hl ⊢
  have hl : lv_has ls 6 [(0, .ref a_t), (1, .int p1), (2, .int p2)] := hl
  obtain ⟨y, hB, hK0⟩ : ∃ y, f_X2_answersTo v_t_size g_t_of g_t_said p1 p2 = some y ∧ KEnd R0 y := ⟨R0, hB, rfl⟩
  have hKT := hK
  have hK := hK0
  show W p l e rm_X2_answersTo s m ([.ref a_t, .int p1, .int p2] : List Value).toArray below meth c s.heap [] 0 0 (MQ below (vp_Si (fun r => r = R0)) ([.ref a_t, .int p1, .int p2] : List Value).toArray s 0 0 (fun _ => False)) (F0 m 0 ls [])
  refine lv_iconst (v := 0) hx hb dX2_answersTo_0 (by decide) ?_
  refine lv_istore_n (lv' := [(3, .int (0 : Int32)), (0, .ref a_t), (1, .int p1), (2, .int p2)]) hx hb dX2_answersTo_1 rfl hl (by decide) rfl (fun ls hl => ?_)
  refine lv_iconst (v := 0) hx hb dX2_answersTo_2 (by decide) ?_
  refine lv_istore (lv' := [(4, .int (0 : Int32)), (3, .int (0 : Int32)), (0, .ref a_t), (1, .int p1), (2, .int p2)]) hx hb dX2_answersTo_3 hl (by decide) rfl (fun ls hl => ?_)
  refine lp_ind (Wh := fun (z1 : Int32 × Int32) => ∀ (ls : Array Slot), lv_has ls 6 [(0, .ref a_t), (1, .int p1), (2, .int p2), (3, .int z1.1), (4, .int z1.2)] → W p l e rm_X2_answersTo s m ([.ref a_t, .int p1, .int p2] : List Value).toArray below meth c s.heap [] 0 0 (MQ below (vp_Si (fun r => r = R0)) ([.ref a_t, .int p1, .int p2] : List Value).toArray s 0 0 (fun _ => False)) (F0 m 5 ls [])) ?_ FU _ _ hB hK ls (lv_sub hl [2, 3, 4, 1, 0] rfl)
  rintro ⟨z1_0, z1_1⟩ y hB hK ls hl
  have hl : lv_has ls 6 [(0, .ref a_t), (1, .int p1), (2, .int p2), (3, .int z1_0), (4, .int z1_1)] := hl
  refine lv_iload hx hb dX2_answersTo_5 (lv_at hl 4 rfl) ?_
  refine lv_iload_n hx hb dX2_answersTo_7 rfl (lv_at hl 2 rfl) ?_
  refine lv_icmp_ge (tgt := 58) hx hb dX2_answersTo_8 (by decide) (fun c_2 => ?_) (fun c_2 => ?_)
  · have hB := ifP c_2 hB
    refine lv_iload_n hx hb dX2_answersTo_58 rfl (lv_at hl 3 rfl) ?_
    have hK := leafK hB hK
    have hK := elimR hK
    have hK : z1_0 = R0 := hK
    subst hK
    exact W.iret (v := z1_0) hx hb hr (fun t ht hW => ⟨_, rfl, rfl, ht⟩) (fun _ h => by cases h) dX2_answersTo_59
  · have hB := ifN c_2 hB
    refine lv_iconst (v := 0) hx hb dX2_answersTo_11 (by decide) ?_
    refine lv_istore (lv' := [(5, .int (0 : Int32)), (0, .ref a_t), (1, .int p1), (2, .int p2), (3, .int z1_0), (4, .int z1_1)]) hx hb dX2_answersTo_12 hl (by decide) rfl (fun ls hl => ?_)
    refine lp_ind (Wh := fun (z3 : Int32 × Int32) => ∀ (ls : Array Slot), lv_has ls 6 [(0, .ref a_t), (1, .int p1), (2, .int p2), (3, .int z3.1), (4, .int z1_1), (5, .int z3.2)] → W p l e rm_X2_answersTo s m ([.ref a_t, .int p1, .int p2] : List Value).toArray below meth c s.heap [] 0 0 (MQ below (vp_Si (fun r => r = R0)) ([.ref a_t, .int p1, .int p2] : List Value).toArray s 0 0 (fun _ => False)) (F0 m 14 ls [])) ?_ FU _ _ hB hK ls (lv_sub hl [1, 2, 3, 4, 5, 0] rfl)
    rintro ⟨z3_0, z3_1⟩ y hB hK ls hl
    have hl : lv_has ls 6 [(0, .ref a_t), (1, .int p1), (2, .int p2), (3, .int z3_0), (4, .int z1_1), (5, .int z3_1)] := hl
    refine lv_iload hx hb dX2_answersTo_14 (lv_at hl 5 rfl) ?_
    refine lv_iload_n hx hb dX2_answersTo_16 rfl (lv_at hl 2 rfl) ?_
    refine lv_icmp_ge (tgt := 52) hx hb dX2_answersTo_17 (by decide) (fun c_4 => ?_) (fun c_4 => ?_)
    · have hB := ifP c_4 hB
      refine lv_iinc (v := z1_1 + (1 : Int32)) (lv' := [(4, .int (z1_1 + (1 : Int32))), (0, .ref a_t), (1, .int p1), (2, .int p2), (3, .int z3_0), (5, .int z3_1)]) hx hb dX2_answersTo_52 hl (k := 4) rfl (inc_ok (by decide)) (by decide) rfl (fun ls hl => ?_)
      refine lv_goto (tgt := 5) hx hb dX2_answersTo_55 (by decide) ?_
      have hK := leafK hB hK
      have hK := elimR hK
      have hK := elimL hK
      exact hK ls (lv_sub hl [1, 2, 3, 4, 0] rfl)
    · have hB := ifN c_4 hB
      refine lv_aload_n hx hb dX2_answersTo_20 rfl (lv_at hl 0 rfl) ?_
      refine lv_iload hx hb dX2_answersTo_21 (lv_at hl 4 rfl) ?_
      refine lv_iload hx hb dX2_answersTo_23 (lv_at hl 5 rfl) ?_
      refine lv_iload_n hx hb dX2_answersTo_25 rfl (lv_at hl 2 rfl) ?_
      obtain ⟨q5, hq5, hB⟩ := bnd hB
      refine kr_V (WC := wd_X2_fits cs a_t a_t_of a_t_said v_t_size g_t_of g_t_said) (As := [.int z1_1, .int z3_1, .int p2]) (rest := []) (r0 := q5) ⟨hx, hb, hml, hown, hg⟩ (k_X2_fits l G cs a_t a_t_of a_t_said v_t_size g_t_of g_t_said z1_1 z3_1 p2 q5 hq5) gM_X2_27 mI_X2_fits (rmk rfl) hP hKT hN 0 rfl rfl [0, 1, 2] rfl rfl hl.1 rfl (Nat.le_of_ble_eq_true rfl) dX2_answersTo_26 ?_
      refine lv_if_eq (tgt := 46) hx hb dX2_answersTo_29 (by decide) (fun c_6 => ?_) (fun c_6 => ?_)
      · have hB := ifP c_6 hB
        refine lv_iinc (v := z3_1 + (1 : Int32)) (lv' := [(5, .int (z3_1 + (1 : Int32))), (0, .ref a_t), (1, .int p1), (2, .int p2), (3, .int z3_0), (4, .int z1_1)]) hx hb dX2_answersTo_46 hl (k := 5) rfl (inc_ok (by decide)) (by decide) rfl (fun ls hl => ?_)
        refine lv_goto (tgt := 14) hx hb dX2_answersTo_49 (by decide) ?_
        have hK := leafK hB hK
        have hK := elimL hK
        exact hK ls (lv_sub hl [1, 2, 3, 4, 5, 0] rfl)
      · have hB := ifN c_6 hB
        refine lv_iload_n hx hb dX2_answersTo_32 rfl (lv_at hl 3 rfl) ?_
        refine lv_iconst (v := 1) hx hb dX2_answersTo_33 (by decide) ?_
        refine lv_iload hx hb dX2_answersTo_34 (lv_at hl 4 rfl) ?_
        refine lv_iload hx hb dX2_answersTo_36 (lv_at hl 5 rfl) ?_
        refine lv_iload_n hx hb dX2_answersTo_38 rfl (lv_at hl 1 rfl) ?_
        refine lv_iload_n hx hb dX2_answersTo_39 rfl (lv_at hl 2 rfl) ?_
        obtain ⟨q7, hq7, hB⟩ := bnd hB
        refine kr_SN (WC := wd_X0_said cs ) (As := [.int z1_1, .int z3_1, .int p1, .int p2]) (rest := [.int (1 : Int32), .int z3_0]) (r0 := q7) ⟨hx, hb, hml, hown, hg⟩ (k_X0_said l G cs z1_1 z3_1 p1 p2 q7 hq7) nM_X2_22_l mS_X0_said (rmk rfl) hP hKT hN [] rfl rfl hl.1 rfl (Nat.le_of_ble_eq_true rfl) dX2_answersTo_40 ?_
        refine lj_ishl hx hb dX2_answersTo_43 ?_
        refine lv_ior hx hb dX2_answersTo_44 ?_
        refine lv_istore_n (lv' := [(3, .int (z3_0 ||| (jshl (1 : Int32) q7))), (0, .ref a_t), (1, .int p1), (2, .int p2), (4, .int z1_1), (5, .int z3_1)]) hx hb dX2_answersTo_45 rfl hl (by decide) rfl (fun ls hl => ?_)
        refine lv_iinc (v := z3_1 + (1 : Int32)) (lv' := [(5, .int (z3_1 + (1 : Int32))), (3, .int (z3_0 ||| (jshl (1 : Int32) q7))), (0, .ref a_t), (1, .int p1), (2, .int p2), (4, .int z1_1)]) hx hb dX2_answersTo_46 hl (k := 5) rfl (inc_ok (by decide)) (by decide) rfl (fun ls hl => ?_)
        refine lv_goto (tgt := 14) hx hb dX2_answersTo_49 (by decide) ?_
        have hK := leafK hB hK
        have hK := elimL hK
        exact hK ls (lv_sub hl [2, 3, 4, 1, 5, 0] rfl)
def wd_X2_mostTelling (cs : Nat → ClassId) (a_t a_t_of a_t_said : Nat) (v_t_size : Int32) (g_t_of : Nat → Int32) (g_t_said : Nat → Int32) : va_W := [(a_t, .inr (2, [.ref a_t_of, .ref a_t_said, .int v_t_size])), (a_t_of, .inl (cs 0, 6, .inl g_t_of)), (a_t_said, .inl (cs 0, 6, .inl g_t_said))]
def rm_X2_mostTelling : Room := { frames := 3, cells := 0, slots := 0, locals := 72 }
theorem mI_X2_mostTelling : MI yX2_mostTelling RX2 cX2_mostTelling 6 (some .int) 1 := ⟨gI_X2_mostTelling, gE_X2_mostTelling, gN_X2, gC_X2_mostTelling, by decide +kernel⟩
set_option maxHeartbeats 4000000 in
set_option maxRecDepth 100000 in
theorem k_X2_mostTelling (l : Launch) (G : va_G) (cs : Nat → ClassId) (a_t a_t_of a_t_said : Nat) (v_t_size : Int32) (g_t_of : Nat → Int32) (g_t_said : Nat → Int32) (p1 : Int32) (R0 : Int32) (hB : f_X2_mostTelling v_t_size g_t_of g_t_said p1 = some R0) : Met l yX2_mostTelling (.code yX2_mostTelling cX2_mostTelling 6 (some .int) :: GW) rm_X2_mostTelling (PcR G cs [.ref a_t, .int p1] (wd_X2_mostTelling cs a_t a_t_of a_t_said v_t_size g_t_of g_t_said)) (vp_Si (fun r => r = R0)) 0 0 (fun _ => False) := by
  refine Met.ofW (cc := cX2_mostTelling) (maxL := 6) (ret := (some .int)) (by decide) rfl ?_
  intro p e s m args below meth c s₁ B hml hv
  obtain ⟨rfl, hP, hK, hN⟩ := hv
  have hx := B.exec
  have hb := B.bytes
  have hr := B.returns
  have hts := atoms_spec (ws := .code yX2_mostTelling cX2_mostTelling 6 (some .int) :: GW) B.pre
  have hg : ∀ w ∈ GW, w.before _ s = true := fun w h => hts w (List.mem_cons_of_mem _ h)
  have hown : s.vm.findClass RX2 = some m.cls := findClass_of_methodNamed B.named
  have hlocks := B.notSynchronized
  have hl := lv_entry ([.ref a_t, .int p1]) (n := 6) (Nat.le_of_ble_eq_true rfl)
  rw [lg_entry_eq]
  generalize (lg_sl ([.ref a_t, .int p1]) ++ List.replicate (6 - (lg_sl ([.ref a_t, .int p1])).length) Slot.unset).toArray = ls at hl ⊢
  have hl : lv_has ls 6 [(0, .ref a_t), (1, .int p1)] := hl
  obtain ⟨y, hB, hK0⟩ : ∃ y, f_X2_mostTelling v_t_size g_t_of g_t_said p1 = some y ∧ KEnd R0 y := ⟨R0, hB, rfl⟩
  have hKT := hK
  have hK := hK0
  show W p l e rm_X2_mostTelling s m ([.ref a_t, .int p1] : List Value).toArray below meth c s.heap [] 0 0 (MQ below (vp_Si (fun r => r = R0)) ([.ref a_t, .int p1] : List Value).toArray s 0 0 (fun _ => False)) (F0 m 0 ls [])
  refine lv_bipush (v := -9) hx hb dX2_mostTelling_0 (by decide) ?_
  refine lv_istore_n (lv' := [(2, .int (-9 : Int32)), (0, .ref a_t), (1, .int p1)]) hx hb dX2_mostTelling_2 rfl hl (by decide) rfl (fun ls hl => ?_)
  refine lv_iconst (v := 0) hx hb dX2_mostTelling_3 (by decide) ?_
  refine lv_istore_n (lv' := [(3, .int (0 : Int32)), (2, .int (-9 : Int32)), (0, .ref a_t), (1, .int p1)]) hx hb dX2_mostTelling_4 rfl hl (by decide) rfl (fun ls hl => ?_)
  refine lv_iconst (v := 0) hx hb dX2_mostTelling_5 (by decide) ?_
  refine lv_istore (lv' := [(4, .int (0 : Int32)), (3, .int (0 : Int32)), (2, .int (-9 : Int32)), (0, .ref a_t), (1, .int p1)]) hx hb dX2_mostTelling_6 hl (by decide) rfl (fun ls hl => ?_)
  refine lp_ind (Wh := fun (z1 : Int32 × Int32 × Int32) => ∀ (ls : Array Slot), lv_has ls 6 [(0, .ref a_t), (1, .int p1), (2, .int z1.1), (3, .int z1.2.1), (4, .int z1.2.2)] → W p l e rm_X2_mostTelling s m ([.ref a_t, .int p1] : List Value).toArray below meth c s.heap [] 0 0 (MQ below (vp_Si (fun r => r = R0)) ([.ref a_t, .int p1] : List Value).toArray s 0 0 (fun _ => False)) (F0 m 8 ls [])) ?_ FU _ _ hB hK ls (lv_sub hl [3, 4, 2, 1, 0] rfl)
  rintro ⟨z1_0, z1_1, z1_2⟩ y hB hK ls hl
  have hl : lv_has ls 6 [(0, .ref a_t), (1, .int p1), (2, .int z1_0), (3, .int z1_1), (4, .int z1_2)] := hl
  refine lv_iload hx hb dX2_mostTelling_8 (lv_at hl 4 rfl) ?_
  refine lv_iload_n hx hb dX2_mostTelling_10 rfl (lv_at hl 1 rfl) ?_
  refine lv_icmp_ge (tgt := 44) hx hb dX2_mostTelling_11 (by decide) (fun c_2 => ?_) (fun c_2 => ?_)
  · have hB := ifP c_2 hB
    refine lv_iload_n hx hb dX2_mostTelling_44 rfl (lv_at hl 2 rfl) ?_
    have hK := leafK hB hK
    have hK := elimR hK
    have hK : z1_0 = R0 := hK
    subst hK
    exact W.iret (v := z1_0) hx hb hr (fun t ht hW => ⟨_, rfl, rfl, ht⟩) (fun _ h => by cases h) dX2_mostTelling_45
  · have hB := ifN c_2 hB
    refine lv_aload_n hx hb dX2_mostTelling_14 rfl (lv_at hl 0 rfl) ?_
    refine lv_iload hx hb dX2_mostTelling_15 (lv_at hl 4 rfl) ?_
    refine lv_iload_n hx hb dX2_mostTelling_17 rfl (lv_at hl 1 rfl) ?_
    obtain ⟨q3, hq3, hB⟩ := bnd hB
    refine kr_V (WC := wd_X2_answersTo cs a_t a_t_of a_t_said v_t_size g_t_of g_t_said) (As := [.int z1_2, .int p1]) (rest := []) (r0 := q3) ⟨hx, hb, hml, hown, hg⟩ (k_X2_answersTo l G cs a_t a_t_of a_t_said v_t_size g_t_of g_t_said z1_2 p1 q3 hq3) gM_X2_31 mI_X2_answersTo (rmk rfl) hP hKT hN 0 rfl rfl [0, 1, 2] rfl rfl hl.1 rfl (Nat.le_of_ble_eq_true rfl) dX2_mostTelling_18 ?_
    obtain ⟨q4, hq4, hB⟩ := bnd hB
    refine kr_S (WC := wd_J6_bitCount_0f7a4 cs ) (As := [.int q3]) (rest := []) (r0 := q4) ⟨hx, hb, hml, hown, hg⟩ (k_J6_bitCount_0f7a4 l G cs q3 q4 hq4) gM_X2_35 mS_J6_bitCount_0f7a4 (rmk rfl) hP hKT hN [] rfl rfl hl.1 rfl (Nat.le_of_ble_eq_true rfl) dX2_mostTelling_21 ?_
    refine lv_istore (lv' := [(5, .int q4), (0, .ref a_t), (1, .int p1), (2, .int z1_0), (3, .int z1_1), (4, .int z1_2)]) hx hb dX2_mostTelling_24 hl (by decide) rfl (fun ls hl => ?_)
    refine lv_iload hx hb dX2_mostTelling_26 (lv_at hl 0 rfl) ?_
    refine lv_iload_n hx hb dX2_mostTelling_28 rfl (lv_at hl 4 rfl) ?_
    refine lv_icmp_le (tgt := 38) hx hb dX2_mostTelling_29 (by decide) (fun c_5 => ?_) (fun c_5 => ?_)
    · have hB := ifP c_5 hB
      refine lv_iinc (v := z1_2 + (1 : Int32)) (lv' := [(4, .int (z1_2 + (1 : Int32))), (5, .int q4), (0, .ref a_t), (1, .int p1), (2, .int z1_0), (3, .int z1_1)]) hx hb dX2_mostTelling_38 hl (k := 5) rfl (inc_ok (by decide)) (by decide) rfl (fun ls hl => ?_)
      refine lv_goto (tgt := 8) hx hb dX2_mostTelling_41 (by decide) ?_
      have hK := leafK hB hK
      have hK := elimL hK
      exact hK ls (lv_sub hl [2, 3, 4, 5, 0] rfl)
    · have hB := ifN c_5 hB
      refine lv_iload hx hb dX2_mostTelling_32 (lv_at hl 0 rfl) ?_
      refine lv_istore_n (lv' := [(3, .int q4), (5, .int q4), (0, .ref a_t), (1, .int p1), (2, .int z1_0), (4, .int z1_2)]) hx hb dX2_mostTelling_34 rfl hl (by decide) rfl (fun ls hl => ?_)
      refine lv_iload hx hb dX2_mostTelling_35 (lv_at hl 5 rfl) ?_
      refine lv_istore_n (lv' := [(2, .int z1_2), (3, .int q4), (5, .int q4), (0, .ref a_t), (1, .int p1), (4, .int z1_2)]) hx hb dX2_mostTelling_37 rfl hl (by decide) rfl (fun ls hl => ?_)
      refine lv_iinc (v := z1_2 + (1 : Int32)) (lv' := [(4, .int (z1_2 + (1 : Int32))), (2, .int z1_2), (3, .int q4), (5, .int q4), (0, .ref a_t), (1, .int p1)]) hx hb dX2_mostTelling_38 hl (k := 5) rfl (inc_ok (by decide)) (by decide) rfl (fun ls hl => ?_)
      refine lv_goto (tgt := 8) hx hb dX2_mostTelling_41 (by decide) ?_
      have hK := leafK hB hK
      have hK := elimL hK
      exact hK ls (lv_sub hl [4, 5, 1, 2, 0] rfl)
def wd_X2_fittingScribes (cs : Nat → ClassId) (a_t a_t_of a_t_said a_p1 a_p1_turn a_p1_bent : Nat) (v_t_size : Int32) (g_t_of : Nat → Int32) (g_t_said : Nat → Int32) (v_p1_opinions : Int32) (v_p1_lines : Int32) (v_p1_books : Int32) (v_p1_told : Int32) (v_p1_scribes : Int32) (v_p1_need : Int32) (g_p1_turn : Nat → Int32) (g_p1_bent : Nat → Int32) : va_W := [(a_t, .inr (2, [.ref a_t_of, .ref a_t_said, .int v_t_size])), (a_t_of, .inl (cs 0, 6, .inl g_t_of)), (a_t_said, .inl (cs 0, 6, .inl g_t_said)), (a_p1, .inr (0, [.int v_p1_opinions, .int v_p1_lines, .int v_p1_books, .int v_p1_told, .int v_p1_scribes, .int v_p1_need, .ref a_p1_turn, .ref a_p1_bent])), (a_p1_turn, .inl (cs 0, 6, .inl g_p1_turn)), (a_p1_bent, .inl (cs 0, 6, .inl g_p1_bent))]
def rm_X2_fittingScribes : Room := { frames := 2, cells := 0, slots := 0, locals := 47 }
theorem mI_X2_fittingScribes : MI yX2_fittingScribes RX2 cX2_fittingScribes 4 (some .int) 1 := ⟨gI_X2_fittingScribes, gE_X2_fittingScribes, gN_X2, gC_X2_fittingScribes, by decide +kernel⟩
set_option maxHeartbeats 4000000 in
set_option maxRecDepth 100000 in
theorem k_X2_fittingScribes (l : Launch) (G : va_G) (cs : Nat → ClassId) (a_t a_t_of a_t_said a_p1 a_p1_turn a_p1_bent : Nat) (v_t_size : Int32) (g_t_of : Nat → Int32) (g_t_said : Nat → Int32) (v_p1_opinions : Int32) (v_p1_lines : Int32) (v_p1_books : Int32) (v_p1_told : Int32) (v_p1_scribes : Int32) (v_p1_need : Int32) (g_p1_turn : Nat → Int32) (g_p1_bent : Nat → Int32) (R0 : Int32) (hB : f_X2_fittingScribes v_t_size g_t_of g_t_said v_p1_opinions v_p1_scribes g_p1_turn g_p1_bent = some R0) : Met l yX2_fittingScribes (.code yX2_fittingScribes cX2_fittingScribes 4 (some .int) :: GW) rm_X2_fittingScribes (PcR G cs [.ref a_t, .ref a_p1] (wd_X2_fittingScribes cs a_t a_t_of a_t_said a_p1 a_p1_turn a_p1_bent v_t_size g_t_of g_t_said v_p1_opinions v_p1_lines v_p1_books v_p1_told v_p1_scribes v_p1_need g_p1_turn g_p1_bent)) (vp_Si (fun r => r = R0)) 0 0 (fun _ => False) := by
  refine Met.ofW (cc := cX2_fittingScribes) (maxL := 4) (ret := (some .int)) (by decide) rfl ?_
  intro p e s m args below meth c s₁ B hml hv
  obtain ⟨rfl, hP, hK, hN⟩ := hv
  have hx := B.exec
  have hb := B.bytes
  have hr := B.returns
  have hts := atoms_spec (ws := .code yX2_fittingScribes cX2_fittingScribes 4 (some .int) :: GW) B.pre
  have hg : ∀ w ∈ GW, w.before _ s = true := fun w h => hts w (List.mem_cons_of_mem _ h)
  have hown : s.vm.findClass RX2 = some m.cls := findClass_of_methodNamed B.named
  have hlocks := B.notSynchronized
  have hl := lv_entry ([.ref a_t, .ref a_p1]) (n := 4) (Nat.le_of_ble_eq_true rfl)
  rw [lg_entry_eq]
  generalize (lg_sl ([.ref a_t, .ref a_p1]) ++ List.replicate (4 - (lg_sl ([.ref a_t, .ref a_p1])).length) Slot.unset).toArray = ls at hl ⊢
  have hl : lv_has ls 4 [(0, .ref a_t), (1, .ref a_p1)] := hl
  obtain ⟨y, hB, hK0⟩ : ∃ y, f_X2_fittingScribes v_t_size g_t_of g_t_said v_p1_opinions v_p1_scribes g_p1_turn g_p1_bent = some y ∧ KEnd R0 y := ⟨R0, hB, rfl⟩
  have hKT := hK
  have hK := hK0
  show W p l e rm_X2_fittingScribes s m ([.ref a_t, .ref a_p1] : List Value).toArray below meth c s.heap [] 0 0 (MQ below (vp_Si (fun r => r = R0)) ([.ref a_t, .ref a_p1] : List Value).toArray s 0 0 (fun _ => False)) (F0 m 0 ls [])
  refine lv_iconst (v := 0) hx hb dX2_fittingScribes_0 (by decide) ?_
  refine lv_istore_n (lv' := [(2, .int (0 : Int32)), (0, .ref a_t), (1, .ref a_p1)]) hx hb dX2_fittingScribes_1 rfl hl (by decide) rfl (fun ls hl => ?_)
  refine lv_iconst (v := 0) hx hb dX2_fittingScribes_2 (by decide) ?_
  refine lv_istore_n (lv' := [(3, .int (0 : Int32)), (2, .int (0 : Int32)), (0, .ref a_t), (1, .ref a_p1)]) hx hb dX2_fittingScribes_3 rfl hl (by decide) rfl (fun ls hl => ?_)
  refine lp_ind (Wh := fun (z1 : Int32 × Int32) => ∀ (ls : Array Slot), lv_has ls 4 [(0, .ref a_t), (1, .ref a_p1), (2, .int z1.1), (3, .int z1.2)] → W p l e rm_X2_fittingScribes s m ([.ref a_t, .ref a_p1] : List Value).toArray below meth c s.heap [] 0 0 (MQ below (vp_Si (fun r => r = R0)) ([.ref a_t, .ref a_p1] : List Value).toArray s 0 0 (fun _ => False)) (F0 m 4 ls [])) ?_ FU _ _ hB hK ls (lv_sub hl [2, 3, 1, 0] rfl)
  rintro ⟨z1_0, z1_1⟩ y hB hK ls hl
  have hl : lv_has ls 4 [(0, .ref a_t), (1, .ref a_p1), (2, .int z1_0), (3, .int z1_1)] := hl
  refine lv_iload_n hx hb dX2_fittingScribes_4 rfl (lv_at hl 3 rfl) ?_
  refine lv_aload_n hx hb dX2_fittingScribes_5 rfl (lv_at hl 1 rfl) ?_
  refine va_getN (D := G) (ci := 0) (v := .int v_p1_scribes) (C := RX0) (T := TX0) (N := 8) hx hb hg inX0 hown hKT hP 3 rfl rfl 4 (by decide) (va_Nw.use rfl (hN _ nF_X2_41_l rfl)) (fun _ h9 => h9) rfl dX2_fittingScribes_6 ?_
  refine lv_icmp_ge (tgt := 45) hx hb dX2_fittingScribes_9 (by decide) (fun c_2 => ?_) (fun c_2 => ?_)
  · have hB := ifP c_2 hB
    refine lv_iload_n hx hb dX2_fittingScribes_45 rfl (lv_at hl 2 rfl) ?_
    have hK := leafK hB hK
    have hK := elimR hK
    have hK : z1_0 = R0 := hK
    subst hK
    exact W.iret (v := z1_0) hx hb hr (fun t ht hW => ⟨_, rfl, rfl, ht⟩) (fun _ h => by cases h) dX2_fittingScribes_46
  · have hB := ifN c_2 hB
    refine lv_aload_n hx hb dX2_fittingScribes_12 rfl (lv_at hl 0 rfl) ?_
    refine lv_aload_n hx hb dX2_fittingScribes_13 rfl (lv_at hl 1 rfl) ?_
    refine lv_iload_n hx hb dX2_fittingScribes_14 rfl (lv_at hl 3 rfl) ?_
    obtain ⟨q3, hq3, hB⟩ := bnd hB
    refine kr_VN (WC := wd_X0_turnOf cs a_p1 a_p1_turn a_p1_bent v_p1_opinions v_p1_lines v_p1_books v_p1_told v_p1_scribes v_p1_need g_p1_turn) (As := [.int z1_1]) (rest := [.ref a_t]) (r0 := q3) ⟨hx, hb, hml, hown, hg⟩ (k_X0_turnOf l G cs a_p1 a_p1_turn a_p1_bent v_p1_opinions v_p1_lines v_p1_books v_p1_told v_p1_scribes v_p1_need g_p1_turn z1_1 q3 hq3) nM_X2_44_l mI_X0_turnOf (rmk rfl) hP hKT hN 3 rfl rfl [3, 4] rfl rfl hl.1 rfl (Nat.le_of_ble_eq_true rfl) dX2_fittingScribes_15 ?_
    refine lv_aload_n hx hb dX2_fittingScribes_18 rfl (lv_at hl 1 rfl) ?_
    refine lv_iload_n hx hb dX2_fittingScribes_19 rfl (lv_at hl 3 rfl) ?_
    obtain ⟨q4, hq4, hB⟩ := bnd hB
    refine kr_VN (WC := wd_X0_bentOf cs a_p1 a_p1_turn a_p1_bent v_p1_opinions v_p1_lines v_p1_books v_p1_told v_p1_scribes v_p1_need g_p1_bent) (As := [.int z1_1]) (rest := [.int q3, .ref a_t]) (r0 := q4) ⟨hx, hb, hml, hown, hg⟩ (k_X0_bentOf l G cs a_p1 a_p1_turn a_p1_bent v_p1_opinions v_p1_lines v_p1_books v_p1_told v_p1_scribes v_p1_need g_p1_bent z1_1 q4 hq4) nM_X2_47_l mI_X0_bentOf (rmk rfl) hP hKT hN 3 rfl rfl [3, 5] rfl rfl hl.1 rfl (Nat.le_of_ble_eq_true rfl) dX2_fittingScribes_20 ?_
    refine lv_aload_n hx hb dX2_fittingScribes_23 rfl (lv_at hl 1 rfl) ?_
    refine va_getN (D := G) (ci := 0) (v := .int v_p1_opinions) (C := RX0) (T := TX0) (N := 8) hx hb hg inX0 hown hKT hP 3 rfl rfl 0 (by decide) (va_Nw.use rfl (hN _ nF_X2_50_l rfl)) (fun _ h9 => h9) rfl dX2_fittingScribes_24 ?_
    obtain ⟨q5, hq5, hB⟩ := bnd hB
    refine kr_V (WC := wd_X2_fits cs a_t a_t_of a_t_said v_t_size g_t_of g_t_said) (As := [.int q3, .int q4, .int v_p1_opinions]) (rest := []) (r0 := q5) ⟨hx, hb, hml, hown, hg⟩ (k_X2_fits l G cs a_t a_t_of a_t_said v_t_size g_t_of g_t_said q3 q4 v_p1_opinions q5 hq5) gM_X2_27 mI_X2_fits (rmk rfl) hP hKT hN 0 rfl rfl [0, 1, 2] rfl rfl hl.1 rfl (Nat.le_of_ble_eq_true rfl) dX2_fittingScribes_27 ?_
    refine lv_if_eq (tgt := 39) hx hb dX2_fittingScribes_30 (by decide) (fun c_6 => ?_) (fun c_6 => ?_)
    · have hB := ifP c_6 hB
      refine lv_iinc (v := z1_1 + (1 : Int32)) (lv' := [(3, .int (z1_1 + (1 : Int32))), (0, .ref a_t), (1, .ref a_p1), (2, .int z1_0)]) hx hb dX2_fittingScribes_39 hl (k := 3) rfl (inc_ok (by decide)) (by decide) rfl (fun ls hl => ?_)
      refine lv_goto (tgt := 4) hx hb dX2_fittingScribes_42 (by decide) ?_
      have hK := leafK hB hK
      have hK := elimL hK
      exact hK ls (lv_sub hl [1, 2, 3, 0] rfl)
    · have hB := ifN c_6 hB
      refine lv_iload_n hx hb dX2_fittingScribes_33 rfl (lv_at hl 2 rfl) ?_
      refine lv_iconst (v := 1) hx hb dX2_fittingScribes_34 (by decide) ?_
      refine lv_iload_n hx hb dX2_fittingScribes_35 rfl (lv_at hl 3 rfl) ?_
      refine lj_ishl hx hb dX2_fittingScribes_36 ?_
      refine lv_ior hx hb dX2_fittingScribes_37 ?_
      refine lv_istore_n (lv' := [(2, .int (z1_0 ||| (jshl (1 : Int32) z1_1))), (0, .ref a_t), (1, .ref a_p1), (3, .int z1_1)]) hx hb dX2_fittingScribes_38 rfl hl (by decide) rfl (fun ls hl => ?_)
      refine lv_iinc (v := z1_1 + (1 : Int32)) (lv' := [(3, .int (z1_1 + (1 : Int32))), (2, .int (z1_0 ||| (jshl (1 : Int32) z1_1))), (0, .ref a_t), (1, .ref a_p1)]) hx hb dX2_fittingScribes_39 hl (k := 3) rfl (inc_ok (by decide)) (by decide) rfl (fun ls hl => ?_)
      refine lv_goto (tgt := 4) hx hb dX2_fittingScribes_42 (by decide) ?_
      have hK := leafK hB hK
      have hK := elimL hK
      exact hK ls (lv_sub hl [2, 3, 1, 0] rfl)
