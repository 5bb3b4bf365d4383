theorem inX7 : ∀ w ∈ u_ws RX7 TX7 6, w ∈ GW := by
  intro w h
  obtain ⟨k, hk, rfl⟩ := List.mem_map.mp h
  have hk := List.mem_range.mp hk
  rcases (show k = 0 ∨ k = 1 ∨ k = 2 ∨ k = 3 ∨ k = 4 ∨ k = 5 by omega) with rfl | rfl | rfl | rfl | rfl | rfl
  · exact gY_X7_laws
  · exact gY_X7_distance
  · exact gY_X7_before
  · exact gY_X7_lastScribe
  · exact gY_X7_queue
  · exact gY_X7_queued
def wd_X7_isBook (cs : Nat → ClassId) : va_W := []
def rm_X7_isBook : Room := { frames := 0, cells := 0, slots := 0, locals := 0 }
theorem mS_X7_isBook : MS yX7_isBook cX7_isBook 1 (some .boolean) 1 := ⟨gS_X7_isBook, gN_X7, gC_X7_isBook, by decide +kernel⟩
set_option maxHeartbeats 4000000 in
set_option maxRecDepth 100000 in
theorem k_X7_isBook (l : Launch) (G : va_G) (cs : Nat → ClassId) (p0 : Int32) (R0 : Int32) (hB : f_X7_isBook p0 = some R0) : Met l yX7_isBook (.code yX7_isBook cX7_isBook 1 (some .boolean) :: GW) rm_X7_isBook (PcR G cs [.int p0] (wd_X7_isBook cs )) (vp_Si (fun r => r = R0)) 0 0 (fun _ => False) := by
  refine Met.ofW (cc := cX7_isBook) (maxL := 1) (ret := (some .boolean)) (by decide) rfl ?_
  intro p e s m args below meth c s₁ B hml hv
  obtain ⟨rfl, hP, hK, hN⟩ := hv
  have hx := B.exec
  have hb := B.bytes
  have hr := B.returns
  have hts := atoms_spec (ws := .code yX7_isBook cX7_isBook 1 (some .boolean) :: GW) B.pre
  have hg : ∀ w ∈ GW, w.before _ s = true := fun w h => hts w (List.mem_cons_of_mem _ h)
  have hown : s.vm.findClass RX7 = some m.cls := findClass_of_methodNamed B.named
  have hlocks := B.notSynchronized
  have hl := lv_entry ([.int p0]) (n := 1) (Nat.le_of_ble_eq_true rfl)
  rw [lg_entry_eq]
  generalize (lg_sl ([.int p0]) ++ List.replicate (1 - (lg_sl ([.int p0])).length) Slot.unset).toArray = ls at hl ⊢
  have hl : lv_has ls 1 [(0, .int p0)] := hl
  obtain ⟨y, hB, hK0⟩ : ∃ y, f_X7_isBook p0 = some y ∧ KEnd R0 y := ⟨R0, hB, rfl⟩
  have hKT := hK
  have hK := hK0
  show W p l e rm_X7_isBook s m ([.int p0] : List Value).toArray below meth c s.heap [] 0 0 (MQ below (vp_Si (fun r => r = R0)) ([.int p0] : List Value).toArray s 0 0 (fun _ => False)) (F0 m 0 ls [])
  refine lv_iload_n hx hb dX7_isBook_0 rfl (lv_at hl 0 rfl) ?_
  refine lv_if_lt (tgt := 15) hx hb dX7_isBook_1 (by decide) (fun c_1 => ?_) (fun c_1 => ?_)
  · have hB := ifP c_1 hB
    refine lv_iconst (v := 0) hx hb dX7_isBook_15 (by decide) ?_
    have hK := leafK hB hK
    have hK : (0 : Int32) = R0 := hK
    subst hK
    exact W.zret (v := (0 : Int32)) (ty := .boolean) hx hb hr rfl (fun t ht hW => ⟨_, rfl, rfl, ht⟩) (fun _ h => by cases h) dX7_isBook_16
  · have hB := ifN c_1 hB
    refine lv_iload_n hx hb dX7_isBook_4 rfl (lv_at hl 0 rfl) ?_
    refine lv_sipush (v := 625) hx hb dX7_isBook_5 (by decide) ?_
    refine lv_icmp_ge (tgt := 15) hx hb dX7_isBook_8 (by decide) (fun c_2 => ?_) (fun c_2 => ?_)
    · have hB := ifP c_2 hB
      refine lv_iconst (v := 0) hx hb dX7_isBook_15 (by decide) ?_
      have hK := leafK hB hK
      have hK : (0 : Int32) = R0 := hK
      subst hK
      exact W.zret (v := (0 : Int32)) (ty := .boolean) hx hb hr rfl (fun t ht hW => ⟨_, rfl, rfl, ht⟩) (fun _ h => by cases h) dX7_isBook_16
    · have hB := ifN c_2 hB
      refine lv_iconst (v := 1) hx hb dX7_isBook_11 (by decide) ?_
      refine lv_goto (tgt := 16) hx hb dX7_isBook_12 (by decide) ?_
      have hK := leafK hB hK
      have hK : (1 : Int32) = R0 := hK
      subst hK
      exact W.zret (v := (1 : Int32)) (ty := .boolean) hx hb hr rfl (fun t ht hW => ⟨_, rfl, rfl, ht⟩) (fun _ h => by cases h) dX7_isBook_16
def wd_X7_distanceOf (cs : Nat → ClassId) (a_t a_t_laws a_t_distance a_t_before a_t_lastScribe a_t_queue : Nat) (v_t_queued : Int32) (g_t_distance : Nat → Int32) : va_W := [(a_t, .inr (7, [.ref a_t_laws, .ref a_t_distance, .ref a_t_before, .ref a_t_lastScribe, .ref a_t_queue, .int v_t_queued])), (a_t_distance, .inl (cs 0, 625, .inl g_t_distance))]
def rm_X7_distanceOf : Room := { frames := 1, cells := 0, slots := 0, locals := 20 }
theorem mI_X7_distanceOf : MI yX7_distanceOf RX7 cX7_distanceOf 2 (some .int) 1 := ⟨gI_X7_distanceOf, gE_X7_distanceOf, gN_X7, gC_X7_distanceOf, by decide +kernel⟩
set_option maxHeartbeats 4000000 in
set_option maxRecDepth 100000 in
theorem k_X7_distanceOf (l : Launch) (G : va_G) (cs : Nat → ClassId) (a_t a_t_laws a_t_distance a_t_before a_t_lastScribe a_t_queue : Nat) (v_t_queued : Int32) (g_t_distance : Nat → Int32) (p1 : Int32) (R0 : Int32) (hB : f_X7_distanceOf g_t_distance p1 = some R0) : Met l yX7_distanceOf (.code yX7_distanceOf cX7_distanceOf 2 (some .int) :: GW) rm_X7_distanceOf (PcR G cs [.ref a_t, .int p1] (wd_X7_distanceOf cs a_t a_t_laws a_t_distance a_t_before a_t_lastScribe a_t_queue v_t_queued g_t_distance)) (vp_Si (fun r => r = R0)) 0 0 (fun _ => False) := by
  refine Met.ofW (cc := cX7_distanceOf) (maxL := 2) (ret := (some .int)) (by decide) rfl ?_
  intro p e s m args below meth c s₁ B hml hv
  obtain ⟨rfl, hP, hK, hN⟩ := hv
  have hx := B.exec
  have hb := B.bytes
  have hr := B.returns
  have hts := atoms_spec (ws := .code yX7_distanceOf cX7_distanceOf 2 (some .int) :: GW) B.pre
  have hg : ∀ w ∈ GW, w.before _ s = true := fun w h => hts w (List.mem_cons_of_mem _ h)
  have hown : s.vm.findClass RX7 = some m.cls := findClass_of_methodNamed B.named
  have hlocks := B.notSynchronized
  have hl := lv_entry ([.ref a_t, .int p1]) (n := 2) (Nat.le_of_ble_eq_true rfl)
  rw [lg_entry_eq]
  generalize (lg_sl ([.ref a_t, .int p1]) ++ List.replicate (2 - (lg_sl ([.ref a_t, .int p1])).length) Slot.unset).toArray = ls at hl ⊢
  have hl : lv_has ls 2 [(0, .ref a_t), (1, .int p1)] := hl
  obtain ⟨y, hB, hK0⟩ : ∃ y, f_X7_distanceOf g_t_distance p1 = some y ∧ KEnd R0 y := ⟨R0, hB, rfl⟩
  have hKT := hK
  have hK := hK0
  show W p l e rm_X7_distanceOf s m ([.ref a_t, .int p1] : List Value).toArray below meth c s.heap [] 0 0 (MQ below (vp_Si (fun r => r = R0)) ([.ref a_t, .int p1] : List Value).toArray s 0 0 (fun _ => False)) (F0 m 0 ls [])
  refine lv_iload_n hx hb dX7_distanceOf_0 rfl (lv_at hl 1 rfl) ?_
  obtain ⟨q1, hq1, hB⟩ := bnd hB
  refine kr_S (WC := wd_X7_isBook cs ) (As := [.int p1]) (rest := []) (r0 := q1) ⟨hx, hb, hml, hown, hg⟩ (k_X7_isBook l G cs p1 q1 hq1) gM_X7_50 mS_X7_isBook (rmk rfl) hP hKT hN [] rfl rfl hl.1 rfl (Nat.le_of_ble_eq_true rfl) dX7_distanceOf_1 ?_
  refine lv_if_eq (tgt := 16) hx hb dX7_distanceOf_4 (by decide) (fun c_2 => ?_) (fun c_2 => ?_)
  · have hB := ifP c_2 hB
    refine lv_iconst (v := -1) hx hb dX7_distanceOf_16 (by decide) ?_
    have hK := leafK hB hK
    have hK : (-1 : Int32) = R0 := hK
    subst hK
    exact W.iret (v := (-1 : Int32)) hx hb hr (fun t ht hW => ⟨_, rfl, rfl, ht⟩) (fun _ h => by cases h) dX7_distanceOf_17
  · have hB := ifN c_2 hB
    refine lv_aload_n hx hb dX7_distanceOf_7 rfl (lv_at hl 0 rfl) ?_
    refine va_get (D := G) (ci := 7) (v := .ref a_t_distance) (C := RX7) (T := TX7) (N := 6) hx hb hg inX7 hown hKT hP 0 rfl rfl 1 (by decide) (hg _ gF_X7_9) (fun _ h9 => h9) rfl dX7_distanceOf_8 ?_
    refine lv_iload_n hx hb dX7_distanceOf_11 rfl (lv_at hl 1 rfl) ?_
    obtain ⟨h_3, hB⟩ := ifS hB
    refine va_iald hx hb hKT hP 1 0 rfl rfl h_3 dX7_distanceOf_12 ?_
    refine lv_goto (tgt := 17) hx hb dX7_distanceOf_13 (by decide) ?_
    have hK := leafK hB hK
    have hK : (g_t_distance p1.toNatClampNeg) = R0 := hK
    subst hK
    exact W.iret (v := g_t_distance p1.toNatClampNeg) hx hb hr (fun t ht hW => ⟨_, rfl, rfl, ht⟩) (fun _ h => by cases h) dX7_distanceOf_17
def wd_X7_isFound (cs : Nat → ClassId) (a_t a_t_laws a_t_distance a_t_before a_t_lastScribe a_t_queue : Nat) (v_t_queued : Int32) (g_t_distance : Nat → Int32) : va_W := [(a_t, .inr (7, [.ref a_t_laws, .ref a_t_distance, .ref a_t_before, .ref a_t_lastScribe, .ref a_t_queue, .int v_t_queued])), (a_t_distance, .inl (cs 0, 625, .inl g_t_distance))]
def rm_X7_isFound : Room := { frames := 2, cells := 0, slots := 0, locals := 41 }
theorem mI_X7_isFound : MI yX7_isFound RX7 cX7_isFound 2 (some .boolean) 1 := ⟨gI_X7_isFound, gE_X7_isFound, gN_X7, gC_X7_isFound, by decide +kernel⟩
set_option maxHeartbeats 4000000 in
set_option maxRecDepth 100000 in
theorem k_X7_isFound (l : Launch) (G : va_G) (cs : Nat → ClassId) (a_t a_t_laws a_t_distance a_t_before a_t_lastScribe a_t_queue : Nat) (v_t_queued : Int32) (g_t_distance : Nat → Int32) (p1 : Int32) (R0 : Int32) (hB : f_X7_isFound g_t_distance p1 = some R0) : Met l yX7_isFound (.code yX7_isFound cX7_isFound 2 (some .boolean) :: GW) rm_X7_isFound (PcR G cs [.ref a_t, .int p1] (wd_X7_isFound cs a_t a_t_laws a_t_distance a_t_before a_t_lastScribe a_t_queue v_t_queued g_t_distance)) (vp_Si (fun r => r = R0)) 0 0 (fun _ => False) := by
  refine Met.ofW (cc := cX7_isFound) (maxL := 2) (ret := (some .boolean)) (by decide) rfl ?_
  intro p e s m args below meth c s₁ B hml hv
  obtain ⟨rfl, hP, hK, hN⟩ := hv
  have hx := B.exec
  have hb := B.bytes
  have hr := B.returns
  have hts := atoms_spec (ws := .code yX7_isFound cX7_isFound 2 (some .boolean) :: GW) B.pre
  have hg : ∀ w ∈ GW, w.before _ s = true := fun w h => hts w (List.mem_cons_of_mem _ h)
  have hown : s.vm.findClass RX7 = some m.cls := findClass_of_methodNamed B.named
  have hlocks := B.notSynchronized
  have hl := lv_entry ([.ref a_t, .int p1]) (n := 2) (Nat.le_of_ble_eq_true rfl)
  rw [lg_entry_eq]
  generalize (lg_sl ([.ref a_t, .int p1]) ++ List.replicate (2 - (lg_sl ([.ref a_t, .int p1])).length) Slot.unset).toArray = ls at hl ⊢
  have hl : lv_has ls 2 [(0, .ref a_t), (1, .int p1)] := hl
  obtain ⟨y, hB, hK0⟩ : ∃ y, f_X7_isFound g_t_distance p1 = some y ∧ KEnd R0 y := ⟨R0, hB, rfl⟩
  have hKT := hK
  have hK := hK0
  show W p l e rm_X7_isFound s m ([.ref a_t, .int p1] : List Value).toArray below meth c s.heap [] 0 0 (MQ below (vp_Si (fun r => r = R0)) ([.ref a_t, .int p1] : List Value).toArray s 0 0 (fun _ => False)) (F0 m 0 ls [])
  refine lv_aload_n hx hb dX7_isFound_0 rfl (lv_at hl 0 rfl) ?_
  refine lv_iload_n hx hb dX7_isFound_1 rfl (lv_at hl 1 rfl) ?_
  obtain ⟨q1, hq1, hB⟩ := bnd hB
  refine kr_V (WC := wd_X7_distanceOf cs a_t a_t_laws a_t_distance a_t_before a_t_lastScribe a_t_queue v_t_queued g_t_distance) (As := [.int p1]) (rest := []) (r0 := q1) ⟨hx, hb, hml, hown, hg⟩ (k_X7_distanceOf l G cs a_t a_t_laws a_t_distance a_t_before a_t_lastScribe a_t_queue v_t_queued g_t_distance p1 q1 hq1) gM_X7_46 mI_X7_distanceOf (rmk rfl) hP hKT hN 0 rfl rfl [0, 1] rfl rfl hl.1 rfl (Nat.le_of_ble_eq_true rfl) dX7_isFound_2 ?_
  refine lv_iconst (v := -1) hx hb dX7_isFound_5 (by decide) ?_
  refine lv_icmp_eq (tgt := 13) hx hb dX7_isFound_6 (by decide) (fun c_2 => ?_) (fun c_2 => ?_)
  · have hB := ifP c_2 hB
    refine lv_iconst (v := 0) hx hb dX7_isFound_13 (by decide) ?_
    have hK := leafK hB hK
    have hK : (0 : Int32) = R0 := hK
    subst hK
    exact W.zret (v := (0 : Int32)) (ty := .boolean) hx hb hr rfl (fun t ht hW => ⟨_, rfl, rfl, ht⟩) (fun _ h => by cases h) dX7_isFound_14
  · have hB := ifN c_2 hB
    refine lv_iconst (v := 1) hx hb dX7_isFound_9 (by decide) ?_
    refine lv_goto (tgt := 14) hx hb dX7_isFound_10 (by decide) ?_
    have hK := leafK hB hK
    have hK : (1 : Int32) = R0 := hK
    subst hK
    exact W.zret (v := (1 : Int32)) (ty := .boolean) hx hb hr rfl (fun t ht hW => ⟨_, rfl, rfl, ht⟩) (fun _ h => by cases h) dX7_isFound_14
def wd_X7_find (cs : Nat → ClassId) (a_t a_t_laws a_t_distance a_t_before a_t_lastScribe a_t_queue : Nat) (v_t_queued : Int32) (g_t_distance : Nat → Int32) (g_t_before : Nat → Int32) (g_t_lastScribe : Nat → Int32) (g_t_queue : Nat → Int32) : va_W := [(a_t, .inr (7, [.ref a_t_laws, .ref a_t_distance, .ref a_t_before, .ref a_t_lastScribe, .ref a_t_queue, .int v_t_queued])), (a_t_distance, .inl (cs 0, 625, .inl g_t_distance)), (a_t_before, .inl (cs 0, 625, .inl g_t_before)), (a_t_lastScribe, .inl (cs 0, 625, .inl g_t_lastScribe)), (a_t_queue, .inl (cs 0, 625, .inl g_t_queue))]
def rm_X7_find : Room := { frames := 3, cells := 0, slots := 0, locals := 62 }
theorem mI_X7_find : MI yX7_find RX7 cX7_find 5 none 4 := ⟨gI_X7_find, gE_X7_find, gN_X7, gC_X7_find, by decide +kernel⟩
set_option maxHeartbeats 4000000 in
set_option maxRecDepth 100000 in
theorem k_X7_find (l : Launch) (G : va_G) (cs : Nat → ClassId) (a_t a_t_laws a_t_distance a_t_before a_t_lastScribe a_t_queue : Nat) (v_t_queued : Int32) (g_t_distance : Nat → Int32) (g_t_before : Nat → Int32) (g_t_lastScribe : Nat → Int32) (g_t_queue : Nat → Int32) (p1 p2 p3 p4 : Int32) (sz : Nat) (R0 : Int32 × (Nat → Int32) × (Nat → Int32) × (Nat → Int32) × (Nat → Int32)) (hB : f_X7_find v_t_queued g_t_distance g_t_before g_t_lastScribe g_t_queue p1 p2 p3 p4 = some R0) : Met l yX7_find (.code yX7_find cX7_find 5 none :: GW) rm_X7_find (PcW G cs [.ref a_t, .int p1, .int p2, .int p3, .int p4] (wd_X7_find cs a_t a_t_laws a_t_distance a_t_before a_t_lastScribe a_t_queue v_t_queued g_t_distance g_t_before g_t_lastScribe g_t_queue) sz) (QcV G (va_A (wd_X7_find cs a_t a_t_laws a_t_distance a_t_before a_t_lastScribe a_t_queue v_t_queued g_t_distance g_t_before g_t_lastScribe g_t_queue) sz) (wd_X7_find cs a_t a_t_laws a_t_distance a_t_before a_t_lastScribe a_t_queue R0.1 R0.2.1 R0.2.2.1 R0.2.2.2.1 R0.2.2.2.2)) 0 0 (va_A (wd_X7_find cs a_t a_t_laws a_t_distance a_t_before a_t_lastScribe a_t_queue v_t_queued g_t_distance g_t_before g_t_lastScribe g_t_queue) sz) := by
  refine Met.ofW (cc := cX7_find) (maxL := 5) (ret := none) (by decide) rfl ?_
  intro p e s m args below meth c s₁ B hml hv
  obtain ⟨rfl, hsz, hP, hD0, hK, hN⟩ := hv
  have hx := B.exec
  have hb := B.bytes
  have hr := B.returns
  have hts := atoms_spec (ws := .code yX7_find cX7_find 5 none :: GW) B.pre
  have hg : ∀ w ∈ GW, w.before _ s = true := fun w h => hts w (List.mem_cons_of_mem _ h)
  have hown : s.vm.findClass RX7 = some m.cls := findClass_of_methodNamed B.named
  have hlocks := B.notSynchronized
  subst hsz
  have hD := hD0.self (sz := s.heap.size)
  generalize hAe : va_A (wd_X7_find cs a_t a_t_laws a_t_distance a_t_before a_t_lastScribe a_t_queue v_t_queued g_t_distance g_t_before g_t_lastScribe g_t_queue) s.heap.size = A at hD ⊢
  have hA : ∀ q : Nat, s.heap.size ≤ q → A q := fun q h => by rw [← hAe]; exact Or.inr h
  have hS : va_S A s.heap s.heap [] := va_S.rf
  have hl := lv_entry ([.ref a_t, .int p1, .int p2, .int p3, .int p4]) (n := 5) (Nat.le_of_ble_eq_true rfl)
  rw [lg_entry_eq]
  generalize (lg_sl ([.ref a_t, .int p1, .int p2, .int p3, .int p4]) ++ List.replicate (5 - (lg_sl ([.ref a_t, .int p1, .int p2, .int p3, .int p4])).length) Slot.unset).toArray = ls at hl ⊢
  have hl : lv_has ls 5 [(0, .ref a_t), (1, .int p1), (2, .int p2), (3, .int p3), (4, .int p4)] := hl
  obtain ⟨y, hB, hK0⟩ : ∃ y, f_X7_find v_t_queued g_t_distance g_t_before g_t_lastScribe g_t_queue p1 p2 p3 p4 = some y ∧ KEnd R0 y := ⟨R0, hB, rfl⟩
  have hKT := hK
  have hK := hK0
  obtain ⟨H, hHe⟩ : ∃ H, H = s.heap := ⟨_, rfl⟩
  obtain ⟨locs, hLe⟩ : ∃ L : List Loc, L = [] := ⟨_, rfl⟩
  rw [← hHe] at hP
  have hS : va_S A s.heap H locs := by rw [hHe, hLe]; exact hS
  show W p l e rm_X7_find s m ([.ref a_t, .int p1, .int p2, .int p3, .int p4] : List Value).toArray below meth c s.heap [] 0 0 _ _
  suffices hgo : W p l e rm_X7_find s m ([.ref a_t, .int p1, .int p2, .int p3, .int p4] : List Value).toArray below meth c H locs 0 0 (MQ below (QcV G A (wd_X7_find cs a_t a_t_laws a_t_distance a_t_before a_t_lastScribe a_t_queue R0.1 R0.2.1 R0.2.2.1 R0.2.2.2.1 R0.2.2.2.2)) ([.ref a_t, .int p1, .int p2, .int p3, .int p4] : List Value).toArray s 0 0 A) (F0 m 0 ls []) by rw [hHe, hLe] at hgo; exact hgo
  refine lv_iload_n hx hb dX7_find_0 rfl (lv_at hl 1 rfl) ?_
  obtain ⟨q1, hq1, hB⟩ := bnd hB
  refine kr_S (WC := wd_X7_isBook cs ) (As := [.int p1]) (rest := []) (r0 := q1) ⟨hx, hb, hml, hown, hg⟩ (k_X7_isBook l G cs p1 q1 hq1) gM_X7_50 mS_X7_isBook (rmk rfl) hP hKT hN [] rfl rfl hl.1 rfl (Nat.le_of_ble_eq_true rfl) dX7_find_1 ?_
  refine lv_if_eq (tgt := 74) hx hb dX7_find_4 (by decide) (fun c_2 => ?_) (fun c_2 => ?_)
  · have hB := ifP c_2 hB
    have hK := leafK hB hK
    have hK : (v_t_queued, g_t_distance, g_t_before, g_t_lastScribe, g_t_queue) = R0 := hK
    subst hK
    exact W.vret hx hb hr (fun t ht hW => ⟨⟨(), rfl, trivial, by rw [ht]; exact hP, hD⟩, hS.F ht⟩) hS.2.2 dX7_find_74
  · have hB := ifN c_2 hB
    refine lv_aload_n hx hb dX7_find_7 rfl (lv_at hl 0 rfl) ?_
    refine lv_iload_n hx hb dX7_find_8 rfl (lv_at hl 1 rfl) ?_
    obtain ⟨q3, hq3, hB⟩ := bnd hB
    refine kr_V (WC := wd_X7_isFound cs a_t a_t_laws a_t_distance a_t_before a_t_lastScribe a_t_queue v_t_queued g_t_distance) (As := [.int p1]) (rest := []) (r0 := q3) ⟨hx, hb, hml, hown, hg⟩ (k_X7_isFound l G cs a_t a_t_laws a_t_distance a_t_before a_t_lastScribe a_t_queue v_t_queued g_t_distance p1 q3 hq3) gM_X7_36 mI_X7_isFound (rmk rfl) hP hKT hN 0 rfl rfl [0, 1] rfl rfl hl.1 rfl (Nat.le_of_ble_eq_true rfl) dX7_find_9 ?_
    refine lv_if_ne (tgt := 74) hx hb dX7_find_12 (by decide) (fun c_4 => ?_) (fun c_4 => ?_)
    · have hB := ifN c_4 hB
      have hK := leafK hB hK
      have hK : (v_t_queued, g_t_distance, g_t_before, g_t_lastScribe, g_t_queue) = R0 := hK
      subst hK
      exact W.vret hx hb hr (fun t ht hW => ⟨⟨(), rfl, trivial, by rw [ht]; exact hP, hD⟩, hS.F ht⟩) hS.2.2 dX7_find_74
    · have hB := ifP c_4 hB
      refine lv_aload_n hx hb dX7_find_15 rfl (lv_at hl 0 rfl) ?_
      refine va_get (D := G) (ci := 7) (v := .int v_t_queued) (C := RX7) (T := TX7) (N := 6) hx hb hg inX7 hown hKT hP 0 rfl rfl 5 (by decide) (hg _ gF_X7_28) (fun _ h9 => h9) rfl dX7_find_16 ?_
      refine lv_if_lt (tgt := 74) hx hb dX7_find_19 (by decide) (fun c_5 => ?_) (fun c_5 => ?_)
      · have hB := ifP c_5 hB
        have hK := leafK hB hK
        have hK : (v_t_queued, g_t_distance, g_t_before, g_t_lastScribe, g_t_queue) = R0 := hK
        subst hK
        exact W.vret hx hb hr (fun t ht hW => ⟨⟨(), rfl, trivial, by rw [ht]; exact hP, hD⟩, hS.F ht⟩) hS.2.2 dX7_find_74
      · have hB := ifN c_5 hB
        refine lv_aload_n hx hb dX7_find_22 rfl (lv_at hl 0 rfl) ?_
        refine va_get (D := G) (ci := 7) (v := .int v_t_queued) (C := RX7) (T := TX7) (N := 6) hx hb hg inX7 hown hKT hP 0 rfl rfl 5 (by decide) (hg _ gF_X7_28) (fun _ h9 => h9) rfl dX7_find_23 ?_
        refine lv_sipush (v := 625) hx hb dX7_find_26 (by decide) ?_
        refine lv_icmp_ge (tgt := 74) hx hb dX7_find_29 (by decide) (fun c_6 => ?_) (fun c_6 => ?_)
        · have hB := ifP c_6 hB
          have hK := leafK hB hK
          have hK : (v_t_queued, g_t_distance, g_t_before, g_t_lastScribe, g_t_queue) = R0 := hK
          subst hK
          exact W.vret hx hb hr (fun t ht hW => ⟨⟨(), rfl, trivial, by rw [ht]; exact hP, hD⟩, hS.F ht⟩) hS.2.2 dX7_find_74
        · have hB := ifN c_6 hB
          refine lv_aload_n hx hb dX7_find_32 rfl (lv_at hl 0 rfl) ?_
          refine va_get (D := G) (ci := 7) (v := .ref a_t_distance) (C := RX7) (T := TX7) (N := 6) hx hb hg inX7 hown hKT hP 0 rfl rfl 1 (by decide) (hg _ gF_X7_9) (fun _ h9 => h9) rfl dX7_find_33 ?_
          refine lv_iload_n hx hb dX7_find_36 rfl (lv_at hl 1 rfl) ?_
          refine lv_iload hx hb dX7_find_37 (lv_at hl 4 rfl) ?_
          obtain ⟨h_7, hB⟩ := ifS hB
          refine va_iast hx hb hKT hP hD hS 1 0 rfl rfl h_7 dX7_find_39 (fun H locs hP hD hS => ?_)
          have hP : va_P G vwCl (wd_X7_find cs a_t a_t_laws a_t_distance a_t_before a_t_lastScribe a_t_queue v_t_queued (upd g_t_distance p1.toNatClampNeg p4) g_t_before g_t_lastScribe g_t_queue) H := hP
          have hD : va_D A (wd_X7_find cs a_t a_t_laws a_t_distance a_t_before a_t_lastScribe a_t_queue v_t_queued (upd g_t_distance p1.toNatClampNeg p4) g_t_before g_t_lastScribe g_t_queue) := hD
          refine lv_aload_n hx hb dX7_find_40 rfl (lv_at hl 0 rfl) ?_
          refine va_get (D := G) (ci := 7) (v := .ref a_t_before) (C := RX7) (T := TX7) (N := 6) hx hb hg inX7 hown hKT hP 0 rfl rfl 2 (by decide) (hg _ gF_X7_15) (fun _ h9 => h9) rfl dX7_find_41 ?_
          refine lv_iload_n hx hb dX7_find_44 rfl (lv_at hl 1 rfl) ?_
          refine lv_iload_n hx hb dX7_find_45 rfl (lv_at hl 2 rfl) ?_
          obtain ⟨h_8, hB⟩ := ifS hB
          refine va_iast hx hb hKT hP hD hS 2 0 rfl rfl h_8 dX7_find_46 (fun H locs hP hD hS => ?_)
          have hP : va_P G vwCl (wd_X7_find cs a_t a_t_laws a_t_distance a_t_before a_t_lastScribe a_t_queue v_t_queued (upd g_t_distance p1.toNatClampNeg p4) (upd g_t_before p1.toNatClampNeg p2) g_t_lastScribe g_t_queue) H := hP
          have hD : va_D A (wd_X7_find cs a_t a_t_laws a_t_distance a_t_before a_t_lastScribe a_t_queue v_t_queued (upd g_t_distance p1.toNatClampNeg p4) (upd g_t_before p1.toNatClampNeg p2) g_t_lastScribe g_t_queue) := hD
          refine lv_aload_n hx hb dX7_find_47 rfl (lv_at hl 0 rfl) ?_
          refine va_get (D := G) (ci := 7) (v := .ref a_t_lastScribe) (C := RX7) (T := TX7) (N := 6) hx hb hg inX7 hown hKT hP 0 rfl rfl 3 (by decide) (hg _ gF_X7_18) (fun _ h9 => h9) rfl dX7_find_48 ?_
          refine lv_iload_n hx hb dX7_find_51 rfl (lv_at hl 1 rfl) ?_
          refine lv_iload_n hx hb dX7_find_52 rfl (lv_at hl 3 rfl) ?_
          obtain ⟨h_9, hB⟩ := ifS hB
          refine va_iast hx hb hKT hP hD hS 3 0 rfl rfl h_9 dX7_find_53 (fun H locs hP hD hS => ?_)
          have hP : va_P G vwCl (wd_X7_find cs a_t a_t_laws a_t_distance a_t_before a_t_lastScribe a_t_queue v_t_queued (upd g_t_distance p1.toNatClampNeg p4) (upd g_t_before p1.toNatClampNeg p2) (upd g_t_lastScribe p1.toNatClampNeg p3) g_t_queue) H := hP
          have hD : va_D A (wd_X7_find cs a_t a_t_laws a_t_distance a_t_before a_t_lastScribe a_t_queue v_t_queued (upd g_t_distance p1.toNatClampNeg p4) (upd g_t_before p1.toNatClampNeg p2) (upd g_t_lastScribe p1.toNatClampNeg p3) g_t_queue) := hD
          refine lv_aload_n hx hb dX7_find_54 rfl (lv_at hl 0 rfl) ?_
          refine va_get (D := G) (ci := 7) (v := .ref a_t_queue) (C := RX7) (T := TX7) (N := 6) hx hb hg inX7 hown hKT hP 0 rfl rfl 4 (by decide) (hg _ gF_X7_21) (fun _ h9 => h9) rfl dX7_find_55 ?_
          refine lv_aload_n hx hb dX7_find_58 rfl (lv_at hl 0 rfl) ?_
          refine va_get (D := G) (ci := 7) (v := .int v_t_queued) (C := RX7) (T := TX7) (N := 6) hx hb hg inX7 hown hKT hP 0 rfl rfl 5 (by decide) (hg _ gF_X7_28) (fun _ h9 => h9) rfl dX7_find_59 ?_
          refine lv_iload_n hx hb dX7_find_62 rfl (lv_at hl 1 rfl) ?_
          obtain ⟨h_10, hB⟩ := ifS hB
          refine va_iast hx hb hKT hP hD hS 4 0 rfl rfl h_10 dX7_find_63 (fun H locs hP hD hS => ?_)
          have hP : va_P G vwCl (wd_X7_find cs a_t a_t_laws a_t_distance a_t_before a_t_lastScribe a_t_queue v_t_queued (upd g_t_distance p1.toNatClampNeg p4) (upd g_t_before p1.toNatClampNeg p2) (upd g_t_lastScribe p1.toNatClampNeg p3) (upd g_t_queue v_t_queued.toNatClampNeg p1)) H := hP
          have hD : va_D A (wd_X7_find cs a_t a_t_laws a_t_distance a_t_before a_t_lastScribe a_t_queue v_t_queued (upd g_t_distance p1.toNatClampNeg p4) (upd g_t_before p1.toNatClampNeg p2) (upd g_t_lastScribe p1.toNatClampNeg p3) (upd g_t_queue v_t_queued.toNatClampNeg p1)) := hD
          refine lv_aload_n hx hb dX7_find_64 rfl (lv_at hl 0 rfl) ?_
          refine lv_dup hx hb dX7_find_65 rfl ?_
          refine va_get (D := G) (ci := 7) (v := .int v_t_queued) (C := RX7) (T := TX7) (N := 6) hx hb hg inX7 hown hKT hP 0 rfl rfl 5 (by decide) (hg _ gF_X7_28) (fun _ h9 => h9) rfl dX7_find_66 ?_
          refine lv_iconst (v := 1) hx hb dX7_find_69 (by decide) ?_
          refine lv_iadd hx hb dX7_find_70 ?_
          refine va_put (D := G) (ci := 7) (v := .int (v_t_queued + (1 : Int32))) (ty := .int) (C := RX7) (T := TX7) (N := 6) hx hb hg inX7 tyX7 tyX7_ok nmX7 hown hKT hP hD hS 0 rfl rfl 5 (by decide) (hg _ gF_X7_28) (fun _ h9 => h9) rfl (by decide +kernel) rfl rfl (Nat.le_of_ble_eq_true rfl) dX7_find_71 (fun H locs hP hD hS => ?_)
          have hP : va_P G vwCl (wd_X7_find cs a_t a_t_laws a_t_distance a_t_before a_t_lastScribe a_t_queue (v_t_queued + (1 : Int32)) (upd g_t_distance p1.toNatClampNeg p4) (upd g_t_before p1.toNatClampNeg p2) (upd g_t_lastScribe p1.toNatClampNeg p3) (upd g_t_queue v_t_queued.toNatClampNeg p1)) H := hP
          have hD : va_D A (wd_X7_find cs a_t a_t_laws a_t_distance a_t_before a_t_lastScribe a_t_queue (v_t_queued + (1 : Int32)) (upd g_t_distance p1.toNatClampNeg p4) (upd g_t_before p1.toNatClampNeg p2) (upd g_t_lastScribe p1.toNatClampNeg p3) (upd g_t_queue v_t_queued.toNatClampNeg p1)) := hD
          have hK := leafK hB hK
          have hK : (v_t_queued + (1 : Int32), upd g_t_distance p1.toNatClampNeg p4, upd g_t_before p1.toNatClampNeg p2, upd g_t_lastScribe p1.toNatClampNeg p3, upd g_t_queue v_t_queued.toNatClampNeg p1) = R0 := hK
          subst hK
          exact W.vret hx hb hr (fun t ht hW => ⟨⟨(), rfl, trivial, by rw [ht]; exact hP, hD⟩, hS.F ht⟩) hS.2.2 dX7_find_74
def wd_X7_search (cs : Nat → ClassId) (a_t a_t_laws a_t_distance a_t_before a_t_lastScribe a_t_queue a_t_laws_made : Nat) (v_t_queued : Int32) (v_t_laws_scribes : Int32) (v_t_laws_books : Int32) (g_t_laws_made : Nat → Int32) (g_t_distance : Nat → Int32) (g_t_before : Nat → Int32) (g_t_lastScribe : Nat → Int32) (g_t_queue : Nat → Int32) : va_W := [(a_t, .inr (7, [.ref a_t_laws, .ref a_t_distance, .ref a_t_before, .ref a_t_lastScribe, .ref a_t_queue, .int v_t_queued])), (a_t_laws, .inr (1, [.ref a_t_laws_made, .int v_t_laws_scribes, .int v_t_laws_books])), (a_t_laws_made, .inl (cs 0, 3750, .inl g_t_laws_made)), (a_t_distance, .inl (cs 0, 625, .inl g_t_distance)), (a_t_before, .inl (cs 0, 625, .inl g_t_before)), (a_t_lastScribe, .inl (cs 0, 625, .inl g_t_lastScribe)), (a_t_queue, .inl (cs 0, 625, .inl g_t_queue))]
def rm_X7_search : Room := { frames := 4, cells := 0, slots := 0, locals := 86 }
theorem mI_X7_search : MI yX7_search RX7 cX7_search 7 none 3 := ⟨gI_X7_search, gE_X7_search, gN_X7, gC_X7_search, by decide +kernel⟩
set_option maxHeartbeats 4000000 in
set_option maxRecDepth 100000 in
theorem k_X7_search (l : Launch) (G : va_G) (cs : Nat → ClassId) (a_t a_t_laws a_t_distance a_t_before a_t_lastScribe a_t_queue a_t_laws_made : Nat) (v_t_queued : Int32) (v_t_laws_scribes : Int32) (v_t_laws_books : Int32) (g_t_laws_made : Nat → Int32) (g_t_distance : Nat → Int32) (g_t_before : Nat → Int32) (g_t_lastScribe : Nat → Int32) (g_t_queue : Nat → Int32) (p1 p2 p3 : Int32) (sz : Nat) (R0 : Int32 × (Nat → Int32) × (Nat → Int32) × (Nat → Int32) × (Nat → Int32)) (hB : f_X7_search v_t_laws_scribes v_t_laws_books g_t_laws_made g_t_distance g_t_before g_t_lastScribe g_t_queue p1 p2 p3 = some R0) : Met l yX7_search (.code yX7_search cX7_search 7 none :: GW) rm_X7_search (PcW G cs [.ref a_t, .int p1, .int p2, .int p3] (wd_X7_search cs a_t a_t_laws a_t_distance a_t_before a_t_lastScribe a_t_queue a_t_laws_made v_t_queued v_t_laws_scribes v_t_laws_books g_t_laws_made g_t_distance g_t_before g_t_lastScribe g_t_queue) sz) (QcV G (va_A (wd_X7_search cs a_t a_t_laws a_t_distance a_t_before a_t_lastScribe a_t_queue a_t_laws_made v_t_queued v_t_laws_scribes v_t_laws_books g_t_laws_made g_t_distance g_t_before g_t_lastScribe g_t_queue) sz) (wd_X7_search cs a_t a_t_laws a_t_distance a_t_before a_t_lastScribe a_t_queue a_t_laws_made R0.1 v_t_laws_scribes v_t_laws_books g_t_laws_made R0.2.1 R0.2.2.1 R0.2.2.2.1 R0.2.2.2.2)) 0 0 (va_A (wd_X7_search cs a_t a_t_laws a_t_distance a_t_before a_t_lastScribe a_t_queue a_t_laws_made v_t_queued v_t_laws_scribes v_t_laws_books g_t_laws_made g_t_distance g_t_before g_t_lastScribe g_t_queue) sz) := by
  refine Met.ofW (cc := cX7_search) (maxL := 7) (ret := none) (by decide) rfl ?_
  intro p e s m args below meth c s₁ B hml hv
  obtain ⟨rfl, hsz, hP, hD0, hK, hN⟩ := hv
  have hx := B.exec
  have hb := B.bytes
  have hr := B.returns
  have hts := atoms_spec (ws := .code yX7_search cX7_search 7 none :: GW) B.pre
  have hg : ∀ w ∈ GW, w.before _ s = true := fun w h => hts w (List.mem_cons_of_mem _ h)
  have hown : s.vm.findClass RX7 = some m.cls := findClass_of_methodNamed B.named
  have hlocks := B.notSynchronized
  subst hsz
  have hD := hD0.self (sz := s.heap.size)
  generalize hAe : va_A (wd_X7_search cs a_t a_t_laws a_t_distance a_t_before a_t_lastScribe a_t_queue a_t_laws_made v_t_queued v_t_laws_scribes v_t_laws_books g_t_laws_made g_t_distance g_t_before g_t_lastScribe g_t_queue) s.heap.size = A at hD ⊢
  have hA : ∀ q : Nat, s.heap.size ≤ q → A q := fun q h => by rw [← hAe]; exact Or.inr h
  have hS : va_S A s.heap s.heap [] := va_S.rf
  have hl := lv_entry ([.ref a_t, .int p1, .int p2, .int p3]) (n := 7) (Nat.le_of_ble_eq_true rfl)
  rw [lg_entry_eq]
  generalize (lg_sl ([.ref a_t, .int p1, .int p2, .int p3]) ++ List.replicate (7 - (lg_sl ([.ref a_t, .int p1, .int p2, .int p3])).length) Slot.unset).toArray = ls at hl ⊢
  have hl : lv_has ls 7 [(0, .ref a_t), (1, .int p1), (2, .int p2), (3, .int p3)] := hl
  obtain ⟨y, hB, hK0⟩ : ∃ y, f_X7_search v_t_laws_scribes v_t_laws_books g_t_laws_made g_t_distance g_t_before g_t_lastScribe g_t_queue p1 p2 p3 = some y ∧ KEnd R0 y := ⟨R0, hB, rfl⟩
  have hKT := hK
  have hK := hK0
  obtain ⟨H, hHe⟩ : ∃ H, H = s.heap := ⟨_, rfl⟩
  obtain ⟨locs, hLe⟩ : ∃ L : List Loc, L = [] := ⟨_, rfl⟩
  rw [← hHe] at hP
  have hS : va_S A s.heap H locs := by rw [hHe, hLe]; exact hS
  show W p l e rm_X7_search s m ([.ref a_t, .int p1, .int p2, .int p3] : List Value).toArray below meth c s.heap [] 0 0 _ _
  suffices hgo : W p l e rm_X7_search s m ([.ref a_t, .int p1, .int p2, .int p3] : List Value).toArray below meth c H locs 0 0 (MQ below (QcV G A (wd_X7_search cs a_t a_t_laws a_t_distance a_t_before a_t_lastScribe a_t_queue a_t_laws_made R0.1 v_t_laws_scribes v_t_laws_books g_t_laws_made R0.2.1 R0.2.2.1 R0.2.2.2.1 R0.2.2.2.2)) ([.ref a_t, .int p1, .int p2, .int p3] : List Value).toArray s 0 0 A) (F0 m 0 ls []) by rw [hHe, hLe] at hgo; exact hgo
  refine lv_iconst (v := 0) hx hb dX7_search_0 (by decide) ?_
  refine lv_istore (lv' := [(4, .int (0 : Int32)), (0, .ref a_t), (1, .int p1), (2, .int p2), (3, .int p3)]) hx hb dX7_search_1 hl (by decide) rfl (fun ls hl => ?_)
  refine lp_ind (Wh := fun (z1 : Int32 × (Nat → Int32)) => ∀ (H : Heap) (locs : List Loc), va_P G vwCl (wd_X7_search cs a_t a_t_laws a_t_distance a_t_before a_t_lastScribe a_t_queue a_t_laws_made v_t_queued v_t_laws_scribes v_t_laws_books g_t_laws_made z1.2 g_t_before g_t_lastScribe g_t_queue) H → va_D A (wd_X7_search cs a_t a_t_laws a_t_distance a_t_before a_t_lastScribe a_t_queue a_t_laws_made v_t_queued v_t_laws_scribes v_t_laws_books g_t_laws_made z1.2 g_t_before g_t_lastScribe g_t_queue) → va_S A s.heap H locs → ∀ (ls : Array Slot), lv_has ls 7 [(0, .ref a_t), (1, .int p1), (2, .int p2), (3, .int p3), (4, .int z1.1)] → W p l e rm_X7_search s m ([.ref a_t, .int p1, .int p2, .int p3] : List Value).toArray below meth c H locs 0 0 (MQ below (QcV G A (wd_X7_search cs a_t a_t_laws a_t_distance a_t_before a_t_lastScribe a_t_queue a_t_laws_made R0.1 v_t_laws_scribes v_t_laws_books g_t_laws_made R0.2.1 R0.2.2.1 R0.2.2.2.1 R0.2.2.2.2)) ([.ref a_t, .int p1, .int p2, .int p3] : List Value).toArray s 0 0 A) (F0 m 3 ls [])) ?_ FU _ _ hB hK H locs hP hD hS ls (lv_sub hl [1, 2, 3, 4, 0] rfl)
  rintro ⟨z1_0, z1_1⟩ y hB hK H locs hP hD hS ls hl
  have hl : lv_has ls 7 [(0, .ref a_t), (1, .int p1), (2, .int p2), (3, .int p3), (4, .int z1_0)] := hl
  have hP : va_P G vwCl (wd_X7_search cs a_t a_t_laws a_t_distance a_t_before a_t_lastScribe a_t_queue a_t_laws_made v_t_queued v_t_laws_scribes v_t_laws_books g_t_laws_made z1_1 g_t_before g_t_lastScribe g_t_queue) H := hP
  have hD : va_D A (wd_X7_search cs a_t a_t_laws a_t_distance a_t_before a_t_lastScribe a_t_queue a_t_laws_made v_t_queued v_t_laws_scribes v_t_laws_books g_t_laws_made z1_1 g_t_before g_t_lastScribe g_t_queue) := hD
  refine lv_iload hx hb dX7_search_3 (lv_at hl 4 rfl) ?_
  refine lv_sipush (v := 625) hx hb dX7_search_5 (by decide) ?_
  refine lv_icmp_ge (tgt := 25) hx hb dX7_search_8 (by decide) (fun c_2 => ?_) (fun c_2 => ?_)
  · have hB := ifP c_2 hB
    refine lv_aload_n hx hb dX7_search_25 rfl (lv_at hl 0 rfl) ?_
    refine lv_iconst (v := 0) hx hb dX7_search_26 (by decide) ?_
    refine va_put (D := G) (ci := 7) (v := .int (0 : Int32)) (ty := .int) (C := RX7) (T := TX7) (N := 6) hx hb hg inX7 tyX7 tyX7_ok nmX7 hown hKT hP hD hS 0 rfl rfl 5 (by decide) (hg _ gF_X7_28) (fun _ h9 => h9) rfl (by decide +kernel) rfl rfl (Nat.le_of_ble_eq_true rfl) dX7_search_27 (fun H locs hP hD hS => ?_)
    have hP : va_P G vwCl (wd_X7_search cs a_t a_t_laws a_t_distance a_t_before a_t_lastScribe a_t_queue a_t_laws_made (0 : Int32) v_t_laws_scribes v_t_laws_books g_t_laws_made z1_1 g_t_before g_t_lastScribe g_t_queue) H := hP
    have hD : va_D A (wd_X7_search cs a_t a_t_laws a_t_distance a_t_before a_t_lastScribe a_t_queue a_t_laws_made (0 : Int32) v_t_laws_scribes v_t_laws_books g_t_laws_made z1_1 g_t_before g_t_lastScribe g_t_queue) := hD
    refine lv_aload_n hx hb dX7_search_30 rfl (lv_at hl 0 rfl) ?_
    refine lv_iload_n hx hb dX7_search_31 rfl (lv_at hl 1 rfl) ?_
    refine lv_iload_n hx hb dX7_search_32 rfl (lv_at hl 1 rfl) ?_
    refine lv_bipush (v := -9) hx hb dX7_search_33 (by decide) ?_
    refine lv_iconst (v := 0) hx hb dX7_search_35 (by decide) ?_
    obtain ⟨⟨q3_0, q3_1, q3_2, q3_3, q3_4⟩, hq3, hB⟩ := bnd hB
    refine kw_v (WC := wd_X7_find cs a_t a_t_laws a_t_distance a_t_before a_t_lastScribe a_t_queue (0 : Int32) z1_1 g_t_before g_t_lastScribe g_t_queue) (W1 := wd_X7_find cs a_t a_t_laws a_t_distance a_t_before a_t_lastScribe a_t_queue q3_0 q3_1 q3_2 q3_3 q3_4) (W2 := wd_X7_search cs a_t a_t_laws a_t_distance a_t_before a_t_lastScribe a_t_queue a_t_laws_made q3_0 v_t_laws_scribes v_t_laws_books g_t_laws_made q3_1 q3_2 q3_3 q3_4) (rw_V (As := [.int p1, .int p1, .int (-9 : Int32), .int (0 : Int32)]) (rest := []) ⟨hx, hb, hml, hown, hg⟩ (k_X7_find l G cs a_t a_t_laws a_t_distance a_t_before a_t_lastScribe a_t_queue (0 : Int32) z1_1 g_t_before g_t_lastScribe g_t_queue p1 p1 (-9 : Int32) (0 : Int32) H.size (q3_0, q3_1, q3_2, q3_3, q3_4) hq3) gM_X7_32 mI_X7_find (rmk rfl) hP hD hKT hN 0 rfl rfl [0, 3, 4, 5, 6] rfl rfl rfl hl.1 rfl (Nat.le_of_ble_eq_true rfl) dX7_search_36) hP hD hS hA [0, 3, 4, 5, 6] [1, 2] [2, 0, 1, 3, 4, 5, 6] ⟨rfl, rfl, rfl, rfl, rfl, rfl, rfl⟩ (fun H locs hP hD hS => ?_)
    refine lv_iconst (v := 0) hx hb dX7_search_39 (by decide) ?_
    refine lv_istore (lv' := [(4, .int (0 : Int32)), (0, .ref a_t), (1, .int p1), (2, .int p2), (3, .int p3)]) hx hb dX7_search_40 hl (by decide) rfl (fun ls hl => ?_)
    obtain ⟨y4, hB, hy4⟩ := bnd hB
    have hK := leafK hy4 hK
    have hK := elimR hK
    refine lp_ind (Wh := fun (z5 : Int32 × Int32 × (Nat → Int32) × (Nat → Int32) × (Nat → Int32) × (Nat → Int32)) => ∀ (H : Heap) (locs : List Loc), va_P G vwCl (wd_X7_search cs a_t a_t_laws a_t_distance a_t_before a_t_lastScribe a_t_queue a_t_laws_made z5.2.1 v_t_laws_scribes v_t_laws_books g_t_laws_made z5.2.2.1 z5.2.2.2.1 z5.2.2.2.2.1 z5.2.2.2.2.2) H → va_D A (wd_X7_search cs a_t a_t_laws a_t_distance a_t_before a_t_lastScribe a_t_queue a_t_laws_made z5.2.1 v_t_laws_scribes v_t_laws_books g_t_laws_made z5.2.2.1 z5.2.2.2.1 z5.2.2.2.2.1 z5.2.2.2.2.2) → va_S A s.heap H locs → ∀ (ls : Array Slot), lv_has ls 7 [(0, .ref a_t), (2, .int p2), (3, .int p3), (4, .int z5.1)] → W p l e rm_X7_search s m ([.ref a_t, .int p1, .int p2, .int p3] : List Value).toArray below meth c H locs 0 0 (MQ below (QcV G A (wd_X7_search cs a_t a_t_laws a_t_distance a_t_before a_t_lastScribe a_t_queue a_t_laws_made R0.1 v_t_laws_scribes v_t_laws_books g_t_laws_made R0.2.1 R0.2.2.1 R0.2.2.2.1 R0.2.2.2.2)) ([.ref a_t, .int p1, .int p2, .int p3] : List Value).toArray s 0 0 A) (F0 m 42 ls [])) ?_ FU _ _ hB hK H locs hP hD hS ls (lv_sub hl [1, 3, 4, 0] rfl)
    rintro ⟨z5_0, z5_1, z5_2, z5_3, z5_4, z5_5⟩ y hB hK H locs hP hD hS ls hl
    have hl : lv_has ls 7 [(0, .ref a_t), (2, .int p2), (3, .int p3), (4, .int z5_0)] := hl
    have hP : va_P G vwCl (wd_X7_search cs a_t a_t_laws a_t_distance a_t_before a_t_lastScribe a_t_queue a_t_laws_made z5_1 v_t_laws_scribes v_t_laws_books g_t_laws_made z5_2 z5_3 z5_4 z5_5) H := hP
    have hD : va_D A (wd_X7_search cs a_t a_t_laws a_t_distance a_t_before a_t_lastScribe a_t_queue a_t_laws_made z5_1 v_t_laws_scribes v_t_laws_books g_t_laws_made z5_2 z5_3 z5_4 z5_5) := hD
    refine lv_iload hx hb dX7_search_42 (lv_at hl 3 rfl) ?_
    refine lv_aload_n hx hb dX7_search_44 rfl (lv_at hl 0 rfl) ?_
    refine va_get (D := G) (ci := 7) (v := .int z5_1) (C := RX7) (T := TX7) (N := 6) hx hb hg inX7 hown hKT hP 0 rfl rfl 5 (by decide) (hg _ gF_X7_28) (fun _ h9 => h9) rfl dX7_search_45 ?_
    refine lv_icmp_ge (tgt := 135) hx hb dX7_search_48 (by decide) (fun c_6 => ?_) (fun c_6 => ?_)
    · have hB := ifP c_6 hB
      have hK := leafK hB hK
      have hK := elimR hK
      have hK : (z5_1, z5_2, z5_3, z5_4, z5_5) = R0 := hK
      subst hK
      exact W.vret hx hb hr (fun t ht hW => ⟨⟨(), rfl, trivial, by rw [ht]; exact hP, hD⟩, hS.F ht⟩) hS.2.2 dX7_search_135
    · have hB := ifN c_6 hB
      refine lv_iload hx hb dX7_search_51 (lv_at hl 3 rfl) ?_
      refine lv_sipush (v := 625) hx hb dX7_search_53 (by decide) ?_
      refine lv_icmp_ge (tgt := 135) hx hb dX7_search_56 (by decide) (fun c_7 => ?_) (fun c_7 => ?_)
      · have hB := ifP c_7 hB
        have hK := leafK hB hK
        have hK := elimR hK
        have hK : (z5_1, z5_2, z5_3, z5_4, z5_5) = R0 := hK
        subst hK
        exact W.vret hx hb hr (fun t ht hW => ⟨⟨(), rfl, trivial, by rw [ht]; exact hP, hD⟩, hS.F ht⟩) hS.2.2 dX7_search_135
      · have hB := ifN c_7 hB
        refine lv_aload_n hx hb dX7_search_59 rfl (lv_at hl 0 rfl) ?_
        refine lv_iload_n hx hb dX7_search_60 rfl (lv_at hl 2 rfl) ?_
        obtain ⟨q8, hq8, hB⟩ := bnd hB
        refine kr_V (WC := wd_X7_isFound cs a_t a_t_laws a_t_distance a_t_before a_t_lastScribe a_t_queue z5_1 z5_2) (As := [.int p3]) (rest := []) (r0 := q8) ⟨hx, hb, hml, hown, hg⟩ (k_X7_isFound l G cs a_t a_t_laws a_t_distance a_t_before a_t_lastScribe a_t_queue z5_1 z5_2 p3 q8 hq8) gM_X7_36 mI_X7_isFound (rmk rfl) hP hKT hN 0 rfl rfl [0, 3] rfl rfl hl.1 rfl (Nat.le_of_ble_eq_true rfl) dX7_search_61 ?_
        refine lv_if_ne (tgt := 135) hx hb dX7_search_64 (by decide) (fun c_9 => ?_) (fun c_9 => ?_)
        · have hB := ifN c_9 hB
          have hK := leafK hB hK
          have hK := elimR hK
          have hK : (z5_1, z5_2, z5_3, z5_4, z5_5) = R0 := hK
          subst hK
          exact W.vret hx hb hr (fun t ht hW => ⟨⟨(), rfl, trivial, by rw [ht]; exact hP, hD⟩, hS.F ht⟩) hS.2.2 dX7_search_135
        · have hB := ifP c_9 hB
          refine lv_aload_n hx hb dX7_search_67 rfl (lv_at hl 0 rfl) ?_
          refine va_get (D := G) (ci := 7) (v := .ref a_t_queue) (C := RX7) (T := TX7) (N := 6) hx hb hg inX7 hown hKT hP 0 rfl rfl 4 (by decide) (hg _ gF_X7_21) (fun _ h9 => h9) rfl dX7_search_68 ?_
          refine lv_iload hx hb dX7_search_71 (lv_at hl 3 rfl) ?_
          obtain ⟨h_10, hB⟩ := ifS hB
          refine va_iald hx hb hKT hP 6 0 rfl rfl h_10 dX7_search_73 ?_
          refine lv_istore (lv' := [(5, .int (z5_5 z5_0.toNatClampNeg)), (0, .ref a_t), (2, .int p2), (3, .int p3), (4, .int z5_0)]) hx hb dX7_search_74 hl (by decide) rfl (fun ls hl => ?_)
          refine lv_iconst (v := 0) hx hb dX7_search_76 (by decide) ?_
          refine lv_istore (lv' := [(6, .int (0 : Int32)), (5, .int (z5_5 z5_0.toNatClampNeg)), (0, .ref a_t), (2, .int p2), (3, .int p3), (4, .int z5_0)]) hx hb dX7_search_77 hl (by decide) rfl (fun ls hl => ?_)
          refine lp_ind (Wh := fun (z11 : Int32 × Int32 × (Nat → Int32) × (Nat → Int32) × (Nat → Int32) × (Nat → Int32)) => ∀ (H : Heap) (locs : List Loc), va_P G vwCl (wd_X7_search cs a_t a_t_laws a_t_distance a_t_before a_t_lastScribe a_t_queue a_t_laws_made z11.2.1 v_t_laws_scribes v_t_laws_books g_t_laws_made z11.2.2.1 z11.2.2.2.1 z11.2.2.2.2.1 z11.2.2.2.2.2) H → va_D A (wd_X7_search cs a_t a_t_laws a_t_distance a_t_before a_t_lastScribe a_t_queue a_t_laws_made z11.2.1 v_t_laws_scribes v_t_laws_books g_t_laws_made z11.2.2.1 z11.2.2.2.1 z11.2.2.2.2.1 z11.2.2.2.2.2) → va_S A s.heap H locs → ∀ (ls : Array Slot), lv_has ls 7 [(0, .ref a_t), (2, .int p2), (3, .int p3), (4, .int z5_0), (5, .int (z5_5 z5_0.toNatClampNeg)), (6, .int z11.1)] → W p l e rm_X7_search s m ([.ref a_t, .int p1, .int p2, .int p3] : List Value).toArray below meth c H locs 0 0 (MQ below (QcV G A (wd_X7_search cs a_t a_t_laws a_t_distance a_t_before a_t_lastScribe a_t_queue a_t_laws_made R0.1 v_t_laws_scribes v_t_laws_books g_t_laws_made R0.2.1 R0.2.2.1 R0.2.2.2.1 R0.2.2.2.2)) ([.ref a_t, .int p1, .int p2, .int p3] : List Value).toArray s 0 0 A) (F0 m 79 ls [])) ?_ FU _ _ hB hK H locs hP hD hS ls (lv_sub hl [2, 3, 4, 5, 1, 0] rfl)
          rintro ⟨z11_0, z11_1, z11_2, z11_3, z11_4, z11_5⟩ y hB hK H locs hP hD hS ls hl
          have hl : lv_has ls 7 [(0, .ref a_t), (2, .int p2), (3, .int p3), (4, .int z5_0), (5, .int (z5_5 z5_0.toNatClampNeg)), (6, .int z11_0)] := hl
          have hP : va_P G vwCl (wd_X7_search cs a_t a_t_laws a_t_distance a_t_before a_t_lastScribe a_t_queue a_t_laws_made z11_1 v_t_laws_scribes v_t_laws_books g_t_laws_made z11_2 z11_3 z11_4 z11_5) H := hP
          have hD : va_D A (wd_X7_search cs a_t a_t_laws a_t_distance a_t_before a_t_lastScribe a_t_queue a_t_laws_made z11_1 v_t_laws_scribes v_t_laws_books g_t_laws_made z11_2 z11_3 z11_4 z11_5) := hD
          refine lv_iload hx hb dX7_search_79 (lv_at hl 5 rfl) ?_
          refine lv_bipush (v := 6) hx hb dX7_search_81 (by decide) ?_
          refine lv_icmp_ge (tgt := 129) hx hb dX7_search_83 (by decide) (fun c_12 => ?_) (fun c_12 => ?_)
          · have hB := ifP c_12 hB
            refine lv_iinc (v := z5_0 + (1 : Int32)) (lv' := [(4, .int (z5_0 + (1 : Int32))), (0, .ref a_t), (2, .int p2), (3, .int p3), (5, .int (z5_5 z5_0.toNatClampNeg)), (6, .int z11_0)]) hx hb dX7_search_129 hl (k := 3) rfl (inc_ok (by decide)) (by decide) rfl (fun ls hl => ?_)
            refine lv_goto (tgt := 42) hx hb dX7_search_132 (by decide) ?_
            have hK := leafK hB hK
            have hK := elimR hK
            have hK := elimL hK
            exact hK H locs hP hD hS ls (lv_sub hl [1, 2, 3, 0] rfl)
          · have hB := ifN c_12 hB
            refine lv_iload_n hx hb dX7_search_86 rfl (lv_at hl 1 rfl) ?_
            refine lv_iload hx hb dX7_search_87 (lv_at hl 5 rfl) ?_
            refine lj_ishr hx hb dX7_search_89 ?_
            refine lv_iconst (v := 1) hx hb dX7_search_90 (by decide) ?_
            refine lv_iand hx hb dX7_search_91 ?_
            refine lv_iconst (v := 1) hx hb dX7_search_92 (by decide) ?_
            refine lv_icmp_ne (tgt := 123) hx hb dX7_search_93 (by decide) (fun c_13 => ?_) (fun c_13 => ?_)
            · have hB := ifN c_13 hB
              refine lv_iinc (v := z11_0 + (1 : Int32)) (lv' := [(6, .int (z11_0 + (1 : Int32))), (0, .ref a_t), (2, .int p2), (3, .int p3), (4, .int z5_0), (5, .int (z5_5 z5_0.toNatClampNeg))]) hx hb dX7_search_123 hl (k := 5) rfl (inc_ok (by decide)) (by decide) rfl (fun ls hl => ?_)
              refine lv_goto (tgt := 79) hx hb dX7_search_126 (by decide) ?_
              have hK := leafK hB hK
              have hK := elimL hK
              exact hK H locs hP hD hS ls (lv_sub hl [1, 2, 3, 4, 5, 0] rfl)
            · have hB := ifP c_13 hB
              refine lv_aload_n hx hb dX7_search_96 rfl (lv_at hl 0 rfl) ?_
              refine lv_aload_n hx hb dX7_search_97 rfl (lv_at hl 0 rfl) ?_
              refine va_get (D := G) (ci := 7) (v := .ref a_t_laws) (C := RX7) (T := TX7) (N := 6) hx hb hg inX7 hown hKT hP 0 rfl rfl 0 (by decide) (hg _ gF_X7_24) (fun _ h9 => h9) rfl dX7_search_98 ?_
              refine lv_iload hx hb dX7_search_101 (lv_at hl 5 rfl) ?_
              refine lv_iload hx hb dX7_search_103 (lv_at hl 4 rfl) ?_
              obtain ⟨q14, hq14, hB⟩ := bnd hB
              refine kr_VN (WC := wd_X1_copyBy cs a_t_laws a_t_laws_made v_t_laws_scribes v_t_laws_books g_t_laws_made) (As := [.int z11_0, .int (z5_5 z5_0.toNatClampNeg)]) (rest := [.ref a_t]) (r0 := q14) ⟨hx, hb, hml, hown, hg⟩ (k_X1_copyBy l G cs a_t_laws a_t_laws_made v_t_laws_scribes v_t_laws_books g_t_laws_made z11_0 (z5_5 z5_0.toNatClampNeg) q14 hq14) nM_X7_40_l mI_X1_copyBy (rmk rfl) hP hKT hN 1 rfl rfl [1, 2] rfl rfl hl.1 rfl (Nat.le_of_ble_eq_true rfl) dX7_search_105 ?_
              refine lv_iload hx hb dX7_search_108 (lv_at hl 4 rfl) ?_
              refine lv_iload hx hb dX7_search_110 (lv_at hl 5 rfl) ?_
              refine lv_aload_n hx hb dX7_search_112 rfl (lv_at hl 0 rfl) ?_
              refine lv_iload hx hb dX7_search_113 (lv_at hl 4 rfl) ?_
              obtain ⟨q15, hq15, hB⟩ := bnd hB
              refine kr_V (WC := wd_X7_distanceOf cs a_t a_t_laws a_t_distance a_t_before a_t_lastScribe a_t_queue z11_1 z11_2) (As := [.int (z5_5 z5_0.toNatClampNeg)]) (rest := [.int z11_0, .int (z5_5 z5_0.toNatClampNeg), .int q14, .ref a_t]) (r0 := q15) ⟨hx, hb, hml, hown, hg⟩ (k_X7_distanceOf l G cs a_t a_t_laws a_t_distance a_t_before a_t_lastScribe a_t_queue z11_1 z11_2 (z5_5 z5_0.toNatClampNeg) q15 hq15) gM_X7_46 mI_X7_distanceOf (rmk rfl) hP hKT hN 0 rfl rfl [0, 3] rfl rfl hl.1 rfl (Nat.le_of_ble_eq_true rfl) dX7_search_115 ?_
              refine lv_iconst (v := 1) hx hb dX7_search_118 (by decide) ?_
              refine lv_iadd hx hb dX7_search_119 ?_
              obtain ⟨⟨q16_0, q16_1, q16_2, q16_3, q16_4⟩, hq16, hB⟩ := bnd hB
              refine kw_v (WC := wd_X7_find cs a_t a_t_laws a_t_distance a_t_before a_t_lastScribe a_t_queue z11_1 z11_2 z11_3 z11_4 z11_5) (W1 := wd_X7_find cs a_t a_t_laws a_t_distance a_t_before a_t_lastScribe a_t_queue q16_0 q16_1 q16_2 q16_3 q16_4) (W2 := wd_X7_search cs a_t a_t_laws a_t_distance a_t_before a_t_lastScribe a_t_queue a_t_laws_made q16_0 v_t_laws_scribes v_t_laws_books g_t_laws_made q16_1 q16_2 q16_3 q16_4) (rw_V (As := [.int q14, .int (z5_5 z5_0.toNatClampNeg), .int z11_0, .int (q15 + (1 : Int32))]) (rest := []) ⟨hx, hb, hml, hown, hg⟩ (k_X7_find l G cs a_t a_t_laws a_t_distance a_t_before a_t_lastScribe a_t_queue z11_1 z11_2 z11_3 z11_4 z11_5 q14 (z5_5 z5_0.toNatClampNeg) z11_0 (q15 + (1 : Int32)) H.size (q16_0, q16_1, q16_2, q16_3, q16_4) hq16) gM_X7_32 mI_X7_find (rmk rfl) hP hD hKT hN 0 rfl rfl [0, 3, 4, 5, 6] rfl rfl rfl hl.1 rfl (Nat.le_of_ble_eq_true rfl) dX7_search_120) hP hD hS hA [0, 3, 4, 5, 6] [1, 2] [2, 0, 1, 3, 4, 5, 6] ⟨rfl, rfl, rfl, rfl, rfl, rfl, rfl⟩ (fun H locs hP hD hS => ?_)
              refine lv_iinc (v := z11_0 + (1 : Int32)) (lv' := [(6, .int (z11_0 + (1 : Int32))), (0, .ref a_t), (2, .int p2), (3, .int p3), (4, .int z5_0), (5, .int (z5_5 z5_0.toNatClampNeg))]) hx hb dX7_search_123 hl (k := 5) rfl (inc_ok (by decide)) (by decide) rfl (fun ls hl => ?_)
              refine lv_goto (tgt := 79) hx hb dX7_search_126 (by decide) ?_
              have hK := leafK hB hK
              have hK := elimL hK
              exact hK H locs hP hD hS ls (lv_sub hl [1, 2, 3, 4, 5, 0] rfl)
  · have hB := ifN c_2 hB
    refine lv_aload_n hx hb dX7_search_11 rfl (lv_at hl 0 rfl) ?_
    refine va_get (D := G) (ci := 7) (v := .ref a_t_distance) (C := RX7) (T := TX7) (N := 6) hx hb hg inX7 hown hKT hP 0 rfl rfl 1 (by decide) (hg _ gF_X7_9) (fun _ h9 => h9) rfl dX7_search_12 ?_
    refine lv_iload hx hb dX7_search_15 (lv_at hl 4 rfl) ?_
    refine lv_iconst (v := -1) hx hb dX7_search_17 (by decide) ?_
    obtain ⟨h_17, hB⟩ := ifS hB
    refine va_iast hx hb hKT hP hD hS 3 0 rfl rfl h_17 dX7_search_18 (fun H locs hP hD hS => ?_)
    have hP : va_P G vwCl (wd_X7_search cs a_t a_t_laws a_t_distance a_t_before a_t_lastScribe a_t_queue a_t_laws_made v_t_queued v_t_laws_scribes v_t_laws_books g_t_laws_made (upd z1_1 z1_0.toNatClampNeg (-1 : Int32)) g_t_before g_t_lastScribe g_t_queue) H := hP
    have hD : va_D A (wd_X7_search cs a_t a_t_laws a_t_distance a_t_before a_t_lastScribe a_t_queue a_t_laws_made v_t_queued v_t_laws_scribes v_t_laws_books g_t_laws_made (upd z1_1 z1_0.toNatClampNeg (-1 : Int32)) g_t_before g_t_lastScribe g_t_queue) := hD
    refine lv_iinc (v := z1_0 + (1 : Int32)) (lv' := [(4, .int (z1_0 + (1 : Int32))), (0, .ref a_t), (1, .int p1), (2, .int p2), (3, .int p3)]) hx hb dX7_search_19 hl (k := 4) rfl (inc_ok (by decide)) (by decide) rfl (fun ls hl => ?_)
    refine lv_goto (tgt := 3) hx hb dX7_search_22 (by decide) ?_
    have hK := leafK hB hK
    have hK := elimL hK
    exact hK H locs hP hD hS ls (lv_sub hl [1, 2, 3, 4, 0] rfl)
def wd_X7_fewestCopies (cs : Nat → ClassId) (a_t a_t_laws a_t_distance a_t_before a_t_lastScribe a_t_queue : Nat) (v_t_queued : Int32) (g_t_distance : Nat → Int32) : va_W := [(a_t, .inr (7, [.ref a_t_laws, .ref a_t_distance, .ref a_t_before, .ref a_t_lastScribe, .ref a_t_queue, .int v_t_queued])), (a_t_distance, .inl (cs 0, 625, .inl g_t_distance))]
def rm_X7_fewestCopies : Room := { frames := 3, cells := 0, slots := 0, locals := 62 }
theorem mI_X7_fewestCopies : MI yX7_fewestCopies RX7 cX7_fewestCopies 2 (some .int) 1 := ⟨gI_X7_fewestCopies, gE_X7_fewestCopies, gN_X7, gC_X7_fewestCopies, by decide +kernel⟩
set_option maxHeartbeats 4000000 in
set_option maxRecDepth 100000 in
theorem k_X7_fewestCopies (l : Launch) (G : va_G) (cs : Nat → ClassId) (a_t a_t_laws a_t_distance a_t_before a_t_lastScribe a_t_queue : Nat) (v_t_queued : Int32) (g_t_distance : Nat → Int32) (p1 : Int32) (R0 : Int32) (hB : f_X7_fewestCopies g_t_distance p1 = some R0) : Met l yX7_fewestCopies (.code yX7_fewestCopies cX7_fewestCopies 2 (some .int) :: GW) rm_X7_fewestCopies (PcR G cs [.ref a_t, .int p1] (wd_X7_fewestCopies cs a_t a_t_laws a_t_distance a_t_before a_t_lastScribe a_t_queue v_t_queued g_t_distance)) (vp_Si (fun r => r = R0)) 0 0 (fun _ => False) := by
  refine Met.ofW (cc := cX7_fewestCopies) (maxL := 2) (ret := (some .int)) (by decide) rfl ?_
  intro p e s m args below meth c s₁ B hml hv
  obtain ⟨rfl, hP, hK, hN⟩ := hv
  have hx := B.exec
  have hb := B.bytes
  have hr := B.returns
  have hts := atoms_spec (ws := .code yX7_fewestCopies cX7_fewestCopies 2 (some .int) :: GW) B.pre
  have hg : ∀ w ∈ GW, w.before _ s = true := fun w h => hts w (List.mem_cons_of_mem _ h)
  have hown : s.vm.findClass RX7 = some m.cls := findClass_of_methodNamed B.named
  have hlocks := B.notSynchronized
  have hl := lv_entry ([.ref a_t, .int p1]) (n := 2) (Nat.le_of_ble_eq_true rfl)
  rw [lg_entry_eq]
  generalize (lg_sl ([.ref a_t, .int p1]) ++ List.replicate (2 - (lg_sl ([.ref a_t, .int p1])).length) Slot.unset).toArray = ls at hl ⊢
  have hl : lv_has ls 2 [(0, .ref a_t), (1, .int p1)] := hl
  obtain ⟨y, hB, hK0⟩ : ∃ y, f_X7_fewestCopies g_t_distance p1 = some y ∧ KEnd R0 y := ⟨R0, hB, rfl⟩
  have hKT := hK
  have hK := hK0
  show W p l e rm_X7_fewestCopies s m ([.ref a_t, .int p1] : List Value).toArray below meth c s.heap [] 0 0 (MQ below (vp_Si (fun r => r = R0)) ([.ref a_t, .int p1] : List Value).toArray s 0 0 (fun _ => False)) (F0 m 0 ls [])
  refine lv_aload_n hx hb dX7_fewestCopies_0 rfl (lv_at hl 0 rfl) ?_
  refine lv_iload_n hx hb dX7_fewestCopies_1 rfl (lv_at hl 1 rfl) ?_
  obtain ⟨q1, hq1, hB⟩ := bnd hB
  refine kr_V (WC := wd_X7_isFound cs a_t a_t_laws a_t_distance a_t_before a_t_lastScribe a_t_queue v_t_queued g_t_distance) (As := [.int p1]) (rest := []) (r0 := q1) ⟨hx, hb, hml, hown, hg⟩ (k_X7_isFound l G cs a_t a_t_laws a_t_distance a_t_before a_t_lastScribe a_t_queue v_t_queued g_t_distance p1 q1 hq1) gM_X7_36 mI_X7_isFound (rmk rfl) hP hKT hN 0 rfl rfl [0, 1] rfl rfl hl.1 rfl (Nat.le_of_ble_eq_true rfl) dX7_fewestCopies_2 ?_
  refine lv_if_eq (tgt := 16) hx hb dX7_fewestCopies_5 (by decide) (fun c_2 => ?_) (fun c_2 => ?_)
  · have hB := ifP c_2 hB
    refine lv_bipush (v := -9) hx hb dX7_fewestCopies_16 (by decide) ?_
    have hK := leafK hB hK
    have hK : (-9 : Int32) = R0 := hK
    subst hK
    exact W.iret (v := (-9 : Int32)) hx hb hr (fun t ht hW => ⟨_, rfl, rfl, ht⟩) (fun _ h => by cases h) dX7_fewestCopies_18
  · have hB := ifN c_2 hB
    refine lv_aload_n hx hb dX7_fewestCopies_8 rfl (lv_at hl 0 rfl) ?_
    refine lv_iload_n hx hb dX7_fewestCopies_9 rfl (lv_at hl 1 rfl) ?_
    obtain ⟨q3, hq3, hB⟩ := bnd hB
    refine kr_V (WC := wd_X7_distanceOf cs a_t a_t_laws a_t_distance a_t_before a_t_lastScribe a_t_queue v_t_queued g_t_distance) (As := [.int p1]) (rest := []) (r0 := q3) ⟨hx, hb, hml, hown, hg⟩ (k_X7_distanceOf l G cs a_t a_t_laws a_t_distance a_t_before a_t_lastScribe a_t_queue v_t_queued g_t_distance p1 q3 hq3) gM_X7_46 mI_X7_distanceOf (rmk rfl) hP hKT hN 0 rfl rfl [0, 1] rfl rfl hl.1 rfl (Nat.le_of_ble_eq_true rfl) dX7_fewestCopies_10 ?_
    refine lv_goto (tgt := 18) hx hb dX7_fewestCopies_13 (by decide) ?_
    have hK := leafK hB hK
    have hK : q3 = R0 := hK
    subst hK
    exact W.iret (v := q3) hx hb hr (fun t ht hW => ⟨_, rfl, rfl, ht⟩) (fun _ h => by cases h) dX7_fewestCopies_18
def wd_X7_scribeOfCopy (cs : Nat → ClassId) (a_t a_t_laws a_t_distance a_t_before a_t_lastScribe a_t_queue : Nat) (v_t_queued : Int32) (g_t_distance : Nat → Int32) (g_t_before : Nat → Int32) (g_t_lastScribe : Nat → Int32) : va_W := [(a_t, .inr (7, [.ref a_t_laws, .ref a_t_distance, .ref a_t_before, .ref a_t_lastScribe, .ref a_t_queue, .int v_t_queued])), (a_t_distance, .inl (cs 0, 625, .inl g_t_distance)), (a_t_before, .inl (cs 0, 625, .inl g_t_before)), (a_t_lastScribe, .inl (cs 0, 625, .inl g_t_lastScribe))]
def rm_X7_scribeOfCopy : Room := { frames := 2, cells := 0, slots := 0, locals := 41 }
theorem mI_X7_scribeOfCopy : MI yX7_scribeOfCopy RX7 cX7_scribeOfCopy 5 (some .int) 2 := ⟨gI_X7_scribeOfCopy, gE_X7_scribeOfCopy, gN_X7, gC_X7_scribeOfCopy, by decide +kernel⟩
set_option maxHeartbeats 4000000 in
set_option maxRecDepth 100000 in
theorem k_X7_scribeOfCopy (l : Launch) (G : va_G) (cs : Nat → ClassId) (a_t a_t_laws a_t_distance a_t_before a_t_lastScribe a_t_queue : Nat) (v_t_queued : Int32) (g_t_distance : Nat → Int32) (g_t_before : Nat → Int32) (g_t_lastScribe : Nat → Int32) (p1 p2 : Int32) (R0 : Int32) (hB : f_X7_scribeOfCopy g_t_distance g_t_before g_t_lastScribe p1 p2 = some R0) : Met l yX7_scribeOfCopy (.code yX7_scribeOfCopy cX7_scribeOfCopy 5 (some .int) :: GW) rm_X7_scribeOfCopy (PcR G cs [.ref a_t, .int p1, .int p2] (wd_X7_scribeOfCopy cs a_t a_t_laws a_t_distance a_t_before a_t_lastScribe a_t_queue v_t_queued g_t_distance g_t_before g_t_lastScribe)) (vp_Si (fun r => r = R0)) 0 0 (fun _ => False) := by
  refine Met.ofW (cc := cX7_scribeOfCopy) (maxL := 5) (ret := (some .int)) (by decide) rfl ?_
  intro p e s m args below meth c s₁ B hml hv
  obtain ⟨rfl, hP, hK, hN⟩ := hv
  have hx := B.exec
  have hb := B.bytes
  have hr := B.returns
  have hts := atoms_spec (ws := .code yX7_scribeOfCopy cX7_scribeOfCopy 5 (some .int) :: GW) B.pre
  have hg : ∀ w ∈ GW, w.before _ s = true := fun w h => hts w (List.mem_cons_of_mem _ h)
  have hown : s.vm.findClass RX7 = some m.cls := findClass_of_methodNamed B.named
  have hlocks := B.notSynchronized
  have hl := lv_entry ([.ref a_t, .int p1, .int p2]) (n := 5) (Nat.le_of_ble_eq_true rfl)
  rw [lg_entry_eq]
  generalize (lg_sl ([.ref a_t, .int p1, .int p2]) ++ List.replicate (5 - (lg_sl ([.ref a_t, .int p1, .int p2])).length) Slot.unset).toArray = ls at hl ⊢
  have hl : lv_has ls 5 [(0, .ref a_t), (1, .int p1), (2, .int p2)] := hl
  obtain ⟨y, hB, hK0⟩ : ∃ y, f_X7_scribeOfCopy g_t_distance g_t_before g_t_lastScribe p1 p2 = some y ∧ KEnd R0 y := ⟨R0, hB, rfl⟩
  have hKT := hK
  have hK := hK0
  show W p l e rm_X7_scribeOfCopy s m ([.ref a_t, .int p1, .int p2] : List Value).toArray below meth c s.heap [] 0 0 (MQ below (vp_Si (fun r => r = R0)) ([.ref a_t, .int p1, .int p2] : List Value).toArray s 0 0 (fun _ => False)) (F0 m 0 ls [])
  refine lv_iload_n hx hb dX7_scribeOfCopy_0 rfl (lv_at hl 2 rfl) ?_
  refine lv_if_lt (tgt := 13) hx hb dX7_scribeOfCopy_1 (by decide) (fun c_1 => ?_) (fun c_1 => ?_)
  · have hB := ifP c_1 hB
    refine lv_bipush (v := -9) hx hb dX7_scribeOfCopy_13 (by decide) ?_
    have hK := leafK hB hK
    have hK : (-9 : Int32) = R0 := hK
    subst hK
    exact W.iret (v := (-9 : Int32)) hx hb hr (fun t ht hW => ⟨_, rfl, rfl, ht⟩) (fun _ h => by cases h) dX7_scribeOfCopy_15
  · have hB := ifN c_1 hB
    refine lv_iload_n hx hb dX7_scribeOfCopy_4 rfl (lv_at hl 2 rfl) ?_
    refine lv_aload_n hx hb dX7_scribeOfCopy_5 rfl (lv_at hl 0 rfl) ?_
    refine lv_iload_n hx hb dX7_scribeOfCopy_6 rfl (lv_at hl 1 rfl) ?_
    obtain ⟨q2, hq2, hB⟩ := bnd hB
    refine kr_V (WC := wd_X7_distanceOf cs a_t a_t_laws a_t_distance a_t_before a_t_lastScribe a_t_queue v_t_queued g_t_distance) (As := [.int p1]) (rest := [.int p2]) (r0 := q2) ⟨hx, hb, hml, hown, hg⟩ (k_X7_distanceOf l G cs a_t a_t_laws a_t_distance a_t_before a_t_lastScribe a_t_queue v_t_queued g_t_distance p1 q2 hq2) gM_X7_46 mI_X7_distanceOf (rmk rfl) hP hKT hN 0 rfl rfl [0, 1] rfl rfl hl.1 rfl (Nat.le_of_ble_eq_true rfl) dX7_scribeOfCopy_7 ?_
    refine lv_icmp_lt (tgt := 16) hx hb dX7_scribeOfCopy_10 (by decide) (fun c_3 => ?_) (fun c_3 => ?_)
    · have hB := ifP c_3 hB
      refine lv_iload_n hx hb dX7_scribeOfCopy_16 rfl (lv_at hl 1 rfl) ?_
      refine lv_istore_n (lv' := [(3, .int p1), (0, .ref a_t), (1, .int p1), (2, .int p2)]) hx hb dX7_scribeOfCopy_17 rfl hl (by decide) rfl (fun ls hl => ?_)
      refine lv_iconst (v := 0) hx hb dX7_scribeOfCopy_18 (by decide) ?_
      refine lv_istore (lv' := [(4, .int (0 : Int32)), (3, .int p1), (0, .ref a_t), (1, .int p1), (2, .int p2)]) hx hb dX7_scribeOfCopy_19 hl (by decide) rfl (fun ls hl => ?_)
      refine lp_ind (Wh := fun (z4 : Int32 × Int32) => ∀ (ls : Array Slot), lv_has ls 5 [(0, .ref a_t), (2, .int p2), (3, .int z4.1), (4, .int z4.2)] → W p l e rm_X7_scribeOfCopy s m ([.ref a_t, .int p1, .int p2] : List Value).toArray below meth c s.heap [] 0 0 (MQ below (vp_Si (fun r => r = R0)) ([.ref a_t, .int p1, .int p2] : List Value).toArray s 0 0 (fun _ => False)) (F0 m 21 ls [])) ?_ FU _ _ hB hK ls (lv_sub hl [2, 4, 1, 0] rfl)
      rintro ⟨z4_0, z4_1⟩ y hB hK ls hl
      have hl : lv_has ls 5 [(0, .ref a_t), (2, .int p2), (3, .int z4_0), (4, .int z4_1)] := hl
      refine lv_iload hx hb dX7_scribeOfCopy_21 (lv_at hl 3 rfl) ?_
      refine lv_sipush (v := 625) hx hb dX7_scribeOfCopy_23 (by decide) ?_
      refine lv_icmp_ge (tgt := 60) hx hb dX7_scribeOfCopy_26 (by decide) (fun c_5 => ?_) (fun c_5 => ?_)
      · have hB := ifP c_5 hB
        refine lv_iload_n hx hb dX7_scribeOfCopy_60 rfl (lv_at hl 2 rfl) ?_
        obtain ⟨q6, hq6, hB⟩ := bnd hB
        refine kr_S (WC := wd_X7_isBook cs ) (As := [.int z4_0]) (rest := []) (r0 := q6) ⟨hx, hb, hml, hown, hg⟩ (k_X7_isBook l G cs z4_0 q6 hq6) gM_X7_50 mS_X7_isBook (rmk rfl) hP hKT hN [] rfl rfl hl.1 rfl (Nat.le_of_ble_eq_true rfl) dX7_scribeOfCopy_61 ?_
        refine lv_if_eq (tgt := 76) hx hb dX7_scribeOfCopy_64 (by decide) (fun c_7 => ?_) (fun c_7 => ?_)
        · have hB := ifP c_7 hB
          refine lv_bipush (v := -9) hx hb dX7_scribeOfCopy_76 (by decide) ?_
          have hK := leafK hB hK
          have hK := elimR hK
          have hK : (-9 : Int32) = R0 := hK
          subst hK
          exact W.iret (v := (-9 : Int32)) hx hb hr (fun t ht hW => ⟨_, rfl, rfl, ht⟩) (fun _ h => by cases h) dX7_scribeOfCopy_78
        · have hB := ifN c_7 hB
          refine lv_aload_n hx hb dX7_scribeOfCopy_67 rfl (lv_at hl 0 rfl) ?_
          refine va_get (D := G) (ci := 7) (v := .ref a_t_lastScribe) (C := RX7) (T := TX7) (N := 6) hx hb hg inX7 hown hKT hP 0 rfl rfl 3 (by decide) (hg _ gF_X7_18) (fun _ h9 => h9) rfl dX7_scribeOfCopy_68 ?_
          refine lv_iload_n hx hb dX7_scribeOfCopy_71 rfl (lv_at hl 2 rfl) ?_
          obtain ⟨h_8, hB⟩ := ifS hB
          refine va_iald hx hb hKT hP 3 0 rfl rfl h_8 dX7_scribeOfCopy_72 ?_
          refine lv_goto (tgt := 78) hx hb dX7_scribeOfCopy_73 (by decide) ?_
          have hK := leafK hB hK
          have hK := elimR hK
          have hK : (g_t_lastScribe z4_0.toNatClampNeg) = R0 := hK
          subst hK
          exact W.iret (v := g_t_lastScribe z4_0.toNatClampNeg) hx hb hr (fun t ht hW => ⟨_, rfl, rfl, ht⟩) (fun _ h => by cases h) dX7_scribeOfCopy_78
      · have hB := ifN c_5 hB
        refine lv_iload_n hx hb dX7_scribeOfCopy_29 rfl (lv_at hl 2 rfl) ?_
        obtain ⟨q9, hq9, hB⟩ := bnd hB
        refine kr_S (WC := wd_X7_isBook cs ) (As := [.int z4_0]) (rest := []) (r0 := q9) ⟨hx, hb, hml, hown, hg⟩ (k_X7_isBook l G cs z4_0 q9 hq9) gM_X7_50 mS_X7_isBook (rmk rfl) hP hKT hN [] rfl rfl hl.1 rfl (Nat.le_of_ble_eq_true rfl) dX7_scribeOfCopy_30 ?_
        refine lv_if_eq (tgt := 60) hx hb dX7_scribeOfCopy_33 (by decide) (fun c_10 => ?_) (fun c_10 => ?_)
        · have hB := ifP c_10 hB
          refine lv_iload_n hx hb dX7_scribeOfCopy_60 rfl (lv_at hl 2 rfl) ?_
          obtain ⟨q11, hq11, hB⟩ := bnd hB
          refine kr_S (WC := wd_X7_isBook cs ) (As := [.int z4_0]) (rest := []) (r0 := q11) ⟨hx, hb, hml, hown, hg⟩ (k_X7_isBook l G cs z4_0 q11 hq11) gM_X7_50 mS_X7_isBook (rmk rfl) hP hKT hN [] rfl rfl hl.1 rfl (Nat.le_of_ble_eq_true rfl) dX7_scribeOfCopy_61 ?_
          refine lv_if_eq (tgt := 76) hx hb dX7_scribeOfCopy_64 (by decide) (fun c_12 => ?_) (fun c_12 => ?_)
          · have hB := ifP c_12 hB
            refine lv_bipush (v := -9) hx hb dX7_scribeOfCopy_76 (by decide) ?_
            have hK := leafK hB hK
            have hK := elimR hK
            have hK : (-9 : Int32) = R0 := hK
            subst hK
            exact W.iret (v := (-9 : Int32)) hx hb hr (fun t ht hW => ⟨_, rfl, rfl, ht⟩) (fun _ h => by cases h) dX7_scribeOfCopy_78
          · have hB := ifN c_12 hB
            refine lv_aload_n hx hb dX7_scribeOfCopy_67 rfl (lv_at hl 0 rfl) ?_
            refine va_get (D := G) (ci := 7) (v := .ref a_t_lastScribe) (C := RX7) (T := TX7) (N := 6) hx hb hg inX7 hown hKT hP 0 rfl rfl 3 (by decide) (hg _ gF_X7_18) (fun _ h9 => h9) rfl dX7_scribeOfCopy_68 ?_
            refine lv_iload_n hx hb dX7_scribeOfCopy_71 rfl (lv_at hl 2 rfl) ?_
            obtain ⟨h_13, hB⟩ := ifS hB
            refine va_iald hx hb hKT hP 3 0 rfl rfl h_13 dX7_scribeOfCopy_72 ?_
            refine lv_goto (tgt := 78) hx hb dX7_scribeOfCopy_73 (by decide) ?_
            have hK := leafK hB hK
            have hK := elimR hK
            have hK : (g_t_lastScribe z4_0.toNatClampNeg) = R0 := hK
            subst hK
            exact W.iret (v := g_t_lastScribe z4_0.toNatClampNeg) hx hb hr (fun t ht hW => ⟨_, rfl, rfl, ht⟩) (fun _ h => by cases h) dX7_scribeOfCopy_78
        · have hB := ifN c_10 hB
          refine lv_aload_n hx hb dX7_scribeOfCopy_36 rfl (lv_at hl 0 rfl) ?_
          refine lv_iload_n hx hb dX7_scribeOfCopy_37 rfl (lv_at hl 2 rfl) ?_
          obtain ⟨q14, hq14, hB⟩ := bnd hB
          refine kr_V (WC := wd_X7_distanceOf cs a_t a_t_laws a_t_distance a_t_before a_t_lastScribe a_t_queue v_t_queued g_t_distance) (As := [.int z4_0]) (rest := []) (r0 := q14) ⟨hx, hb, hml, hown, hg⟩ (k_X7_distanceOf l G cs a_t a_t_laws a_t_distance a_t_before a_t_lastScribe a_t_queue v_t_queued g_t_distance z4_0 q14 hq14) gM_X7_46 mI_X7_distanceOf (rmk rfl) hP hKT hN 0 rfl rfl [0, 1] rfl rfl hl.1 rfl (Nat.le_of_ble_eq_true rfl) dX7_scribeOfCopy_38 ?_
          refine lv_iload_n hx hb dX7_scribeOfCopy_41 rfl (lv_at hl 1 rfl) ?_
          refine lv_iconst (v := 1) hx hb dX7_scribeOfCopy_42 (by decide) ?_
          refine lv_iadd hx hb dX7_scribeOfCopy_43 ?_
          refine lv_icmp_le (tgt := 60) hx hb dX7_scribeOfCopy_44 (by decide) (fun c_15 => ?_) (fun c_15 => ?_)
          · have hB := ifP c_15 hB
            refine lv_iload_n hx hb dX7_scribeOfCopy_60 rfl (lv_at hl 2 rfl) ?_
            obtain ⟨q16, hq16, hB⟩ := bnd hB
            refine kr_S (WC := wd_X7_isBook cs ) (As := [.int z4_0]) (rest := []) (r0 := q16) ⟨hx, hb, hml, hown, hg⟩ (k_X7_isBook l G cs z4_0 q16 hq16) gM_X7_50 mS_X7_isBook (rmk rfl) hP hKT hN [] rfl rfl hl.1 rfl (Nat.le_of_ble_eq_true rfl) dX7_scribeOfCopy_61 ?_
            refine lv_if_eq (tgt := 76) hx hb dX7_scribeOfCopy_64 (by decide) (fun c_17 => ?_) (fun c_17 => ?_)
            · have hB := ifP c_17 hB
              refine lv_bipush (v := -9) hx hb dX7_scribeOfCopy_76 (by decide) ?_
              have hK := leafK hB hK
              have hK := elimR hK
              have hK : (-9 : Int32) = R0 := hK
              subst hK
              exact W.iret (v := (-9 : Int32)) hx hb hr (fun t ht hW => ⟨_, rfl, rfl, ht⟩) (fun _ h => by cases h) dX7_scribeOfCopy_78
            · have hB := ifN c_17 hB
              refine lv_aload_n hx hb dX7_scribeOfCopy_67 rfl (lv_at hl 0 rfl) ?_
              refine va_get (D := G) (ci := 7) (v := .ref a_t_lastScribe) (C := RX7) (T := TX7) (N := 6) hx hb hg inX7 hown hKT hP 0 rfl rfl 3 (by decide) (hg _ gF_X7_18) (fun _ h9 => h9) rfl dX7_scribeOfCopy_68 ?_
              refine lv_iload_n hx hb dX7_scribeOfCopy_71 rfl (lv_at hl 2 rfl) ?_
              obtain ⟨h_18, hB⟩ := ifS hB
              refine va_iald hx hb hKT hP 3 0 rfl rfl h_18 dX7_scribeOfCopy_72 ?_
              refine lv_goto (tgt := 78) hx hb dX7_scribeOfCopy_73 (by decide) ?_
              have hK := leafK hB hK
              have hK := elimR hK
              have hK : (g_t_lastScribe z4_0.toNatClampNeg) = R0 := hK
              subst hK
              exact W.iret (v := g_t_lastScribe z4_0.toNatClampNeg) hx hb hr (fun t ht hW => ⟨_, rfl, rfl, ht⟩) (fun _ h => by cases h) dX7_scribeOfCopy_78
          · have hB := ifN c_15 hB
            refine lv_aload_n hx hb dX7_scribeOfCopy_47 rfl (lv_at hl 0 rfl) ?_
            refine va_get (D := G) (ci := 7) (v := .ref a_t_before) (C := RX7) (T := TX7) (N := 6) hx hb hg inX7 hown hKT hP 0 rfl rfl 2 (by decide) (hg _ gF_X7_15) (fun _ h9 => h9) rfl dX7_scribeOfCopy_48 ?_
            refine lv_iload_n hx hb dX7_scribeOfCopy_51 rfl (lv_at hl 2 rfl) ?_
            obtain ⟨h_19, hB⟩ := ifS hB
            refine va_iald hx hb hKT hP 2 0 rfl rfl h_19 dX7_scribeOfCopy_52 ?_
            refine lv_istore_n (lv' := [(3, .int (g_t_before z4_0.toNatClampNeg)), (0, .ref a_t), (2, .int p2), (4, .int z4_1)]) hx hb dX7_scribeOfCopy_53 rfl hl (by decide) rfl (fun ls hl => ?_)
            refine lv_iinc (v := z4_1 + (1 : Int32)) (lv' := [(4, .int (z4_1 + (1 : Int32))), (3, .int (g_t_before z4_0.toNatClampNeg)), (0, .ref a_t), (2, .int p2)]) hx hb dX7_scribeOfCopy_54 hl (k := 3) rfl (inc_ok (by decide)) (by decide) rfl (fun ls hl => ?_)
            refine lv_goto (tgt := 21) hx hb dX7_scribeOfCopy_57 (by decide) ?_
            have hK := leafK hB hK
            have hK := elimL hK
            exact hK ls (lv_sub hl [2, 3, 1, 0] rfl)
    · have hB := ifN c_3 hB
      refine lv_bipush (v := -9) hx hb dX7_scribeOfCopy_13 (by decide) ?_
      have hK := leafK hB hK
      have hK : (-9 : Int32) = R0 := hK
      subst hK
      exact W.iret (v := (-9 : Int32)) hx hb hr (fun t ht hW => ⟨_, rfl, rfl, ht⟩) (fun _ h => by cases h) dX7_scribeOfCopy_15
def wd_X7_countBefore (cs : Nat → ClassId) (a_t a_t_laws a_t_distance a_t_before a_t_lastScribe a_t_queue a_t_laws_made : Nat) (v_t_queued : Int32) (v_t_laws_scribes : Int32) (v_t_laws_books : Int32) (g_t_laws_made : Nat → Int32) : va_W := [(a_t, .inr (7, [.ref a_t_laws, .ref a_t_distance, .ref a_t_before, .ref a_t_lastScribe, .ref a_t_queue, .int v_t_queued])), (a_t_laws, .inr (1, [.ref a_t_laws_made, .int v_t_laws_scribes, .int v_t_laws_books])), (a_t_laws_made, .inl (cs 0, 3750, .inl g_t_laws_made))]
def rm_X7_countBefore : Room := { frames := 1, cells := 0, slots := 0, locals := 22 }
theorem mI_X7_countBefore : MI yX7_countBefore RX7 cX7_countBefore 5 (some .int) 2 := ⟨gI_X7_countBefore, gE_X7_countBefore, gN_X7, gC_X7_countBefore, by decide +kernel⟩
set_option maxHeartbeats 4000000 in
set_option maxRecDepth 100000 in
theorem k_X7_countBefore (l : Launch) (G : va_G) (cs : Nat → ClassId) (a_t a_t_laws a_t_distance a_t_before a_t_lastScribe a_t_queue a_t_laws_made : Nat) (v_t_queued : Int32) (v_t_laws_scribes : Int32) (v_t_laws_books : Int32) (g_t_laws_made : Nat → Int32) (p1 p2 : Int32) (R0 : Int32) (hB : f_X7_countBefore v_t_laws_scribes v_t_laws_books g_t_laws_made p1 p2 = some R0) : Met l yX7_countBefore (.code yX7_countBefore cX7_countBefore 5 (some .int) :: GW) rm_X7_countBefore (PcR G cs [.ref a_t, .int p1, .int p2] (wd_X7_countBefore cs a_t a_t_laws a_t_distance a_t_before a_t_lastScribe a_t_queue a_t_laws_made v_t_queued v_t_laws_scribes v_t_laws_books g_t_laws_made)) (vp_Si (fun r => r = R0)) 0 0 (fun _ => False) := by
  refine Met.ofW (cc := cX7_countBefore) (maxL := 5) (ret := (some .int)) (by decide) rfl ?_
  intro p e s m args below meth c s₁ B hml hv
  obtain ⟨rfl, hP, hK, hN⟩ := hv
  have hx := B.exec
  have hb := B.bytes
  have hr := B.returns
  have hts := atoms_spec (ws := .code yX7_countBefore cX7_countBefore 5 (some .int) :: GW) B.pre
  have hg : ∀ w ∈ GW, w.before _ s = true := fun w h => hts w (List.mem_cons_of_mem _ h)
  have hown : s.vm.findClass RX7 = some m.cls := findClass_of_methodNamed B.named
  have hlocks := B.notSynchronized
  have hl := lv_entry ([.ref a_t, .int p1, .int p2]) (n := 5) (Nat.le_of_ble_eq_true rfl)
  rw [lg_entry_eq]
  generalize (lg_sl ([.ref a_t, .int p1, .int p2]) ++ List.replicate (5 - (lg_sl ([.ref a_t, .int p1, .int p2])).length) Slot.unset).toArray = ls at hl ⊢
  have hl : lv_has ls 5 [(0, .ref a_t), (1, .int p1), (2, .int p2)] := hl
  obtain ⟨y, hB, hK0⟩ : ∃ y, f_X7_countBefore v_t_laws_scribes v_t_laws_books g_t_laws_made p1 p2 = some y ∧ KEnd R0 y := ⟨R0, hB, rfl⟩
  have hKT := hK
  have hK := hK0
  show W p l e rm_X7_countBefore s m ([.ref a_t, .int p1, .int p2] : List Value).toArray below meth c s.heap [] 0 0 (MQ below (vp_Si (fun r => r = R0)) ([.ref a_t, .int p1, .int p2] : List Value).toArray s 0 0 (fun _ => False)) (F0 m 0 ls [])
  refine lv_iconst (v := 0) hx hb dX7_countBefore_0 (by decide) ?_
  refine lv_istore_n (lv' := [(3, .int (0 : Int32)), (0, .ref a_t), (1, .int p1), (2, .int p2)]) hx hb dX7_countBefore_1 rfl hl (by decide) rfl (fun ls hl => ?_)
  refine lv_iconst (v := 0) hx hb dX7_countBefore_2 (by decide) ?_
  refine lv_istore (lv' := [(4, .int (0 : Int32)), (3, .int (0 : Int32)), (0, .ref a_t), (1, .int p1), (2, .int p2)]) hx hb dX7_countBefore_3 hl (by decide) rfl (fun ls hl => ?_)
  refine lp_ind (Wh := fun (z1 : Int32 × Int32) => ∀ (ls : Array Slot), lv_has ls 5 [(0, .ref a_t), (1, .int p1), (2, .int p2), (3, .int z1.1), (4, .int z1.2)] → W p l e rm_X7_countBefore s m ([.ref a_t, .int p1, .int p2] : List Value).toArray below meth c s.heap [] 0 0 (MQ below (vp_Si (fun r => r = R0)) ([.ref a_t, .int p1, .int p2] : List Value).toArray s 0 0 (fun _ => False)) (F0 m 5 ls [])) ?_ FU _ _ hB hK ls (lv_sub hl [2, 3, 4, 1, 0] rfl)
  rintro ⟨z1_0, z1_1⟩ y hB hK ls hl
  have hl : lv_has ls 5 [(0, .ref a_t), (1, .int p1), (2, .int p2), (3, .int z1_0), (4, .int z1_1)] := hl
  refine lv_iload hx hb dX7_countBefore_5 (lv_at hl 4 rfl) ?_
  refine lv_aload_n hx hb dX7_countBefore_7 rfl (lv_at hl 0 rfl) ?_
  refine va_get (D := G) (ci := 7) (v := .ref a_t_laws) (C := RX7) (T := TX7) (N := 6) hx hb hg inX7 hown hKT hP 0 rfl rfl 0 (by decide) (hg _ gF_X7_24) (fun _ h9 => h9) rfl dX7_countBefore_8 ?_
  refine va_getN (D := G) (ci := 1) (v := .int v_t_laws_books) (C := RX1) (T := TX1) (N := 3) hx hb hg inX1 hown hKT hP 1 rfl rfl 2 (by decide) (va_Nw.use rfl (hN _ nF_X7_53_l rfl)) (fun _ h9 => h9) rfl dX7_countBefore_11 ?_
  refine lv_icmp_ge (tgt := 40) hx hb dX7_countBefore_14 (by decide) (fun c_2 => ?_) (fun c_2 => ?_)
  · have hB := ifP c_2 hB
    refine lv_iload_n hx hb dX7_countBefore_40 rfl (lv_at hl 3 rfl) ?_
    have hK := leafK hB hK
    have hK := elimR hK
    have hK : z1_0 = R0 := hK
    subst hK
    exact W.iret (v := z1_0) hx hb hr (fun t ht hW => ⟨_, rfl, rfl, ht⟩) (fun _ h => by cases h) dX7_countBefore_41
  · have hB := ifN c_2 hB
    refine lv_aload_n hx hb dX7_countBefore_17 rfl (lv_at hl 0 rfl) ?_
    refine va_get (D := G) (ci := 7) (v := .ref a_t_laws) (C := RX7) (T := TX7) (N := 6) hx hb hg inX7 hown hKT hP 0 rfl rfl 0 (by decide) (hg _ gF_X7_24) (fun _ h9 => h9) rfl dX7_countBefore_18 ?_
    refine lv_iload_n hx hb dX7_countBefore_21 rfl (lv_at hl 1 rfl) ?_
    refine lv_iload hx hb dX7_countBefore_22 (lv_at hl 4 rfl) ?_
    obtain ⟨q3, hq3, hB⟩ := bnd hB
    refine kr_VN (WC := wd_X1_copyBy cs a_t_laws a_t_laws_made v_t_laws_scribes v_t_laws_books g_t_laws_made) (As := [.int p1, .int z1_1]) (rest := []) (r0 := q3) ⟨hx, hb, hml, hown, hg⟩ (k_X1_copyBy l G cs a_t_laws a_t_laws_made v_t_laws_scribes v_t_laws_books g_t_laws_made p1 z1_1 q3 hq3) nM_X7_40_l mI_X1_copyBy (rmk rfl) hP hKT hN 1 rfl rfl [1, 2] rfl rfl hl.1 rfl (Nat.le_of_ble_eq_true rfl) dX7_countBefore_24 ?_
    refine lv_iload_n hx hb dX7_countBefore_27 rfl (lv_at hl 2 rfl) ?_
    refine lv_icmp_ne (tgt := 34) hx hb dX7_countBefore_28 (by decide) (fun c_4 => ?_) (fun c_4 => ?_)
    · have hB := ifN c_4 hB
      refine lv_iinc (v := z1_1 + (1 : Int32)) (lv' := [(4, .int (z1_1 + (1 : Int32))), (0, .ref a_t), (1, .int p1), (2, .int p2), (3, .int z1_0)]) hx hb dX7_countBefore_34 hl (k := 4) rfl (inc_ok (by decide)) (by decide) rfl (fun ls hl => ?_)
      refine lv_goto (tgt := 5) hx hb dX7_countBefore_37 (by decide) ?_
      have hK := leafK hB hK
      have hK := elimL hK
      exact hK ls (lv_sub hl [1, 2, 3, 4, 0] rfl)
    · have hB := ifP c_4 hB
      refine lv_iinc (v := z1_0 + (1 : Int32)) (lv' := [(3, .int (z1_0 + (1 : Int32))), (0, .ref a_t), (1, .int p1), (2, .int p2), (4, .int z1_1)]) hx hb dX7_countBefore_31 hl (k := 3) rfl (inc_ok (by decide)) (by decide) rfl (fun ls hl => ?_)
      refine lv_iinc (v := z1_1 + (1 : Int32)) (lv' := [(4, .int (z1_1 + (1 : Int32))), (3, .int (z1_0 + (1 : Int32))), (0, .ref a_t), (1, .int p1), (2, .int p2)]) hx hb dX7_countBefore_34 hl (k := 4) rfl (inc_ok (by decide)) (by decide) rfl (fun ls hl => ?_)
      refine lv_goto (tgt := 5) hx hb dX7_countBefore_37 (by decide) ?_
      have hK := leafK hB hK
      have hK := elimL hK
      exact hK ls (lv_sub hl [2, 3, 4, 1, 0] rfl)
def wd_X7_lastCopiers (cs : Nat → ClassId) (a_t a_t_laws a_t_distance a_t_before a_t_lastScribe a_t_queue a_t_laws_made : Nat) (v_t_queued : Int32) (v_t_laws_scribes : Int32) (v_t_laws_books : Int32) (g_t_laws_made : Nat → Int32) : va_W := [(a_t, .inr (7, [.ref a_t_laws, .ref a_t_distance, .ref a_t_before, .ref a_t_lastScribe, .ref a_t_queue, .int v_t_queued])), (a_t_laws, .inr (1, [.ref a_t_laws_made, .int v_t_laws_scribes, .int v_t_laws_books])), (a_t_laws_made, .inl (cs 0, 3750, .inl g_t_laws_made))]
def rm_X7_lastCopiers : Room := { frames := 2, cells := 0, slots := 0, locals := 46 }
theorem mI_X7_lastCopiers : MI yX7_lastCopiers RX7 cX7_lastCopiers 4 (some .int) 1 := ⟨gI_X7_lastCopiers, gE_X7_lastCopiers, gN_X7, gC_X7_lastCopiers, by decide +kernel⟩
set_option maxHeartbeats 4000000 in
set_option maxRecDepth 100000 in
theorem k_X7_lastCopiers (l : Launch) (G : va_G) (cs : Nat → ClassId) (a_t a_t_laws a_t_distance a_t_before a_t_lastScribe a_t_queue a_t_laws_made : Nat) (v_t_queued : Int32) (v_t_laws_scribes : Int32) (v_t_laws_books : Int32) (g_t_laws_made : Nat → Int32) (p1 : Int32) (R0 : Int32) (hB : f_X7_lastCopiers v_t_laws_scribes v_t_laws_books g_t_laws_made p1 = some R0) : Met l yX7_lastCopiers (.code yX7_lastCopiers cX7_lastCopiers 4 (some .int) :: GW) rm_X7_lastCopiers (PcR G cs [.ref a_t, .int p1] (wd_X7_lastCopiers cs a_t a_t_laws a_t_distance a_t_before a_t_lastScribe a_t_queue a_t_laws_made v_t_queued v_t_laws_scribes v_t_laws_books g_t_laws_made)) (vp_Si (fun r => r = R0)) 0 0 (fun _ => False) := by
  refine Met.ofW (cc := cX7_lastCopiers) (maxL := 4) (ret := (some .int)) (by decide) rfl ?_
  intro p e s m args below meth c s₁ B hml hv
  obtain ⟨rfl, hP, hK, hN⟩ := hv
  have hx := B.exec
  have hb := B.bytes
  have hr := B.returns
  have hts := atoms_spec (ws := .code yX7_lastCopiers cX7_lastCopiers 4 (some .int) :: GW) B.pre
  have hg : ∀ w ∈ GW, w.before _ s = true := fun w h => hts w (List.mem_cons_of_mem _ h)
  have hown : s.vm.findClass RX7 = some m.cls := findClass_of_methodNamed B.named
  have hlocks := B.notSynchronized
  have hl := lv_entry ([.ref a_t, .int p1]) (n := 4) (Nat.le_of_ble_eq_true rfl)
  rw [lg_entry_eq]
  generalize (lg_sl ([.ref a_t, .int p1]) ++ List.replicate (4 - (lg_sl ([.ref a_t, .int p1])).length) Slot.unset).toArray = ls at hl ⊢
  have hl : lv_has ls 4 [(0, .ref a_t), (1, .int p1)] := hl
  obtain ⟨y, hB, hK0⟩ : ∃ y, f_X7_lastCopiers v_t_laws_scribes v_t_laws_books g_t_laws_made p1 = some y ∧ KEnd R0 y := ⟨R0, hB, rfl⟩
  have hKT := hK
  have hK := hK0
  show W p l e rm_X7_lastCopiers s m ([.ref a_t, .int p1] : List Value).toArray below meth c s.heap [] 0 0 (MQ below (vp_Si (fun r => r = R0)) ([.ref a_t, .int p1] : List Value).toArray s 0 0 (fun _ => False)) (F0 m 0 ls [])
  refine lv_iconst (v := 0) hx hb dX7_lastCopiers_0 (by decide) ?_
  refine lv_istore_n (lv' := [(2, .int (0 : Int32)), (0, .ref a_t), (1, .int p1)]) hx hb dX7_lastCopiers_1 rfl hl (by decide) rfl (fun ls hl => ?_)
  refine lv_iconst (v := 0) hx hb dX7_lastCopiers_2 (by decide) ?_
  refine lv_istore_n (lv' := [(3, .int (0 : Int32)), (2, .int (0 : Int32)), (0, .ref a_t), (1, .int p1)]) hx hb dX7_lastCopiers_3 rfl hl (by decide) rfl (fun ls hl => ?_)
  refine lp_ind (Wh := fun (z1 : Int32 × Int32) => ∀ (ls : Array Slot), lv_has ls 4 [(0, .ref a_t), (1, .int p1), (2, .int z1.1), (3, .int z1.2)] → W p l e rm_X7_lastCopiers s m ([.ref a_t, .int p1] : List Value).toArray below meth c s.heap [] 0 0 (MQ below (vp_Si (fun r => r = R0)) ([.ref a_t, .int p1] : List Value).toArray s 0 0 (fun _ => False)) (F0 m 4 ls [])) ?_ FU _ _ hB hK ls (lv_sub hl [2, 3, 1, 0] rfl)
  rintro ⟨z1_0, z1_1⟩ y hB hK ls hl
  have hl : lv_has ls 4 [(0, .ref a_t), (1, .int p1), (2, .int z1_0), (3, .int z1_1)] := hl
  refine lv_iload_n hx hb dX7_lastCopiers_4 rfl (lv_at hl 3 rfl) ?_
  refine lv_aload_n hx hb dX7_lastCopiers_5 rfl (lv_at hl 0 rfl) ?_
  refine va_get (D := G) (ci := 7) (v := .ref a_t_laws) (C := RX7) (T := TX7) (N := 6) hx hb hg inX7 hown hKT hP 0 rfl rfl 0 (by decide) (hg _ gF_X7_24) (fun _ h9 => h9) rfl dX7_lastCopiers_6 ?_
  refine va_getN (D := G) (ci := 1) (v := .int v_t_laws_scribes) (C := RX1) (T := TX1) (N := 3) hx hb hg inX1 hown hKT hP 1 rfl rfl 1 (by decide) (va_Nw.use rfl (hN _ nF_X7_56_l rfl)) (fun _ h9 => h9) rfl dX7_lastCopiers_9 ?_
  refine lv_icmp_ge (tgt := 36) hx hb dX7_lastCopiers_12 (by decide) (fun c_2 => ?_) (fun c_2 => ?_)
  · have hB := ifP c_2 hB
    refine lv_iload_n hx hb dX7_lastCopiers_36 rfl (lv_at hl 2 rfl) ?_
    have hK := leafK hB hK
    have hK := elimR hK
    have hK : z1_0 = R0 := hK
    subst hK
    exact W.iret (v := z1_0) hx hb hr (fun t ht hW => ⟨_, rfl, rfl, ht⟩) (fun _ h => by cases h) dX7_lastCopiers_37
  · have hB := ifN c_2 hB
    refine lv_aload_n hx hb dX7_lastCopiers_15 rfl (lv_at hl 0 rfl) ?_
    refine lv_iload_n hx hb dX7_lastCopiers_16 rfl (lv_at hl 3 rfl) ?_
    refine lv_iload_n hx hb dX7_lastCopiers_17 rfl (lv_at hl 1 rfl) ?_
    obtain ⟨q3, hq3, hB⟩ := bnd hB
    refine kr_V (WC := wd_X7_countBefore cs a_t a_t_laws a_t_distance a_t_before a_t_lastScribe a_t_queue a_t_laws_made v_t_queued v_t_laws_scribes v_t_laws_books g_t_laws_made) (As := [.int z1_1, .int p1]) (rest := []) (r0 := q3) ⟨hx, hb, hml, hown, hg⟩ (k_X7_countBefore l G cs a_t a_t_laws a_t_distance a_t_before a_t_lastScribe a_t_queue a_t_laws_made v_t_queued v_t_laws_scribes v_t_laws_books g_t_laws_made z1_1 p1 q3 hq3) gM_X7_59 mI_X7_countBefore (rmk rfl) hP hKT hN 0 rfl rfl [0, 1, 2] rfl rfl hl.1 rfl (Nat.le_of_ble_eq_true rfl) dX7_lastCopiers_18 ?_
    refine lv_if_le (tgt := 30) hx hb dX7_lastCopiers_21 (by decide) (fun c_4 => ?_) (fun c_4 => ?_)
    · have hB := ifP c_4 hB
      refine lv_iinc (v := z1_1 + (1 : Int32)) (lv' := [(3, .int (z1_1 + (1 : Int32))), (0, .ref a_t), (1, .int p1), (2, .int z1_0)]) hx hb dX7_lastCopiers_30 hl (k := 3) rfl (inc_ok (by decide)) (by decide) rfl (fun ls hl => ?_)
      refine lv_goto (tgt := 4) hx hb dX7_lastCopiers_33 (by decide) ?_
      have hK := leafK hB hK
      have hK := elimL hK
      exact hK ls (lv_sub hl [1, 2, 3, 0] rfl)
    · have hB := ifN c_4 hB
      refine lv_iload_n hx hb dX7_lastCopiers_24 rfl (lv_at hl 2 rfl) ?_
      refine lv_iconst (v := 1) hx hb dX7_lastCopiers_25 (by decide) ?_
      refine lv_iload_n hx hb dX7_lastCopiers_26 rfl (lv_at hl 3 rfl) ?_
      refine lj_ishl hx hb dX7_lastCopiers_27 ?_
      refine lv_ior hx hb dX7_lastCopiers_28 ?_
      refine lv_istore_n (lv' := [(2, .int (z1_0 ||| (jshl (1 : Int32) z1_1))), (0, .ref a_t), (1, .int p1), (3, .int z1_1)]) hx hb dX7_lastCopiers_29 rfl hl (by decide) rfl (fun ls hl => ?_)
      refine lv_iinc (v := z1_1 + (1 : Int32)) (lv' := [(3, .int (z1_1 + (1 : Int32))), (2, .int (z1_0 ||| (jshl (1 : Int32) z1_1))), (0, .ref a_t), (1, .int p1)]) hx hb dX7_lastCopiers_30 hl (k := 3) rfl (inc_ok (by decide)) (by decide) rfl (fun ls hl => ?_)
      refine lv_goto (tgt := 4) hx hb dX7_lastCopiers_33 (by decide) ?_
      have hK := leafK hB hK
      have hK := elimL hK
      exact hK ls (lv_sub hl [2, 3, 1, 0] rfl)
def wd_X7_alikeLines (cs : Nat → ClassId) (a_p0 a_p0_turn a_p0_bent : Nat) (v_p0_opinions : Int32) (v_p0_lines : Int32) (v_p0_books : Int32) (v_p0_told : Int32) (v_p0_scribes : Int32) (v_p0_need : Int32) : va_W := [(a_p0, .inr (0, [.int v_p0_opinions, .int v_p0_lines, .int v_p0_books, .int v_p0_told, .int v_p0_scribes, .int v_p0_need, .ref a_p0_turn, .ref a_p0_bent]))]
def rm_X7_alikeLines : Room := { frames := 2, cells := 0, slots := 0, locals := 46 }
theorem mS_X7_alikeLines : MS yX7_alikeLines cX7_alikeLines 5 (some .int) 3 := ⟨gS_X7_alikeLines, gN_X7, gC_X7_alikeLines, by decide +kernel⟩
set_option maxHeartbeats 4000000 in
set_option maxRecDepth 100000 in
theorem k_X7_alikeLines (l : Launch) (G : va_G) (cs : Nat → ClassId) (a_p0 a_p0_turn a_p0_bent : Nat) (v_p0_opinions : Int32) (v_p0_lines : Int32) (v_p0_books : Int32) (v_p0_told : Int32) (v_p0_scribes : Int32) (v_p0_need : Int32) (p1 p2 : Int32) (R0 : Int32) (hB : f_X7_alikeLines v_p0_opinions v_p0_lines p1 p2 = some R0) : Met l yX7_alikeLines (.code yX7_alikeLines cX7_alikeLines 5 (some .int) :: GW) rm_X7_alikeLines (PcR G cs [.ref a_p0, .int p1, .int p2] (wd_X7_alikeLines cs a_p0 a_p0_turn a_p0_bent v_p0_opinions v_p0_lines v_p0_books v_p0_told v_p0_scribes v_p0_need)) (vp_Si (fun r => r = R0)) 0 0 (fun _ => False) := by
  refine Met.ofW (cc := cX7_alikeLines) (maxL := 5) (ret := (some .int)) (by decide) rfl ?_
  intro p e s m args below meth c s₁ B hml hv
  obtain ⟨rfl, hP, hK, hN⟩ := hv
  have hx := B.exec
  have hb := B.bytes
  have hr := B.returns
  have hts := atoms_spec (ws := .code yX7_alikeLines cX7_alikeLines 5 (some .int) :: GW) B.pre
  have hg : ∀ w ∈ GW, w.before _ s = true := fun w h => hts w (List.mem_cons_of_mem _ h)
  have hown : s.vm.findClass RX7 = some m.cls := findClass_of_methodNamed B.named
  have hlocks := B.notSynchronized
  have hl := lv_entry ([.ref a_p0, .int p1, .int p2]) (n := 5) (Nat.le_of_ble_eq_true rfl)
  rw [lg_entry_eq]
  generalize (lg_sl ([.ref a_p0, .int p1, .int p2]) ++ List.replicate (5 - (lg_sl ([.ref a_p0, .int p1, .int p2])).length) Slot.unset).toArray = ls at hl ⊢
  have hl : lv_has ls 5 [(0, .ref a_p0), (1, .int p1), (2, .int p2)] := hl
  obtain ⟨y, hB, hK0⟩ : ∃ y, f_X7_alikeLines v_p0_opinions v_p0_lines p1 p2 = some y ∧ KEnd R0 y := ⟨R0, hB, rfl⟩
  have hKT := hK
  have hK := hK0
  show W p l e rm_X7_alikeLines s m ([.ref a_p0, .int p1, .int p2] : List Value).toArray below meth c s.heap [] 0 0 (MQ below (vp_Si (fun r => r = R0)) ([.ref a_p0, .int p1, .int p2] : List Value).toArray s 0 0 (fun _ => False)) (F0 m 0 ls [])
  refine lv_iconst (v := 0) hx hb dX7_alikeLines_0 (by decide) ?_
  refine lv_istore_n (lv' := [(3, .int (0 : Int32)), (0, .ref a_p0), (1, .int p1), (2, .int p2)]) hx hb dX7_alikeLines_1 rfl hl (by decide) rfl (fun ls hl => ?_)
  refine lv_iconst (v := 0) hx hb dX7_alikeLines_2 (by decide) ?_
  refine lv_istore (lv' := [(4, .int (0 : Int32)), (3, .int (0 : Int32)), (0, .ref a_p0), (1, .int p1), (2, .int p2)]) hx hb dX7_alikeLines_3 hl (by decide) rfl (fun ls hl => ?_)
  refine lp_ind (Wh := fun (z1 : Int32 × Int32) => ∀ (ls : Array Slot), lv_has ls 5 [(0, .ref a_p0), (1, .int p1), (2, .int p2), (3, .int z1.1), (4, .int z1.2)] → W p l e rm_X7_alikeLines s m ([.ref a_p0, .int p1, .int p2] : List Value).toArray below meth c s.heap [] 0 0 (MQ below (vp_Si (fun r => r = R0)) ([.ref a_p0, .int p1, .int p2] : List Value).toArray s 0 0 (fun _ => False)) (F0 m 5 ls [])) ?_ FU _ _ hB hK ls (lv_sub hl [2, 3, 4, 1, 0] rfl)
  rintro ⟨z1_0, z1_1⟩ y hB hK ls hl
  have hl : lv_has ls 5 [(0, .ref a_p0), (1, .int p1), (2, .int p2), (3, .int z1_0), (4, .int z1_1)] := hl
  refine lv_iload hx hb dX7_alikeLines_5 (lv_at hl 4 rfl) ?_
  refine lv_aload_n hx hb dX7_alikeLines_7 rfl (lv_at hl 0 rfl) ?_
  refine va_getN (D := G) (ci := 0) (v := .int v_p0_lines) (C := RX0) (T := TX0) (N := 8) hx hb hg inX0 hown hKT hP 0 rfl rfl 1 (by decide) (va_Nw.use rfl (hN _ nF_X7_62_l rfl)) (fun _ h9 => h9) rfl dX7_alikeLines_8 ?_
  refine lv_icmp_ge (tgt := 44) hx hb dX7_alikeLines_11 (by decide) (fun c_2 => ?_) (fun c_2 => ?_)
  · have hB := ifP c_2 hB
    refine lv_iload_n hx hb dX7_alikeLines_44 rfl (lv_at hl 3 rfl) ?_
    have hK := leafK hB hK
    have hK := elimR hK
    have hK : z1_0 = R0 := hK
    subst hK
    exact W.iret (v := z1_0) hx hb hr (fun t ht hW => ⟨_, rfl, rfl, ht⟩) (fun _ h => by cases h) dX7_alikeLines_45
  · have hB := ifN c_2 hB
    refine lv_aload_n hx hb dX7_alikeLines_14 rfl (lv_at hl 0 rfl) ?_
    refine lv_iload_n hx hb dX7_alikeLines_15 rfl (lv_at hl 1 rfl) ?_
    refine lv_iload hx hb dX7_alikeLines_16 (lv_at hl 4 rfl) ?_
    obtain ⟨q3, hq3, hB⟩ := bnd hB
    refine kr_VN (WC := wd_X0_lineOf cs a_p0 a_p0_turn a_p0_bent v_p0_opinions v_p0_lines v_p0_books v_p0_told v_p0_scribes v_p0_need) (As := [.int p1, .int z1_1]) (rest := []) (r0 := q3) ⟨hx, hb, hml, hown, hg⟩ (k_X0_lineOf l G cs a_p0 a_p0_turn a_p0_bent v_p0_opinions v_p0_lines v_p0_books v_p0_told v_p0_scribes v_p0_need p1 z1_1 q3 hq3) nM_X7_71_l mI_X0_lineOf (rmk rfl) hP hKT hN 0 rfl rfl [0] rfl rfl hl.1 rfl (Nat.le_of_ble_eq_true rfl) dX7_alikeLines_18 ?_
    refine lv_aload_n hx hb dX7_alikeLines_21 rfl (lv_at hl 0 rfl) ?_
    refine lv_iload_n hx hb dX7_alikeLines_22 rfl (lv_at hl 2 rfl) ?_
    refine lv_iload hx hb dX7_alikeLines_23 (lv_at hl 4 rfl) ?_
    obtain ⟨q4, hq4, hB⟩ := bnd hB
    refine kr_VN (WC := wd_X0_lineOf cs a_p0 a_p0_turn a_p0_bent v_p0_opinions v_p0_lines v_p0_books v_p0_told v_p0_scribes v_p0_need) (As := [.int p2, .int z1_1]) (rest := [.int q3]) (r0 := q4) ⟨hx, hb, hml, hown, hg⟩ (k_X0_lineOf l G cs a_p0 a_p0_turn a_p0_bent v_p0_opinions v_p0_lines v_p0_books v_p0_told v_p0_scribes v_p0_need p2 z1_1 q4 hq4) nM_X7_71_l mI_X0_lineOf (rmk rfl) hP hKT hN 0 rfl rfl [0] rfl rfl hl.1 rfl (Nat.le_of_ble_eq_true rfl) dX7_alikeLines_25 ?_
    refine lv_icmp_ne (tgt := 38) hx hb dX7_alikeLines_28 (by decide) (fun c_5 => ?_) (fun c_5 => ?_)
    · have hB := ifN c_5 hB
      refine lv_iinc (v := z1_1 + (1 : Int32)) (lv' := [(4, .int (z1_1 + (1 : Int32))), (0, .ref a_p0), (1, .int p1), (2, .int p2), (3, .int z1_0)]) hx hb dX7_alikeLines_38 hl (k := 4) rfl (inc_ok (by decide)) (by decide) rfl (fun ls hl => ?_)
      refine lv_goto (tgt := 5) hx hb dX7_alikeLines_41 (by decide) ?_
      have hK := leafK hB hK
      have hK := elimL hK
      exact hK ls (lv_sub hl [1, 2, 3, 4, 0] rfl)
    · have hB := ifP c_5 hB
      refine lv_iload_n hx hb dX7_alikeLines_31 rfl (lv_at hl 3 rfl) ?_
      refine lv_iconst (v := 1) hx hb dX7_alikeLines_32 (by decide) ?_
      refine lv_iload hx hb dX7_alikeLines_33 (lv_at hl 4 rfl) ?_
      refine lj_ishl hx hb dX7_alikeLines_35 ?_
      refine lv_ior hx hb dX7_alikeLines_36 ?_
      refine lv_istore_n (lv' := [(3, .int (z1_0 ||| (jshl (1 : Int32) z1_1))), (0, .ref a_p0), (1, .int p1), (2, .int p2), (4, .int z1_1)]) hx hb dX7_alikeLines_37 rfl hl (by decide) rfl (fun ls hl => ?_)
      refine lv_iinc (v := z1_1 + (1 : Int32)) (lv' := [(4, .int (z1_1 + (1 : Int32))), (3, .int (z1_0 ||| (jshl (1 : Int32) z1_1))), (0, .ref a_p0), (1, .int p1), (2, .int p2)]) hx hb dX7_alikeLines_38 hl (k := 4) rfl (inc_ok (by decide)) (by decide) rfl (fun ls hl => ?_)
      refine lv_goto (tgt := 5) hx hb dX7_alikeLines_41 (by decide) ?_
      have hK := leafK hB hK
      have hK := elimL hK
      exact hK ls (lv_sub hl [2, 3, 4, 1, 0] rfl)
def wd_X7_sameLines (cs : Nat → ClassId) (a_t a_t_laws a_t_distance a_t_before a_t_lastScribe a_t_queue a_t_laws_made a_p1 a_p1_turn a_p1_bent : Nat) (v_t_queued : Int32) (v_t_laws_scribes : Int32) (v_t_laws_books : Int32) (g_t_laws_made : Nat → Int32) (v_p1_opinions : Int32) (v_p1_lines : Int32) (v_p1_books : Int32) (v_p1_told : Int32) (v_p1_scribes : Int32) (v_p1_need : Int32) : va_W := [(a_t, .inr (7, [.ref a_t_laws, .ref a_t_distance, .ref a_t_before, .ref a_t_lastScribe, .ref a_t_queue, .int v_t_queued])), (a_t_laws, .inr (1, [.ref a_t_laws_made, .int v_t_laws_scribes, .int v_t_laws_books])), (a_t_laws_made, .inl (cs 0, 3750, .inl g_t_laws_made)), (a_p1, .inr (0, [.int v_p1_opinions, .int v_p1_lines, .int v_p1_books, .int v_p1_told, .int v_p1_scribes, .int v_p1_need, .ref a_p1_turn, .ref a_p1_bent]))]
def rm_X7_sameLines : Room := { frames := 3, cells := 0, slots := 0, locals := 70 }
theorem mI_X7_sameLines : MI yX7_sameLines RX7 cX7_sameLines 7 (some .int) 2 := ⟨gI_X7_sameLines, gE_X7_sameLines, gN_X7, gC_X7_sameLines, by decide +kernel⟩
set_option maxHeartbeats 4000000 in
set_option maxRecDepth 100000 in
theorem k_X7_sameLines (l : Launch) (G : va_G) (cs : Nat → ClassId) (a_t a_t_laws a_t_distance a_t_before a_t_lastScribe a_t_queue a_t_laws_made a_p1 a_p1_turn a_p1_bent : Nat) (v_t_queued : Int32) (v_t_laws_scribes : Int32) (v_t_laws_books : Int32) (g_t_laws_made : Nat → Int32) (v_p1_opinions : Int32) (v_p1_lines : Int32) (v_p1_books : Int32) (v_p1_told : Int32) (v_p1_scribes : Int32) (v_p1_need : Int32) (p2 : Int32) (R0 : Int32) (hB : f_X7_sameLines v_t_laws_scribes v_t_laws_books g_t_laws_made v_p1_opinions v_p1_lines p2 = some R0) : Met l yX7_sameLines (.code yX7_sameLines cX7_sameLines 7 (some .int) :: GW) rm_X7_sameLines (PcR G cs [.ref a_t, .ref a_p1, .int p2] (wd_X7_sameLines cs a_t a_t_laws a_t_distance a_t_before a_t_lastScribe a_t_queue a_t_laws_made a_p1 a_p1_turn a_p1_bent v_t_queued v_t_laws_scribes v_t_laws_books g_t_laws_made v_p1_opinions v_p1_lines v_p1_books v_p1_told v_p1_scribes v_p1_need)) (vp_Si (fun r => r = R0)) 0 0 (fun _ => False) := by
  refine Met.ofW (cc := cX7_sameLines) (maxL := 7) (ret := (some .int)) (by decide) rfl ?_
  intro p e s m args below meth c s₁ B hml hv
  obtain ⟨rfl, hP, hK, hN⟩ := hv
  have hx := B.exec
  have hb := B.bytes
  have hr := B.returns
  have hts := atoms_spec (ws := .code yX7_sameLines cX7_sameLines 7 (some .int) :: GW) B.pre
  have hg : ∀ w ∈ GW, w.before _ s = true := fun w h => hts w (List.mem_cons_of_mem _ h)
  have hown : s.vm.findClass RX7 = some m.cls := findClass_of_methodNamed B.named
  have hlocks := B.notSynchronized
  have hl := lv_entry ([.ref a_t, .ref a_p1, .int p2]) (n := 7) (Nat.le_of_ble_eq_true rfl)
  rw [lg_entry_eq]
  generalize (lg_sl ([.ref a_t, .ref a_p1, .int p2]) ++ List.replicate (7 - (lg_sl ([.ref a_t, .ref a_p1, .int p2])).length) Slot.unset).toArray = ls at hl ⊢
  have hl : lv_has ls 7 [(0, .ref a_t), (1, .ref a_p1), (2, .int p2)] := hl
  obtain ⟨y, hB, hK0⟩ : ∃ y, f_X7_sameLines v_t_laws_scribes v_t_laws_books g_t_laws_made v_p1_opinions v_p1_lines p2 = some y ∧ KEnd R0 y := ⟨R0, hB, rfl⟩
  have hKT := hK
  have hK := hK0
  show W p l e rm_X7_sameLines s m ([.ref a_t, .ref a_p1, .int p2] : List Value).toArray below meth c s.heap [] 0 0 (MQ below (vp_Si (fun r => r = R0)) ([.ref a_t, .ref a_p1, .int p2] : List Value).toArray s 0 0 (fun _ => False)) (F0 m 0 ls [])
  refine lv_bipush (v := -9) hx hb dX7_sameLines_0 (by decide) ?_
  refine lv_istore_n (lv' := [(3, .int (-9 : Int32)), (0, .ref a_t), (1, .ref a_p1), (2, .int p2)]) hx hb dX7_sameLines_2 rfl hl (by decide) rfl (fun ls hl => ?_)
  refine lv_iconst (v := 0) hx hb dX7_sameLines_3 (by decide) ?_
  refine lv_istore (lv' := [(4, .int (0 : Int32)), (3, .int (-9 : Int32)), (0, .ref a_t), (1, .ref a_p1), (2, .int p2)]) hx hb dX7_sameLines_4 hl (by decide) rfl (fun ls hl => ?_)
  refine lv_iconst (v := 0) hx hb dX7_sameLines_6 (by decide) ?_
  refine lv_istore (lv' := [(5, .int (0 : Int32)), (4, .int (0 : Int32)), (3, .int (-9 : Int32)), (0, .ref a_t), (1, .ref a_p1), (2, .int p2)]) hx hb dX7_sameLines_7 hl (by decide) rfl (fun ls hl => ?_)
  refine lp_ind (Wh := fun (z1 : Int32 × Int32 × Int32) => ∀ (ls : Array Slot), lv_has ls 7 [(0, .ref a_t), (1, .ref a_p1), (2, .int p2), (3, .int z1.1), (4, .int z1.2.1), (5, .int z1.2.2)] → W p l e rm_X7_sameLines s m ([.ref a_t, .ref a_p1, .int p2] : List Value).toArray below meth c s.heap [] 0 0 (MQ below (vp_Si (fun r => r = R0)) ([.ref a_t, .ref a_p1, .int p2] : List Value).toArray s 0 0 (fun _ => False)) (F0 m 9 ls [])) ?_ FU _ _ hB hK ls (lv_sub hl [3, 4, 5, 2, 1, 0] rfl)
  rintro ⟨z1_0, z1_1, z1_2⟩ y hB hK ls hl
  have hl : lv_has ls 7 [(0, .ref a_t), (1, .ref a_p1), (2, .int p2), (3, .int z1_0), (4, .int z1_1), (5, .int z1_2)] := hl
  refine lv_iload hx hb dX7_sameLines_9 (lv_at hl 5 rfl) ?_
  refine lv_aload_n hx hb dX7_sameLines_11 rfl (lv_at hl 0 rfl) ?_
  refine va_get (D := G) (ci := 7) (v := .ref a_t_laws) (C := RX7) (T := TX7) (N := 6) hx hb hg inX7 hown hKT hP 0 rfl rfl 0 (by decide) (hg _ gF_X7_24) (fun _ h9 => h9) rfl dX7_sameLines_12 ?_
  refine va_getN (D := G) (ci := 1) (v := .int v_t_laws_scribes) (C := RX1) (T := TX1) (N := 3) hx hb hg inX1 hown hKT hP 1 rfl rfl 1 (by decide) (va_Nw.use rfl (hN _ nF_X7_56_l rfl)) (fun _ h9 => h9) rfl dX7_sameLines_15 ?_
  refine lv_icmp_ge (tgt := 97) hx hb dX7_sameLines_18 (by decide) (fun c_2 => ?_) (fun c_2 => ?_)
  · have hB := ifP c_2 hB
    refine lv_iload hx hb dX7_sameLines_97 (lv_at hl 4 rfl) ?_
    have hK := leafK hB hK
    have hK := elimR hK
    have hK : z1_1 = R0 := hK
    subst hK
    exact W.iret (v := z1_1) hx hb hr (fun t ht hW => ⟨_, rfl, rfl, ht⟩) (fun _ h => by cases h) dX7_sameLines_99
  · have hB := ifN c_2 hB
    refine lv_iconst (v := 0) hx hb dX7_sameLines_21 (by decide) ?_
    refine lv_istore (lv' := [(6, .int (0 : Int32)), (0, .ref a_t), (1, .ref a_p1), (2, .int p2), (3, .int z1_0), (4, .int z1_1), (5, .int z1_2)]) hx hb dX7_sameLines_22 hl (by decide) rfl (fun ls hl => ?_)
    refine lp_ind (Wh := fun (z3 : Int32 × Int32 × Int32) => ∀ (ls : Array Slot), lv_has ls 7 [(0, .ref a_t), (1, .ref a_p1), (2, .int p2), (3, .int z3.1), (4, .int z3.2.1), (5, .int z1_2), (6, .int z3.2.2)] → W p l e rm_X7_sameLines s m ([.ref a_t, .ref a_p1, .int p2] : List Value).toArray below meth c s.heap [] 0 0 (MQ below (vp_Si (fun r => r = R0)) ([.ref a_t, .ref a_p1, .int p2] : List Value).toArray s 0 0 (fun _ => False)) (F0 m 24 ls [])) ?_ FU _ _ hB hK ls (lv_sub hl [1, 2, 3, 4, 5, 6, 0] rfl)
    rintro ⟨z3_0, z3_1, z3_2⟩ y hB hK ls hl
    have hl : lv_has ls 7 [(0, .ref a_t), (1, .ref a_p1), (2, .int p2), (3, .int z3_0), (4, .int z3_1), (5, .int z1_2), (6, .int z3_2)] := hl
    refine lv_iload hx hb dX7_sameLines_24 (lv_at hl 6 rfl) ?_
    refine lv_aload_n hx hb dX7_sameLines_26 rfl (lv_at hl 0 rfl) ?_
    refine va_get (D := G) (ci := 7) (v := .ref a_t_laws) (C := RX7) (T := TX7) (N := 6) hx hb hg inX7 hown hKT hP 0 rfl rfl 0 (by decide) (hg _ gF_X7_24) (fun _ h9 => h9) rfl dX7_sameLines_27 ?_
    refine va_getN (D := G) (ci := 1) (v := .int v_t_laws_books) (C := RX1) (T := TX1) (N := 3) hx hb hg inX1 hown hKT hP 1 rfl rfl 2 (by decide) (va_Nw.use rfl (hN _ nF_X7_53_l rfl)) (fun _ h9 => h9) rfl dX7_sameLines_30 ?_
    refine lv_icmp_ge (tgt := 91) hx hb dX7_sameLines_33 (by decide) (fun c_4 => ?_) (fun c_4 => ?_)
    · have hB := ifP c_4 hB
      refine lv_iinc (v := z1_2 + (1 : Int32)) (lv' := [(5, .int (z1_2 + (1 : Int32))), (0, .ref a_t), (1, .ref a_p1), (2, .int p2), (3, .int z3_0), (4, .int z3_1), (6, .int z3_2)]) hx hb dX7_sameLines_91 hl (k := 5) rfl (inc_ok (by decide)) (by decide) rfl (fun ls hl => ?_)
      refine lv_goto (tgt := 9) hx hb dX7_sameLines_94 (by decide) ?_
      have hK := leafK hB hK
      have hK := elimR hK
      have hK := elimL hK
      exact hK ls (lv_sub hl [1, 2, 3, 4, 5, 0] rfl)
    · have hB := ifN c_4 hB
      refine lv_aload_n hx hb dX7_sameLines_36 rfl (lv_at hl 0 rfl) ?_
      refine va_get (D := G) (ci := 7) (v := .ref a_t_laws) (C := RX7) (T := TX7) (N := 6) hx hb hg inX7 hown hKT hP 0 rfl rfl 0 (by decide) (hg _ gF_X7_24) (fun _ h9 => h9) rfl dX7_sameLines_37 ?_
      refine lv_iload hx hb dX7_sameLines_40 (lv_at hl 5 rfl) ?_
      refine lv_iload hx hb dX7_sameLines_42 (lv_at hl 6 rfl) ?_
      obtain ⟨q5, hq5, hB⟩ := bnd hB
      refine kr_VN (WC := wd_X1_copyBy cs a_t_laws a_t_laws_made v_t_laws_scribes v_t_laws_books g_t_laws_made) (As := [.int z1_2, .int z3_2]) (rest := []) (r0 := q5) ⟨hx, hb, hml, hown, hg⟩ (k_X1_copyBy l G cs a_t_laws a_t_laws_made v_t_laws_scribes v_t_laws_books g_t_laws_made z1_2 z3_2 q5 hq5) nM_X7_40_l mI_X1_copyBy (rmk rfl) hP hKT hN 1 rfl rfl [1, 2] rfl rfl hl.1 rfl (Nat.le_of_ble_eq_true rfl) dX7_sameLines_44 ?_
      refine lv_iload_n hx hb dX7_sameLines_47 rfl (lv_at hl 2 rfl) ?_
      refine lv_icmp_eq (tgt := 54) hx hb dX7_sameLines_48 (by decide) (fun c_6 => ?_) (fun c_6 => ?_)
      · have hB := ifP c_6 hB
        refine lv_iload_n hx hb dX7_sameLines_54 rfl (lv_at hl 3 rfl) ?_
        refine lv_bipush (v := -9) hx hb dX7_sameLines_55 (by decide) ?_
        refine lv_icmp_ne (tgt := 73) hx hb dX7_sameLines_57 (by decide) (fun c_7 => ?_) (fun c_7 => ?_)
        · have hB := ifN c_7 hB
          refine lv_iload hx hb dX7_sameLines_73 (lv_at hl 4 rfl) ?_
          refine lv_aload_n hx hb dX7_sameLines_75 rfl (lv_at hl 1 rfl) ?_
          refine lv_iload_n hx hb dX7_sameLines_76 rfl (lv_at hl 3 rfl) ?_
          refine lv_iload hx hb dX7_sameLines_77 (lv_at hl 6 rfl) ?_
          obtain ⟨q8, hq8, hB⟩ := bnd hB
          refine kr_S (WC := wd_X7_alikeLines cs a_p1 a_p1_turn a_p1_bent v_p1_opinions v_p1_lines v_p1_books v_p1_told v_p1_scribes v_p1_need) (As := [.ref a_p1, .int z3_0, .int z3_2]) (rest := [.int z3_1]) (r0 := q8) ⟨hx, hb, hml, hown, hg⟩ (k_X7_alikeLines l G cs a_p1 a_p1_turn a_p1_bent v_p1_opinions v_p1_lines v_p1_books v_p1_told v_p1_scribes v_p1_need z3_0 z3_2 q8 hq8) gM_X7_67 mS_X7_alikeLines (rmk rfl) hP hKT hN [3] rfl rfl hl.1 rfl (Nat.le_of_ble_eq_true rfl) dX7_sameLines_79 ?_
          refine lv_iand hx hb dX7_sameLines_82 ?_
          refine lv_istore (lv' := [(4, .int (z3_1 &&& q8)), (0, .ref a_t), (1, .ref a_p1), (2, .int p2), (3, .int z3_0), (5, .int z1_2), (6, .int z3_2)]) hx hb dX7_sameLines_83 hl (by decide) rfl (fun ls hl => ?_)
          refine lv_iinc (v := z3_2 + (1 : Int32)) (lv' := [(6, .int (z3_2 + (1 : Int32))), (4, .int (z3_1 &&& q8)), (0, .ref a_t), (1, .ref a_p1), (2, .int p2), (3, .int z3_0), (5, .int z1_2)]) hx hb dX7_sameLines_85 hl (k := 6) rfl (inc_ok (by decide)) (by decide) rfl (fun ls hl => ?_)
          refine lv_goto (tgt := 24) hx hb dX7_sameLines_88 (by decide) ?_
          have hK := leafK hB hK
          have hK := elimL hK
          exact hK ls (lv_sub hl [2, 3, 4, 5, 1, 6, 0] rfl)
        · have hB := ifP c_7 hB
          refine lv_iload hx hb dX7_sameLines_60 (lv_at hl 6 rfl) ?_
          refine lv_istore_n (lv' := [(3, .int z3_2), (0, .ref a_t), (1, .ref a_p1), (2, .int p2), (4, .int z3_1), (5, .int z1_2), (6, .int z3_2)]) hx hb dX7_sameLines_62 rfl hl (by decide) rfl (fun ls hl => ?_)
          refine lv_iconst (v := 1) hx hb dX7_sameLines_63 (by decide) ?_
          refine lv_aload_n hx hb dX7_sameLines_64 rfl (lv_at hl 2 rfl) ?_
          refine va_getN (D := G) (ci := 0) (v := .int v_p1_lines) (C := RX0) (T := TX0) (N := 8) hx hb hg inX0 hown hKT hP 3 rfl rfl 1 (by decide) (va_Nw.use rfl (hN _ nF_X7_62_l rfl)) (fun _ h9 => h9) rfl dX7_sameLines_65 ?_
          refine lj_ishl hx hb dX7_sameLines_68 ?_
          refine lv_iconst (v := 1) hx hb dX7_sameLines_69 (by decide) ?_
          refine lv_isub hx hb dX7_sameLines_70 ?_
          refine lv_istore (lv' := [(4, .int ((jshl (1 : Int32) v_p1_lines) - (1 : Int32))), (3, .int z3_2), (0, .ref a_t), (1, .ref a_p1), (2, .int p2), (5, .int z1_2), (6, .int z3_2)]) hx hb dX7_sameLines_71 hl (by decide) rfl (fun ls hl => ?_)
          refine lv_iload hx hb dX7_sameLines_73 (lv_at hl 0 rfl) ?_
          refine lv_aload_n hx hb dX7_sameLines_75 rfl (lv_at hl 3 rfl) ?_
          refine lv_iload_n hx hb dX7_sameLines_76 rfl (lv_at hl 1 rfl) ?_
          refine lv_iload hx hb dX7_sameLines_77 (lv_at hl 6 rfl) ?_
          obtain ⟨q9, hq9, hB⟩ := bnd hB
          refine kr_S (WC := wd_X7_alikeLines cs a_p1 a_p1_turn a_p1_bent v_p1_opinions v_p1_lines v_p1_books v_p1_told v_p1_scribes v_p1_need) (As := [.ref a_p1, .int z3_2, .int z3_2]) (rest := [.int ((jshl (1 : Int32) v_p1_lines) - (1 : Int32))]) (r0 := q9) ⟨hx, hb, hml, hown, hg⟩ (k_X7_alikeLines l G cs a_p1 a_p1_turn a_p1_bent v_p1_opinions v_p1_lines v_p1_books v_p1_told v_p1_scribes v_p1_need z3_2 z3_2 q9 hq9) gM_X7_67 mS_X7_alikeLines (rmk rfl) hP hKT hN [3] rfl rfl hl.1 rfl (Nat.le_of_ble_eq_true rfl) dX7_sameLines_79 ?_
          refine lv_iand hx hb dX7_sameLines_82 ?_
          refine lv_istore (lv' := [(4, .int (((jshl (1 : Int32) v_p1_lines) - (1 : Int32)) &&& q9)), (3, .int z3_2), (0, .ref a_t), (1, .ref a_p1), (2, .int p2), (5, .int z1_2), (6, .int z3_2)]) hx hb dX7_sameLines_83 hl (by decide) rfl (fun ls hl => ?_)
          refine lv_iinc (v := z3_2 + (1 : Int32)) (lv' := [(6, .int (z3_2 + (1 : Int32))), (4, .int (((jshl (1 : Int32) v_p1_lines) - (1 : Int32)) &&& q9)), (3, .int z3_2), (0, .ref a_t), (1, .ref a_p1), (2, .int p2), (5, .int z1_2)]) hx hb dX7_sameLines_85 hl (k := 6) rfl (inc_ok (by decide)) (by decide) rfl (fun ls hl => ?_)
          refine lv_goto (tgt := 24) hx hb dX7_sameLines_88 (by decide) ?_
          have hK := leafK hB hK
          have hK := elimL hK
          exact hK ls (lv_sub hl [3, 4, 5, 2, 1, 6, 0] rfl)
      · have hB := ifN c_6 hB
        refine lv_goto (tgt := 85) hx hb dX7_sameLines_51 (by decide) ?_
        refine lv_iinc (v := z3_2 + (1 : Int32)) (lv' := [(6, .int (z3_2 + (1 : Int32))), (0, .ref a_t), (1, .ref a_p1), (2, .int p2), (3, .int z3_0), (4, .int z3_1), (5, .int z1_2)]) hx hb dX7_sameLines_85 hl (k := 6) rfl (inc_ok (by decide)) (by decide) rfl (fun ls hl => ?_)
        refine lv_goto (tgt := 24) hx hb dX7_sameLines_88 (by decide) ?_
        have hK := leafK hB hK
        have hK := elimL hK
        exact hK ls (lv_sub hl [1, 2, 3, 4, 5, 6, 0] rfl)
