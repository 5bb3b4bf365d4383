theorem inX6 : ∀ w ∈ u_ws RX6 TX6 2, w ∈ GW := by
  intro w h
  obtain ⟨k, hk, rfl⟩ := List.mem_map.mp h
  have hk := List.mem_range.mp hk
  rcases (show k = 0 ∨ k = 1 by omega) with rfl | rfl
  · exact gY_X6_rows
  · exact gY_X6_known
def wd_X6_put (cs : Nat → ClassId) (a_t a_t_rows : Nat) (r_t_rows : Nat → Nat) (v_t_known : Int32) (g_t_rows : Nat → Nat → Int32) : va_W := (a_t, .inr (6, [.ref a_t_rows, .int v_t_known])) :: (a_t_rows, .inl (cs 3, 11, .inr (.inr (.inr (.inr (gO r_t_rows)))))) :: gR (cs 0) r_t_rows g_t_rows
def rm_X6_put : Room := { frames := 0, cells := 0, slots := 0, locals := 0 }
theorem mI_X6_put : MI yX6_put RX6 cX6_put 3 none 2 := ⟨gI_X6_put, gE_X6_put, gN_X6, gC_X6_put, by decide +kernel⟩
set_option maxHeartbeats 4000000 in
set_option maxRecDepth 100000 in
theorem k_X6_put (l : Launch) (G : va_G) (cs : Nat → ClassId) (a_t a_t_rows : Nat) (r_t_rows : Nat → Nat) (v_t_known : Int32) (g_t_rows : Nat → Nat → Int32) (p1 p2 : Int32) (sz : Nat) (R0 : (Nat → Nat → Int32)) (hB : f_X6_put v_t_known g_t_rows p1 p2 = some R0) : Met l yX6_put (.code yX6_put cX6_put 3 none :: GW) rm_X6_put (PcW G cs [.ref a_t, .int p1, .int p2] (wd_X6_put cs a_t a_t_rows r_t_rows v_t_known g_t_rows) sz) (QcV G (va_A (wd_X6_put cs a_t a_t_rows r_t_rows v_t_known g_t_rows) sz) (wd_X6_put cs a_t a_t_rows r_t_rows v_t_known R0)) 0 0 (va_A (wd_X6_put cs a_t a_t_rows r_t_rows v_t_known g_t_rows) sz) := by
  refine Met.ofW (cc := cX6_put) (maxL := 3) (ret := none) (by decide) rfl ?_
  intro p e s m args below meth c s₁ B hml hv
  obtain ⟨rfl, hsz, hP, hD0, hK, hN⟩ := hv
  have hx := B.exec
  have hb := B.bytes
  have hr := B.returns
  have hts := atoms_spec (ws := .code yX6_put cX6_put 3 none :: GW) B.pre
  have hg : ∀ w ∈ GW, w.before _ s = true := fun w h => hts w (List.mem_cons_of_mem _ h)
  have hown : s.vm.findClass RX6 = some m.cls := findClass_of_methodNamed B.named
  have hlocks := B.notSynchronized
  subst hsz
  have hD := hD0.self (sz := s.heap.size)
  generalize hAe : va_A (wd_X6_put cs a_t a_t_rows r_t_rows v_t_known g_t_rows) s.heap.size = A at hD ⊢
  have hA : ∀ q : Nat, s.heap.size ≤ q → A q := fun q h => by rw [← hAe]; exact Or.inr h
  have hS : va_S A s.heap s.heap [] := va_S.rf
  have hl := lv_entry ([.ref a_t, .int p1, .int p2]) (n := 3) (Nat.le_of_ble_eq_true rfl)
  rw [lg_entry_eq]
  generalize (lg_sl ([.ref a_t, .int p1, .int p2]) ++ List.replicate (3 - (lg_sl ([.ref a_t, .int p1, .int p2])).length) Slot.unset).toArray = ls at hl ⊢
  have hl : lv_has ls 3 [(0, .ref a_t), (1, .int p1), (2, .int p2)] := hl
  obtain ⟨y, hB, hK0⟩ : ∃ y, f_X6_put v_t_known g_t_rows p1 p2 = some y ∧ KEnd R0 y := ⟨R0, hB, rfl⟩
  have hKT := hK
  have hK := hK0
  obtain ⟨H, hHe⟩ : ∃ H, H = s.heap := ⟨_, rfl⟩
  obtain ⟨locs, hLe⟩ : ∃ L : List Loc, L = [] := ⟨_, rfl⟩
  rw [← hHe] at hP
  have hS : va_S A s.heap H locs := by rw [hHe, hLe]; exact hS
  show W p l e rm_X6_put s m ([.ref a_t, .int p1, .int p2] : List Value).toArray below meth c s.heap [] 0 0 _ _
  suffices hgo : W p l e rm_X6_put s m ([.ref a_t, .int p1, .int p2] : List Value).toArray below meth c H locs 0 0 (MQ below (QcV G A (wd_X6_put cs a_t a_t_rows r_t_rows v_t_known R0)) ([.ref a_t, .int p1, .int p2] : List Value).toArray s 0 0 A) (F0 m 0 ls []) by rw [hHe, hLe] at hgo; exact hgo
  refine lv_aload_n hx hb dX6_put_0 rfl (lv_at hl 0 rfl) ?_
  refine va_get (D := G) (ci := 6) (v := .int v_t_known) (C := RX6) (T := TX6) (N := 2) hx hb hg inX6 hown hKT hP 0 rfl rfl 1 (by decide) (hg _ gF_X6_16) (fun _ h9 => h9) rfl dX6_put_1 ?_
  refine lv_if_lt (tgt := 38) hx hb dX6_put_4 (by decide) (fun c_1 => ?_) (fun c_1 => ?_)
  · have hB := ifP c_1 hB
    have hK := leafK hB hK
    have hK : g_t_rows = R0 := hK
    subst hK
    exact W.vret hx hb hr (fun t ht hW => ⟨⟨(), rfl, trivial, by rw [ht]; exact hP, hD⟩, hS.F ht⟩) hS.2.2 dX6_put_38
  · have hB := ifN c_1 hB
    refine lv_aload_n hx hb dX6_put_7 rfl (lv_at hl 0 rfl) ?_
    refine va_get (D := G) (ci := 6) (v := .int v_t_known) (C := RX6) (T := TX6) (N := 2) hx hb hg inX6 hown hKT hP 0 rfl rfl 1 (by decide) (hg _ gF_X6_16) (fun _ h9 => h9) rfl dX6_put_8 ?_
    refine lv_bipush (v := 10) hx hb dX6_put_11 (by decide) ?_
    refine lv_icmp_gt (tgt := 38) hx hb dX6_put_13 (by decide) (fun c_2 => ?_) (fun c_2 => ?_)
    · have hB := ifP c_2 hB
      have hK := leafK hB hK
      have hK : g_t_rows = R0 := hK
      subst hK
      exact W.vret hx hb hr (fun t ht hW => ⟨⟨(), rfl, trivial, by rw [ht]; exact hP, hD⟩, hS.F ht⟩) hS.2.2 dX6_put_38
    · have hB := ifN c_2 hB
      refine lv_iload_n hx hb dX6_put_16 rfl (lv_at hl 1 rfl) ?_
      refine lv_if_lt (tgt := 38) hx hb dX6_put_17 (by decide) (fun c_3 => ?_) (fun c_3 => ?_)
      · have hB := ifP c_3 hB
        have hK := leafK hB hK
        have hK : g_t_rows = R0 := hK
        subst hK
        exact W.vret hx hb hr (fun t ht hW => ⟨⟨(), rfl, trivial, by rw [ht]; exact hP, hD⟩, hS.F ht⟩) hS.2.2 dX6_put_38
      · have hB := ifN c_3 hB
        refine lv_iload_n hx hb dX6_put_20 rfl (lv_at hl 1 rfl) ?_
        refine lv_bipush (v := 9) hx hb dX6_put_21 (by decide) ?_
        refine lv_icmp_ge (tgt := 38) hx hb dX6_put_23 (by decide) (fun c_4 => ?_) (fun c_4 => ?_)
        · have hB := ifP c_4 hB
          have hK := leafK hB hK
          have hK : g_t_rows = R0 := hK
          subst hK
          exact W.vret hx hb hr (fun t ht hW => ⟨⟨(), rfl, trivial, by rw [ht]; exact hP, hD⟩, hS.F ht⟩) hS.2.2 dX6_put_38
        · have hB := ifN c_4 hB
          refine lv_aload_n hx hb dX6_put_26 rfl (lv_at hl 0 rfl) ?_
          refine va_get (D := G) (ci := 6) (v := .ref a_t_rows) (C := RX6) (T := TX6) (N := 2) hx hb hg inX6 hown hKT hP 0 rfl rfl 0 (by decide) (hg _ gF_X6_13) (fun _ h9 => h9) rfl dX6_put_27 ?_
          refine lv_aload_n hx hb dX6_put_30 rfl (lv_at hl 0 rfl) ?_
          refine va_get (D := G) (ci := 6) (v := .int v_t_known) (C := RX6) (T := TX6) (N := 2) hx hb hg inX6 hown hKT hP 0 rfl rfl 1 (by decide) (hg _ gF_X6_16) (fun _ h9 => h9) rfl dX6_put_31 ?_
          obtain ⟨h_5, hB⟩ := ifS hB
          refine va_row hx hb hKT hP 1 rfl h_5 dX6_put_34 ?_
          refine lv_iload_n hx hb dX6_put_35 rfl (lv_at hl 1 rfl) ?_
          refine lv_iload_n hx hb dX6_put_36 rfl (lv_at hl 2 rfl) ?_
          obtain ⟨h_6, hB⟩ := ifS hB
          refine va_iast hx hb hKT hP hD hS (v_t_known.toNatClampNeg + 2) 0 (gR_at (vp_lt h_5)) rfl h_6 dX6_put_37 (fun H locs hP hD hS => ?_)
          have e_7 := gR_set (c := cs 0) (ra := r_t_rows) (M := g_t_rows) (f := upd (g_t_rows v_t_known.toNatClampNeg) p1.toNatClampNeg p2) (vp_lt h_5)
          have hP : va_P G vwCl (wd_X6_put cs a_t a_t_rows r_t_rows v_t_known (va_up g_t_rows v_t_known.toNatClampNeg (upd (g_t_rows v_t_known.toNatClampNeg) p1.toNatClampNeg p2))) H := by unfold wd_X6_put; rw [← e_7]; exact hP
          have hD : va_D A (wd_X6_put cs a_t a_t_rows r_t_rows v_t_known (va_up g_t_rows v_t_known.toNatClampNeg (upd (g_t_rows v_t_known.toNatClampNeg) p1.toNatClampNeg p2))) := by unfold wd_X6_put; rw [← e_7]; exact hD
          have hK := leafK hB hK
          have hK : (va_up g_t_rows v_t_known.toNatClampNeg (upd (g_t_rows v_t_known.toNatClampNeg) p1.toNatClampNeg p2)) = R0 := hK
          subst hK
          exact W.vret hx hb hr (fun t ht hW => ⟨⟨(), rfl, trivial, by rw [ht]; exact hP, hD⟩, hS.F ht⟩) hS.2.2 dX6_put_38
def wd_X6_begin (cs : Nat → ClassId) (a_t a_t_rows : Nat) (r_t_rows : Nat → Nat) (v_t_known : Int32) (g_t_rows : Nat → Nat → Int32) : va_W := (a_t, .inr (6, [.ref a_t_rows, .int v_t_known])) :: (a_t_rows, .inl (cs 3, 11, .inr (.inr (.inr (.inr (gO r_t_rows)))))) :: gR (cs 0) r_t_rows g_t_rows
def rm_X6_begin : Room := { frames := 1, cells := 0, slots := 0, locals := 22 }
theorem mI_X6_begin : MI yX6_begin RX6 cX6_begin 3 none 1 := ⟨gI_X6_begin, gE_X6_begin, gN_X6, gC_X6_begin, by decide +kernel⟩
set_option maxHeartbeats 4000000 in
set_option maxRecDepth 100000 in
theorem k_X6_begin (l : Launch) (G : va_G) (cs : Nat → ClassId) (a_t a_t_rows : Nat) (r_t_rows : Nat → Nat) (v_t_known : Int32) (g_t_rows : Nat → Nat → Int32) (p1 : Int32) (sz : Nat) (R0 : Int32 × (Nat → Nat → Int32)) (hB : f_X6_begin g_t_rows p1 = some R0) : Met l yX6_begin (.code yX6_begin cX6_begin 3 none :: GW) rm_X6_begin (PcW G cs [.ref a_t, .int p1] (wd_X6_begin cs a_t a_t_rows r_t_rows v_t_known g_t_rows) sz) (QcV G (va_A (wd_X6_begin cs a_t a_t_rows r_t_rows v_t_known g_t_rows) sz) (wd_X6_begin cs a_t a_t_rows r_t_rows R0.1 R0.2)) 0 0 (va_A (wd_X6_begin cs a_t a_t_rows r_t_rows v_t_known g_t_rows) sz) := by
  refine Met.ofW (cc := cX6_begin) (maxL := 3) (ret := none) (by decide) rfl ?_
  intro p e s m args below meth c s₁ B hml hv
  obtain ⟨rfl, hsz, hP, hD0, hK, hN⟩ := hv
  have hx := B.exec
  have hb := B.bytes
  have hr := B.returns
  have hts := atoms_spec (ws := .code yX6_begin cX6_begin 3 none :: GW) B.pre
  have hg : ∀ w ∈ GW, w.before _ s = true := fun w h => hts w (List.mem_cons_of_mem _ h)
  have hown : s.vm.findClass RX6 = some m.cls := findClass_of_methodNamed B.named
  have hlocks := B.notSynchronized
  subst hsz
  have hD := hD0.self (sz := s.heap.size)
  generalize hAe : va_A (wd_X6_begin cs a_t a_t_rows r_t_rows v_t_known g_t_rows) s.heap.size = A at hD ⊢
  have hA : ∀ q : Nat, s.heap.size ≤ q → A q := fun q h => by rw [← hAe]; exact Or.inr h
  have hS : va_S A s.heap s.heap [] := va_S.rf
  have hl := lv_entry ([.ref a_t, .int p1]) (n := 3) (Nat.le_of_ble_eq_true rfl)
  rw [lg_entry_eq]
  generalize (lg_sl ([.ref a_t, .int p1]) ++ List.replicate (3 - (lg_sl ([.ref a_t, .int p1])).length) Slot.unset).toArray = ls at hl ⊢
  have hl : lv_has ls 3 [(0, .ref a_t), (1, .int p1)] := hl
  obtain ⟨y, hB, hK0⟩ : ∃ y, f_X6_begin g_t_rows p1 = some y ∧ KEnd R0 y := ⟨R0, hB, rfl⟩
  have hKT := hK
  have hK := hK0
  obtain ⟨H, hHe⟩ : ∃ H, H = s.heap := ⟨_, rfl⟩
  obtain ⟨locs, hLe⟩ : ∃ L : List Loc, L = [] := ⟨_, rfl⟩
  rw [← hHe] at hP
  have hS : va_S A s.heap H locs := by rw [hHe, hLe]; exact hS
  show W p l e rm_X6_begin s m ([.ref a_t, .int p1] : List Value).toArray below meth c s.heap [] 0 0 _ _
  suffices hgo : W p l e rm_X6_begin s m ([.ref a_t, .int p1] : List Value).toArray below meth c H locs 0 0 (MQ below (QcV G A (wd_X6_begin cs a_t a_t_rows r_t_rows R0.1 R0.2)) ([.ref a_t, .int p1] : List Value).toArray s 0 0 A) (F0 m 0 ls []) by rw [hHe, hLe] at hgo; exact hgo
  refine lv_aload_n hx hb dX6_begin_0 rfl (lv_at hl 0 rfl) ?_
  refine lv_iconst (v := 0) hx hb dX6_begin_1 (by decide) ?_
  refine va_put (D := G) (ci := 6) (v := .int (0 : Int32)) (ty := .int) (C := RX6) (T := TX6) (N := 2) hx hb hg inX6 tyX6 tyX6_ok nmX6 hown hKT hP hD hS 0 rfl rfl 1 (by decide) (hg _ gF_X6_16) (fun _ h9 => h9) rfl (by decide +kernel) rfl rfl (Nat.le_of_ble_eq_true rfl) dX6_begin_2 (fun H locs hP hD hS => ?_)
  have hP : va_P G vwCl (wd_X6_begin cs a_t a_t_rows r_t_rows (0 : Int32) g_t_rows) H := hP
  have hD : va_D A (wd_X6_begin cs a_t a_t_rows r_t_rows (0 : Int32) g_t_rows) := hD
  refine lv_iconst (v := 0) hx hb dX6_begin_5 (by decide) ?_
  refine lv_istore_n (lv' := [(2, .int (0 : Int32)), (0, .ref a_t), (1, .int p1)]) hx hb dX6_begin_6 rfl hl (by decide) rfl (fun ls hl => ?_)
  refine lp_ind (Wh := fun (z1 : Int32 × (Nat → Nat → Int32)) => ∀ (H : Heap) (locs : List Loc), va_P G vwCl (wd_X6_begin cs a_t a_t_rows r_t_rows (0 : Int32) z1.2) H → va_D A (wd_X6_begin cs a_t a_t_rows r_t_rows (0 : Int32) z1.2) → va_S A s.heap H locs → ∀ (ls : Array Slot), lv_has ls 3 [(0, .ref a_t), (1, .int p1), (2, .int z1.1)] → W p l e rm_X6_begin s m ([.ref a_t, .int p1] : List Value).toArray below meth c H locs 0 0 (MQ below (QcV G A (wd_X6_begin cs a_t a_t_rows r_t_rows R0.1 R0.2)) ([.ref a_t, .int p1] : List Value).toArray s 0 0 A) (F0 m 7 ls [])) ?_ FU _ _ hB hK H locs hP hD hS ls (lv_sub hl [1, 2, 0] rfl)
  rintro ⟨z1_0, z1_1⟩ y hB hK H locs hP hD hS ls hl
  have hl : lv_has ls 3 [(0, .ref a_t), (1, .int p1), (2, .int z1_0)] := hl
  have hP : va_P G vwCl (wd_X6_begin cs a_t a_t_rows r_t_rows (0 : Int32) z1_1) H := hP
  have hD : va_D A (wd_X6_begin cs a_t a_t_rows r_t_rows (0 : Int32) z1_1) := hD
  refine lv_iload_n hx hb dX6_begin_7 rfl (lv_at hl 2 rfl) ?_
  refine lv_bipush (v := 9) hx hb dX6_begin_8 (by decide) ?_
  refine lv_icmp_ge (tgt := 25) hx hb dX6_begin_10 (by decide) (fun c_2 => ?_) (fun c_2 => ?_)
  · have hB := ifP c_2 hB
    refine lv_aload_n hx hb dX6_begin_25 rfl (lv_at hl 0 rfl) ?_
    refine lv_iconst (v := 0) hx hb dX6_begin_26 (by decide) ?_
    refine lv_iload_n hx hb dX6_begin_27 rfl (lv_at hl 1 rfl) ?_
    obtain ⟨q3, hq3, hB⟩ := bnd hB
    refine kw_v (WC := wd_X6_put cs a_t a_t_rows r_t_rows (0 : Int32) z1_1) (W1 := wd_X6_put cs a_t a_t_rows r_t_rows (0 : Int32) q3) (W2 := wd_X6_begin cs a_t a_t_rows r_t_rows (0 : Int32) q3) (rw_V (As := [.int (0 : Int32), .int p1]) (rest := []) ⟨hx, hb, hml, hown, hg⟩ (k_X6_put l G cs a_t a_t_rows r_t_rows (0 : Int32) z1_1 (0 : Int32) p1 H.size q3 hq3) gM_X6_20 mI_X6_put (rmk rfl) hP hD hKT hN 0 rfl rfl [0, 1, 2, 3, 4, 5, 6, 7, 8, 9, 10, 11, 12] rfl rfl rfl hl.1 rfl (Nat.le_of_ble_eq_true rfl) dX6_begin_28) hP hD hS hA [0, 1, 2, 3, 4, 5, 6, 7, 8, 9, 10, 11, 12] [] [0, 1, 2, 3, 4, 5, 6, 7, 8, 9, 10, 11, 12] ⟨rfl, rfl, rfl, rfl, rfl, rfl, rfl⟩ (fun H locs hP hD hS => ?_)
    have hK := leafK hB hK
    have hK := elimR hK
    have hK : ((0 : Int32), q3) = R0 := hK
    subst hK
    exact W.vret hx hb hr (fun t ht hW => ⟨⟨(), rfl, trivial, by rw [ht]; exact hP, hD⟩, hS.F ht⟩) hS.2.2 dX6_begin_31
  · have hB := ifN c_2 hB
    refine lv_aload_n hx hb dX6_begin_13 rfl (lv_at hl 0 rfl) ?_
    refine lv_iload_n hx hb dX6_begin_14 rfl (lv_at hl 2 rfl) ?_
    refine lv_iconst (v := 0) hx hb dX6_begin_15 (by decide) ?_
    obtain ⟨q4, hq4, hB⟩ := bnd hB
    refine kw_v (WC := wd_X6_put cs a_t a_t_rows r_t_rows (0 : Int32) z1_1) (W1 := wd_X6_put cs a_t a_t_rows r_t_rows (0 : Int32) q4) (W2 := wd_X6_begin cs a_t a_t_rows r_t_rows (0 : Int32) q4) (rw_V (As := [.int z1_0, .int (0 : Int32)]) (rest := []) ⟨hx, hb, hml, hown, hg⟩ (k_X6_put l G cs a_t a_t_rows r_t_rows (0 : Int32) z1_1 z1_0 (0 : Int32) H.size q4 hq4) gM_X6_20 mI_X6_put (rmk rfl) hP hD hKT hN 0 rfl rfl [0, 1, 2, 3, 4, 5, 6, 7, 8, 9, 10, 11, 12] rfl rfl rfl hl.1 rfl (Nat.le_of_ble_eq_true rfl) dX6_begin_16) hP hD hS hA [0, 1, 2, 3, 4, 5, 6, 7, 8, 9, 10, 11, 12] [] [0, 1, 2, 3, 4, 5, 6, 7, 8, 9, 10, 11, 12] ⟨rfl, rfl, rfl, rfl, rfl, rfl, rfl⟩ (fun H locs hP hD hS => ?_)
    refine lv_iinc (v := z1_0 + (1 : Int32)) (lv' := [(2, .int (z1_0 + (1 : Int32))), (0, .ref a_t), (1, .int p1)]) hx hb dX6_begin_19 hl (k := 2) rfl (inc_ok (by decide)) (by decide) rfl (fun ls hl => ?_)
    refine lv_goto (tgt := 7) hx hb dX6_begin_22 (by decide) ?_
    have hK := leafK hB hK
    have hK := elimL hK
    exact hK H locs hP hD hS ls (lv_sub hl [1, 2, 0] rfl)
def wd_X6_at (cs : Nat → ClassId) (a_t a_t_rows : Nat) (r_t_rows : Nat → Nat) (v_t_known : Int32) (g_t_rows : Nat → Nat → Int32) : va_W := (a_t, .inr (6, [.ref a_t_rows, .int v_t_known])) :: (a_t_rows, .inl (cs 3, 11, .inr (.inr (.inr (.inr (gO r_t_rows)))))) :: gR (cs 0) r_t_rows g_t_rows
def rm_X6_at : Room := { frames := 0, cells := 0, slots := 0, locals := 0 }
theorem mI_X6_at : MI yX6_at RX6 cX6_at 2 (some .int) 1 := ⟨gI_X6_at, gE_X6_at, gN_X6, gC_X6_at, by decide +kernel⟩
set_option maxHeartbeats 4000000 in
set_option maxRecDepth 100000 in
theorem k_X6_at (l : Launch) (G : va_G) (cs : Nat → ClassId) (a_t a_t_rows : Nat) (r_t_rows : Nat → Nat) (v_t_known : Int32) (g_t_rows : Nat → Nat → Int32) (p1 : Int32) (R0 : Int32) (hB : f_X6_at v_t_known g_t_rows p1 = some R0) : Met l yX6_at (.code yX6_at cX6_at 2 (some .int) :: GW) rm_X6_at (PcR G cs [.ref a_t, .int p1] (wd_X6_at cs a_t a_t_rows r_t_rows v_t_known g_t_rows)) (vp_Si (fun r => r = R0)) 0 0 (fun _ => False) := by
  refine Met.ofW (cc := cX6_at) (maxL := 2) (ret := (some .int)) (by decide) rfl ?_
  intro p e s m args below meth c s₁ B hml hv
  obtain ⟨rfl, hP, hK, hN⟩ := hv
  have hx := B.exec
  have hb := B.bytes
  have hr := B.returns
  have hts := atoms_spec (ws := .code yX6_at cX6_at 2 (some .int) :: GW) B.pre
  have hg : ∀ w ∈ GW, w.before _ s = true := fun w h => hts w (List.mem_cons_of_mem _ h)
  have hown : s.vm.findClass RX6 = some m.cls := findClass_of_methodNamed B.named
  have hlocks := B.notSynchronized
  have hl := lv_entry ([.ref a_t, .int p1]) (n := 2) (Nat.le_of_ble_eq_true rfl)
  rw [lg_entry_eq]
  generalize (lg_sl ([.ref a_t, .int p1]) ++ List.replicate (2 - (lg_sl ([.ref a_t, .int p1])).length) Slot.unset).toArray = ls at hl ⊢
  have hl : lv_has ls 2 [(0, .ref a_t), (1, .int p1)] := hl
  obtain ⟨y, hB, hK0⟩ : ∃ y, f_X6_at v_t_known g_t_rows p1 = some y ∧ KEnd R0 y := ⟨R0, hB, rfl⟩
  have hKT := hK
  have hK := hK0
  show W p l e rm_X6_at s m ([.ref a_t, .int p1] : List Value).toArray below meth c s.heap [] 0 0 (MQ below (vp_Si (fun r => r = R0)) ([.ref a_t, .int p1] : List Value).toArray s 0 0 (fun _ => False)) (F0 m 0 ls [])
  refine lv_aload_n hx hb dX6_at_0 rfl (lv_at hl 0 rfl) ?_
  refine va_get (D := G) (ci := 6) (v := .int v_t_known) (C := RX6) (T := TX6) (N := 2) hx hb hg inX6 hown hKT hP 0 rfl rfl 1 (by decide) (hg _ gF_X6_16) (fun _ h9 => h9) rfl dX6_at_1 ?_
  refine lv_if_lt (tgt := 40) hx hb dX6_at_4 (by decide) (fun c_1 => ?_) (fun c_1 => ?_)
  · have hB := ifP c_1 hB
    refine lv_iconst (v := 0) hx hb dX6_at_40 (by decide) ?_
    have hK := leafK hB hK
    have hK : (0 : Int32) = R0 := hK
    subst hK
    exact W.iret (v := (0 : Int32)) hx hb hr (fun t ht hW => ⟨_, rfl, rfl, ht⟩) (fun _ h => by cases h) dX6_at_41
  · have hB := ifN c_1 hB
    refine lv_aload_n hx hb dX6_at_7 rfl (lv_at hl 0 rfl) ?_
    refine va_get (D := G) (ci := 6) (v := .int v_t_known) (C := RX6) (T := TX6) (N := 2) hx hb hg inX6 hown hKT hP 0 rfl rfl 1 (by decide) (hg _ gF_X6_16) (fun _ h9 => h9) rfl dX6_at_8 ?_
    refine lv_bipush (v := 10) hx hb dX6_at_11 (by decide) ?_
    refine lv_icmp_gt (tgt := 40) hx hb dX6_at_13 (by decide) (fun c_2 => ?_) (fun c_2 => ?_)
    · have hB := ifP c_2 hB
      refine lv_iconst (v := 0) hx hb dX6_at_40 (by decide) ?_
      have hK := leafK hB hK
      have hK : (0 : Int32) = R0 := hK
      subst hK
      exact W.iret (v := (0 : Int32)) hx hb hr (fun t ht hW => ⟨_, rfl, rfl, ht⟩) (fun _ h => by cases h) dX6_at_41
    · have hB := ifN c_2 hB
      refine lv_iload_n hx hb dX6_at_16 rfl (lv_at hl 1 rfl) ?_
      refine lv_if_lt (tgt := 40) hx hb dX6_at_17 (by decide) (fun c_3 => ?_) (fun c_3 => ?_)
      · have hB := ifP c_3 hB
        refine lv_iconst (v := 0) hx hb dX6_at_40 (by decide) ?_
        have hK := leafK hB hK
        have hK : (0 : Int32) = R0 := hK
        subst hK
        exact W.iret (v := (0 : Int32)) hx hb hr (fun t ht hW => ⟨_, rfl, rfl, ht⟩) (fun _ h => by cases h) dX6_at_41
      · have hB := ifN c_3 hB
        refine lv_iload_n hx hb dX6_at_20 rfl (lv_at hl 1 rfl) ?_
        refine lv_bipush (v := 9) hx hb dX6_at_21 (by decide) ?_
        refine lv_icmp_ge (tgt := 40) hx hb dX6_at_23 (by decide) (fun c_4 => ?_) (fun c_4 => ?_)
        · have hB := ifP c_4 hB
          refine lv_iconst (v := 0) hx hb dX6_at_40 (by decide) ?_
          have hK := leafK hB hK
          have hK : (0 : Int32) = R0 := hK
          subst hK
          exact W.iret (v := (0 : Int32)) hx hb hr (fun t ht hW => ⟨_, rfl, rfl, ht⟩) (fun _ h => by cases h) dX6_at_41
        · have hB := ifN c_4 hB
          refine lv_aload_n hx hb dX6_at_26 rfl (lv_at hl 0 rfl) ?_
          refine va_get (D := G) (ci := 6) (v := .ref a_t_rows) (C := RX6) (T := TX6) (N := 2) hx hb hg inX6 hown hKT hP 0 rfl rfl 0 (by decide) (hg _ gF_X6_13) (fun _ h9 => h9) rfl dX6_at_27 ?_
          refine lv_aload_n hx hb dX6_at_30 rfl (lv_at hl 0 rfl) ?_
          refine va_get (D := G) (ci := 6) (v := .int v_t_known) (C := RX6) (T := TX6) (N := 2) hx hb hg inX6 hown hKT hP 0 rfl rfl 1 (by decide) (hg _ gF_X6_16) (fun _ h9 => h9) rfl dX6_at_31 ?_
          obtain ⟨h_5, hB⟩ := ifS hB
          refine va_row hx hb hKT hP 1 rfl h_5 dX6_at_34 ?_
          refine lv_iload_n hx hb dX6_at_35 rfl (lv_at hl 1 rfl) ?_
          obtain ⟨h_6, hB⟩ := ifS hB
          refine va_iald hx hb hKT hP (v_t_known.toNatClampNeg + 2) 0 (gR_at (vp_lt h_5)) rfl h_6 dX6_at_36 ?_
          refine lv_goto (tgt := 41) hx hb dX6_at_37 (by decide) ?_
          have hK := leafK hB hK
          have hK : (g_t_rows v_t_known.toNatClampNeg p1.toNatClampNeg) = R0 := hK
          subst hK
          exact W.iret (v := g_t_rows v_t_known.toNatClampNeg p1.toNatClampNeg) hx hb hr (fun t ht hW => ⟨_, rfl, rfl, ht⟩) (fun _ h => by cases h) dX6_at_41
def wd_X6_book (cs : Nat → ClassId) (a_t a_t_rows : Nat) (r_t_rows : Nat → Nat) (v_t_known : Int32) (g_t_rows : Nat → Nat → Int32) : va_W := (a_t, .inr (6, [.ref a_t_rows, .int v_t_known])) :: (a_t_rows, .inl (cs 3, 11, .inr (.inr (.inr (.inr (gO r_t_rows)))))) :: gR (cs 0) r_t_rows g_t_rows
def rm_X6_book : Room := { frames := 1, cells := 0, slots := 0, locals := 21 }
theorem mI_X6_book : MI yX6_book RX6 cX6_book 1 (some .int) 0 := ⟨gI_X6_book, gE_X6_book, gN_X6, gC_X6_book, by decide +kernel⟩
set_option maxHeartbeats 4000000 in
set_option maxRecDepth 100000 in
theorem k_X6_book (l : Launch) (G : va_G) (cs : Nat → ClassId) (a_t a_t_rows : Nat) (r_t_rows : Nat → Nat) (v_t_known : Int32) (g_t_rows : Nat → Nat → Int32) (R0 : Int32) (hB : f_X6_book v_t_known g_t_rows = some R0) : Met l yX6_book (.code yX6_book cX6_book 1 (some .int) :: GW) rm_X6_book (PcR G cs [.ref a_t] (wd_X6_book cs a_t a_t_rows r_t_rows v_t_known g_t_rows)) (vp_Si (fun r => r = R0)) 0 0 (fun _ => False) := by
  refine Met.ofW (cc := cX6_book) (maxL := 1) (ret := (some .int)) (by decide) rfl ?_
  intro p e s m args below meth c s₁ B hml hv
  obtain ⟨rfl, hP, hK, hN⟩ := hv
  have hx := B.exec
  have hb := B.bytes
  have hr := B.returns
  have hts := atoms_spec (ws := .code yX6_book cX6_book 1 (some .int) :: GW) B.pre
  have hg : ∀ w ∈ GW, w.before _ s = true := fun w h => hts w (List.mem_cons_of_mem _ h)
  have hown : s.vm.findClass RX6 = some m.cls := findClass_of_methodNamed B.named
  have hlocks := B.notSynchronized
  have hl := lv_entry ([.ref a_t]) (n := 1) (Nat.le_of_ble_eq_true rfl)
  rw [lg_entry_eq]
  generalize (lg_sl ([.ref a_t]) ++ List.replicate (1 - (lg_sl ([.ref a_t])).length) Slot.unset).toArray = ls at hl ⊢
  have hl : lv_has ls 1 [(0, .ref a_t)] := hl
  obtain ⟨y, hB, hK0⟩ : ∃ y, f_X6_book v_t_known g_t_rows = some y ∧ KEnd R0 y := ⟨R0, hB, rfl⟩
  have hKT := hK
  have hK := hK0
  show W p l e rm_X6_book s m ([.ref a_t] : List Value).toArray below meth c s.heap [] 0 0 (MQ below (vp_Si (fun r => r = R0)) ([.ref a_t] : List Value).toArray s 0 0 (fun _ => False)) (F0 m 0 ls [])
  refine lv_aload_n hx hb dX6_book_0 rfl (lv_at hl 0 rfl) ?_
  refine lv_iconst (v := 0) hx hb dX6_book_1 (by decide) ?_
  obtain ⟨q1, hq1, hB⟩ := bnd hB
  refine kr_V (WC := wd_X6_at cs a_t a_t_rows r_t_rows v_t_known g_t_rows) (As := [.int (0 : Int32)]) (rest := []) (r0 := q1) ⟨hx, hb, hml, hown, hg⟩ (k_X6_at l G cs a_t a_t_rows r_t_rows v_t_known g_t_rows (0 : Int32) q1 hq1) gM_X6_24 mI_X6_at (rmk rfl) hP hKT hN 0 rfl rfl [0, 1, 2, 3, 4, 5, 6, 7, 8, 9, 10, 11, 12] rfl rfl hl.1 rfl (Nat.le_of_ble_eq_true rfl) dX6_book_2 ?_
  have hK := leafK hB hK
  have hK : q1 = R0 := hK
  subst hK
  exact W.iret (v := q1) hx hb hr (fun t ht hW => ⟨_, rfl, rfl, ht⟩) (fun _ h => by cases h) dX6_book_5
def wd_X6_copiesNow (cs : Nat → ClassId) (a_t a_t_rows : Nat) (r_t_rows : Nat → Nat) (v_t_known : Int32) (g_t_rows : Nat → Nat → Int32) : va_W := (a_t, .inr (6, [.ref a_t_rows, .int v_t_known])) :: (a_t_rows, .inl (cs 3, 11, .inr (.inr (.inr (.inr (gO r_t_rows)))))) :: gR (cs 0) r_t_rows g_t_rows
def rm_X6_copiesNow : Room := { frames := 1, cells := 0, slots := 0, locals := 21 }
theorem mI_X6_copiesNow : MI yX6_copiesNow RX6 cX6_copiesNow 1 (some .int) 0 := ⟨gI_X6_copiesNow, gE_X6_copiesNow, gN_X6, gC_X6_copiesNow, by decide +kernel⟩
set_option maxHeartbeats 4000000 in
set_option maxRecDepth 100000 in
theorem k_X6_copiesNow (l : Launch) (G : va_G) (cs : Nat → ClassId) (a_t a_t_rows : Nat) (r_t_rows : Nat → Nat) (v_t_known : Int32) (g_t_rows : Nat → Nat → Int32) (R0 : Int32) (hB : f_X6_copiesNow v_t_known g_t_rows = some R0) : Met l yX6_copiesNow (.code yX6_copiesNow cX6_copiesNow 1 (some .int) :: GW) rm_X6_copiesNow (PcR G cs [.ref a_t] (wd_X6_copiesNow cs a_t a_t_rows r_t_rows v_t_known g_t_rows)) (vp_Si (fun r => r = R0)) 0 0 (fun _ => False) := by
  refine Met.ofW (cc := cX6_copiesNow) (maxL := 1) (ret := (some .int)) (by decide) rfl ?_
  intro p e s m args below meth c s₁ B hml hv
  obtain ⟨rfl, hP, hK, hN⟩ := hv
  have hx := B.exec
  have hb := B.bytes
  have hr := B.returns
  have hts := atoms_spec (ws := .code yX6_copiesNow cX6_copiesNow 1 (some .int) :: GW) B.pre
  have hg : ∀ w ∈ GW, w.before _ s = true := fun w h => hts w (List.mem_cons_of_mem _ h)
  have hown : s.vm.findClass RX6 = some m.cls := findClass_of_methodNamed B.named
  have hlocks := B.notSynchronized
  have hl := lv_entry ([.ref a_t]) (n := 1) (Nat.le_of_ble_eq_true rfl)
  rw [lg_entry_eq]
  generalize (lg_sl ([.ref a_t]) ++ List.replicate (1 - (lg_sl ([.ref a_t])).length) Slot.unset).toArray = ls at hl ⊢
  have hl : lv_has ls 1 [(0, .ref a_t)] := hl
  obtain ⟨y, hB, hK0⟩ : ∃ y, f_X6_copiesNow v_t_known g_t_rows = some y ∧ KEnd R0 y := ⟨R0, hB, rfl⟩
  have hKT := hK
  have hK := hK0
  show W p l e rm_X6_copiesNow s m ([.ref a_t] : List Value).toArray below meth c s.heap [] 0 0 (MQ below (vp_Si (fun r => r = R0)) ([.ref a_t] : List Value).toArray s 0 0 (fun _ => False)) (F0 m 0 ls [])
  refine lv_aload_n hx hb dX6_copiesNow_0 rfl (lv_at hl 0 rfl) ?_
  refine lv_iconst (v := 1) hx hb dX6_copiesNow_1 (by decide) ?_
  obtain ⟨q1, hq1, hB⟩ := bnd hB
  refine kr_V (WC := wd_X6_at cs a_t a_t_rows r_t_rows v_t_known g_t_rows) (As := [.int (1 : Int32)]) (rest := []) (r0 := q1) ⟨hx, hb, hml, hown, hg⟩ (k_X6_at l G cs a_t a_t_rows r_t_rows v_t_known g_t_rows (1 : Int32) q1 hq1) gM_X6_24 mI_X6_at (rmk rfl) hP hKT hN 0 rfl rfl [0, 1, 2, 3, 4, 5, 6, 7, 8, 9, 10, 11, 12] rfl rfl hl.1 rfl (Nat.le_of_ble_eq_true rfl) dX6_copiesNow_2 ?_
  have hK := leafK hB hK
  have hK : q1 = R0 := hK
  subst hK
  exact W.iret (v := q1) hx hb hr (fun t ht hW => ⟨_, rfl, rfl, ht⟩) (fun _ h => by cases h) dX6_copiesNow_5
def wd_X6_released (cs : Nat → ClassId) (a_t a_t_rows : Nat) (r_t_rows : Nat → Nat) (v_t_known : Int32) (g_t_rows : Nat → Nat → Int32) : va_W := (a_t, .inr (6, [.ref a_t_rows, .int v_t_known])) :: (a_t_rows, .inl (cs 3, 11, .inr (.inr (.inr (.inr (gO r_t_rows)))))) :: gR (cs 0) r_t_rows g_t_rows
def rm_X6_released : Room := { frames := 1, cells := 0, slots := 0, locals := 21 }
theorem mI_X6_released : MI yX6_released RX6 cX6_released 1 (some .int) 0 := ⟨gI_X6_released, gE_X6_released, gN_X6, gC_X6_released, by decide +kernel⟩
set_option maxHeartbeats 4000000 in
set_option maxRecDepth 100000 in
theorem k_X6_released (l : Launch) (G : va_G) (cs : Nat → ClassId) (a_t a_t_rows : Nat) (r_t_rows : Nat → Nat) (v_t_known : Int32) (g_t_rows : Nat → Nat → Int32) (R0 : Int32) (hB : f_X6_released v_t_known g_t_rows = some R0) : Met l yX6_released (.code yX6_released cX6_released 1 (some .int) :: GW) rm_X6_released (PcR G cs [.ref a_t] (wd_X6_released cs a_t a_t_rows r_t_rows v_t_known g_t_rows)) (vp_Si (fun r => r = R0)) 0 0 (fun _ => False) := by
  refine Met.ofW (cc := cX6_released) (maxL := 1) (ret := (some .int)) (by decide) rfl ?_
  intro p e s m args below meth c s₁ B hml hv
  obtain ⟨rfl, hP, hK, hN⟩ := hv
  have hx := B.exec
  have hb := B.bytes
  have hr := B.returns
  have hts := atoms_spec (ws := .code yX6_released cX6_released 1 (some .int) :: GW) B.pre
  have hg : ∀ w ∈ GW, w.before _ s = true := fun w h => hts w (List.mem_cons_of_mem _ h)
  have hown : s.vm.findClass RX6 = some m.cls := findClass_of_methodNamed B.named
  have hlocks := B.notSynchronized
  have hl := lv_entry ([.ref a_t]) (n := 1) (Nat.le_of_ble_eq_true rfl)
  rw [lg_entry_eq]
  generalize (lg_sl ([.ref a_t]) ++ List.replicate (1 - (lg_sl ([.ref a_t])).length) Slot.unset).toArray = ls at hl ⊢
  have hl : lv_has ls 1 [(0, .ref a_t)] := hl
  obtain ⟨y, hB, hK0⟩ : ∃ y, f_X6_released v_t_known g_t_rows = some y ∧ KEnd R0 y := ⟨R0, hB, rfl⟩
  have hKT := hK
  have hK := hK0
  show W p l e rm_X6_released s m ([.ref a_t] : List Value).toArray below meth c s.heap [] 0 0 (MQ below (vp_Si (fun r => r = R0)) ([.ref a_t] : List Value).toArray s 0 0 (fun _ => False)) (F0 m 0 ls [])
  refine lv_aload_n hx hb dX6_released_0 rfl (lv_at hl 0 rfl) ?_
  refine lv_iconst (v := 2) hx hb dX6_released_1 (by decide) ?_
  obtain ⟨q1, hq1, hB⟩ := bnd hB
  refine kr_V (WC := wd_X6_at cs a_t a_t_rows r_t_rows v_t_known g_t_rows) (As := [.int (2 : Int32)]) (rest := []) (r0 := q1) ⟨hx, hb, hml, hown, hg⟩ (k_X6_at l G cs a_t a_t_rows r_t_rows v_t_known g_t_rows (2 : Int32) q1 hq1) gM_X6_24 mI_X6_at (rmk rfl) hP hKT hN 0 rfl rfl [0, 1, 2, 3, 4, 5, 6, 7, 8, 9, 10, 11, 12] rfl rfl hl.1 rfl (Nat.le_of_ble_eq_true rfl) dX6_released_2 ?_
  have hK := leafK hB hK
  have hK : q1 = R0 := hK
  subst hK
  exact W.iret (v := q1) hx hb hr (fun t ht hW => ⟨_, rfl, rfl, ht⟩) (fun _ h => by cases h) dX6_released_5
def wd_X6_isReleased (cs : Nat → ClassId) (a_t a_t_rows : Nat) (r_t_rows : Nat → Nat) (v_t_known : Int32) (g_t_rows : Nat → Nat → Int32) : va_W := (a_t, .inr (6, [.ref a_t_rows, .int v_t_known])) :: (a_t_rows, .inl (cs 3, 11, .inr (.inr (.inr (.inr (gO r_t_rows)))))) :: gR (cs 0) r_t_rows g_t_rows
def rm_X6_isReleased : Room := { frames := 2, cells := 0, slots := 0, locals := 41 }
theorem mI_X6_isReleased : MI yX6_isReleased RX6 cX6_isReleased 2 (some .boolean) 1 := ⟨gI_X6_isReleased, gE_X6_isReleased, gN_X6, gC_X6_isReleased, by decide +kernel⟩
set_option maxHeartbeats 4000000 in
set_option maxRecDepth 100000 in
theorem k_X6_isReleased (l : Launch) (G : va_G) (cs : Nat → ClassId) (a_t a_t_rows : Nat) (r_t_rows : Nat → Nat) (v_t_known : Int32) (g_t_rows : Nat → Nat → Int32) (p1 : Int32) (R0 : Int32) (hB : f_X6_isReleased v_t_known g_t_rows p1 = some R0) : Met l yX6_isReleased (.code yX6_isReleased cX6_isReleased 2 (some .boolean) :: GW) rm_X6_isReleased (PcR G cs [.ref a_t, .int p1] (wd_X6_isReleased cs a_t a_t_rows r_t_rows v_t_known g_t_rows)) (vp_Si (fun r => r = R0)) 0 0 (fun _ => False) := by
  refine Met.ofW (cc := cX6_isReleased) (maxL := 2) (ret := (some .boolean)) (by decide) rfl ?_
  intro p e s m args below meth c s₁ B hml hv
  obtain ⟨rfl, hP, hK, hN⟩ := hv
  have hx := B.exec
  have hb := B.bytes
  have hr := B.returns
  have hts := atoms_spec (ws := .code yX6_isReleased cX6_isReleased 2 (some .boolean) :: GW) B.pre
  have hg : ∀ w ∈ GW, w.before _ s = true := fun w h => hts w (List.mem_cons_of_mem _ h)
  have hown : s.vm.findClass RX6 = some m.cls := findClass_of_methodNamed B.named
  have hlocks := B.notSynchronized
  have hl := lv_entry ([.ref a_t, .int p1]) (n := 2) (Nat.le_of_ble_eq_true rfl)
  rw [lg_entry_eq]
  generalize (lg_sl ([.ref a_t, .int p1]) ++ List.replicate (2 - (lg_sl ([.ref a_t, .int p1])).length) Slot.unset).toArray = ls at hl ⊢
  have hl : lv_has ls 2 [(0, .ref a_t), (1, .int p1)] := hl
  obtain ⟨y, hB, hK0⟩ : ∃ y, f_X6_isReleased v_t_known g_t_rows p1 = some y ∧ KEnd R0 y := ⟨R0, hB, rfl⟩
  have hKT := hK
  have hK := hK0
  show W p l e rm_X6_isReleased s m ([.ref a_t, .int p1] : List Value).toArray below meth c s.heap [] 0 0 (MQ below (vp_Si (fun r => r = R0)) ([.ref a_t, .int p1] : List Value).toArray s 0 0 (fun _ => False)) (F0 m 0 ls [])
  refine lv_aload_n hx hb dX6_isReleased_0 rfl (lv_at hl 0 rfl) ?_
  obtain ⟨q1, hq1, hB⟩ := bnd hB
  refine kr_V (WC := wd_X6_released cs a_t a_t_rows r_t_rows v_t_known g_t_rows) (As := []) (rest := []) (r0 := q1) ⟨hx, hb, hml, hown, hg⟩ (k_X6_released l G cs a_t a_t_rows r_t_rows v_t_known g_t_rows q1 hq1) gM_X6_28 mI_X6_released (rmk rfl) hP hKT hN 0 rfl rfl [0, 1, 2, 3, 4, 5, 6, 7, 8, 9, 10, 11, 12] rfl rfl hl.1 rfl (Nat.le_of_ble_eq_true rfl) dX6_isReleased_1 ?_
  refine lv_iload_n hx hb dX6_isReleased_4 rfl (lv_at hl 1 rfl) ?_
  refine lj_ishr hx hb dX6_isReleased_5 ?_
  refine lv_iconst (v := 1) hx hb dX6_isReleased_6 (by decide) ?_
  refine lv_iand hx hb dX6_isReleased_7 ?_
  refine lv_iconst (v := 1) hx hb dX6_isReleased_8 (by decide) ?_
  refine lv_icmp_ne (tgt := 16) hx hb dX6_isReleased_9 (by decide) (fun c_2 => ?_) (fun c_2 => ?_)
  · have hB := ifN c_2 hB
    refine lv_iconst (v := 0) hx hb dX6_isReleased_16 (by decide) ?_
    have hK := leafK hB hK
    have hK : (0 : Int32) = R0 := hK
    subst hK
    exact W.zret (v := (0 : Int32)) (ty := .boolean) hx hb hr rfl (fun t ht hW => ⟨_, rfl, rfl, ht⟩) (fun _ h => by cases h) dX6_isReleased_17
  · have hB := ifP c_2 hB
    refine lv_iconst (v := 1) hx hb dX6_isReleased_12 (by decide) ?_
    refine lv_goto (tgt := 17) hx hb dX6_isReleased_13 (by decide) ?_
    have hK := leafK hB hK
    have hK : (1 : Int32) = R0 := hK
    subst hK
    exact W.zret (v := (1 : Int32)) (ty := .boolean) hx hb hr rfl (fun t ht hW => ⟨_, rfl, rfl, ht⟩) (fun _ h => by cases h) dX6_isReleased_17
def wd_X6_timesOf (cs : Nat → ClassId) (a_t a_t_rows : Nat) (r_t_rows : Nat → Nat) (v_t_known : Int32) (g_t_rows : Nat → Nat → Int32) : va_W := (a_t, .inr (6, [.ref a_t_rows, .int v_t_known])) :: (a_t_rows, .inl (cs 3, 11, .inr (.inr (.inr (.inr (gO r_t_rows)))))) :: gR (cs 0) r_t_rows g_t_rows
def rm_X6_timesOf : Room := { frames := 1, cells := 0, slots := 0, locals := 21 }
theorem mI_X6_timesOf : MI yX6_timesOf RX6 cX6_timesOf 2 (some .int) 1 := ⟨gI_X6_timesOf, gE_X6_timesOf, gN_X6, gC_X6_timesOf, by decide +kernel⟩
set_option maxHeartbeats 4000000 in
set_option maxRecDepth 100000 in
theorem k_X6_timesOf (l : Launch) (G : va_G) (cs : Nat → ClassId) (a_t a_t_rows : Nat) (r_t_rows : Nat → Nat) (v_t_known : Int32) (g_t_rows : Nat → Nat → Int32) (p1 : Int32) (R0 : Int32) (hB : f_X6_timesOf v_t_known g_t_rows p1 = some R0) : Met l yX6_timesOf (.code yX6_timesOf cX6_timesOf 2 (some .int) :: GW) rm_X6_timesOf (PcR G cs [.ref a_t, .int p1] (wd_X6_timesOf cs a_t a_t_rows r_t_rows v_t_known g_t_rows)) (vp_Si (fun r => r = R0)) 0 0 (fun _ => False) := by
  refine Met.ofW (cc := cX6_timesOf) (maxL := 2) (ret := (some .int)) (by decide) rfl ?_
  intro p e s m args below meth c s₁ B hml hv
  obtain ⟨rfl, hP, hK, hN⟩ := hv
  have hx := B.exec
  have hb := B.bytes
  have hr := B.returns
  have hts := atoms_spec (ws := .code yX6_timesOf cX6_timesOf 2 (some .int) :: GW) B.pre
  have hg : ∀ w ∈ GW, w.before _ s = true := fun w h => hts w (List.mem_cons_of_mem _ h)
  have hown : s.vm.findClass RX6 = some m.cls := findClass_of_methodNamed B.named
  have hlocks := B.notSynchronized
  have hl := lv_entry ([.ref a_t, .int p1]) (n := 2) (Nat.le_of_ble_eq_true rfl)
  rw [lg_entry_eq]
  generalize (lg_sl ([.ref a_t, .int p1]) ++ List.replicate (2 - (lg_sl ([.ref a_t, .int p1])).length) Slot.unset).toArray = ls at hl ⊢
  have hl : lv_has ls 2 [(0, .ref a_t), (1, .int p1)] := hl
  obtain ⟨y, hB, hK0⟩ : ∃ y, f_X6_timesOf v_t_known g_t_rows p1 = some y ∧ KEnd R0 y := ⟨R0, hB, rfl⟩
  have hKT := hK
  have hK := hK0
  show W p l e rm_X6_timesOf s m ([.ref a_t, .int p1] : List Value).toArray below meth c s.heap [] 0 0 (MQ below (vp_Si (fun r => r = R0)) ([.ref a_t, .int p1] : List Value).toArray s 0 0 (fun _ => False)) (F0 m 0 ls [])
  refine lv_aload_n hx hb dX6_timesOf_0 rfl (lv_at hl 0 rfl) ?_
  refine lv_iconst (v := 3) hx hb dX6_timesOf_1 (by decide) ?_
  refine lv_iload_n hx hb dX6_timesOf_2 rfl (lv_at hl 1 rfl) ?_
  refine lv_iadd hx hb dX6_timesOf_3 ?_
  obtain ⟨q1, hq1, hB⟩ := bnd hB
  refine kr_V (WC := wd_X6_at cs a_t a_t_rows r_t_rows v_t_known g_t_rows) (As := [.int ((3 : Int32) + p1)]) (rest := []) (r0 := q1) ⟨hx, hb, hml, hown, hg⟩ (k_X6_at l G cs a_t a_t_rows r_t_rows v_t_known g_t_rows ((3 : Int32) + p1) q1 hq1) gM_X6_24 mI_X6_at (rmk rfl) hP hKT hN 0 rfl rfl [0, 1, 2, 3, 4, 5, 6, 7, 8, 9, 10, 11, 12] rfl rfl hl.1 rfl (Nat.le_of_ble_eq_true rfl) dX6_timesOf_4 ?_
  have hK := leafK hB hK
  have hK : q1 = R0 := hK
  subst hK
  exact W.iret (v := q1) hx hb hr (fun t ht hW => ⟨_, rfl, rfl, ht⟩) (fun _ h => by cases h) dX6_timesOf_7
def wd_X6_setBook (cs : Nat → ClassId) (a_t a_t_rows : Nat) (r_t_rows : Nat → Nat) (v_t_known : Int32) (g_t_rows : Nat → Nat → Int32) : va_W := (a_t, .inr (6, [.ref a_t_rows, .int v_t_known])) :: (a_t_rows, .inl (cs 3, 11, .inr (.inr (.inr (.inr (gO r_t_rows)))))) :: gR (cs 0) r_t_rows g_t_rows
def rm_X6_setBook : Room := { frames := 1, cells := 0, slots := 0, locals := 22 }
theorem mI_X6_setBook : MI yX6_setBook RX6 cX6_setBook 2 none 1 := ⟨gI_X6_setBook, gE_X6_setBook, gN_X6, gC_X6_setBook, by decide +kernel⟩
set_option maxHeartbeats 4000000 in
set_option maxRecDepth 100000 in
theorem k_X6_setBook (l : Launch) (G : va_G) (cs : Nat → ClassId) (a_t a_t_rows : Nat) (r_t_rows : Nat → Nat) (v_t_known : Int32) (g_t_rows : Nat → Nat → Int32) (p1 : Int32) (sz : Nat) (R0 : (Nat → Nat → Int32)) (hB : f_X6_setBook v_t_known g_t_rows p1 = some R0) : Met l yX6_setBook (.code yX6_setBook cX6_setBook 2 none :: GW) rm_X6_setBook (PcW G cs [.ref a_t, .int p1] (wd_X6_setBook cs a_t a_t_rows r_t_rows v_t_known g_t_rows) sz) (QcV G (va_A (wd_X6_setBook cs a_t a_t_rows r_t_rows v_t_known g_t_rows) sz) (wd_X6_setBook cs a_t a_t_rows r_t_rows v_t_known R0)) 0 0 (va_A (wd_X6_setBook cs a_t a_t_rows r_t_rows v_t_known g_t_rows) sz) := by
  refine Met.ofW (cc := cX6_setBook) (maxL := 2) (ret := none) (by decide) rfl ?_
  intro p e s m args below meth c s₁ B hml hv
  obtain ⟨rfl, hsz, hP, hD0, hK, hN⟩ := hv
  have hx := B.exec
  have hb := B.bytes
  have hr := B.returns
  have hts := atoms_spec (ws := .code yX6_setBook cX6_setBook 2 none :: GW) B.pre
  have hg : ∀ w ∈ GW, w.before _ s = true := fun w h => hts w (List.mem_cons_of_mem _ h)
  have hown : s.vm.findClass RX6 = some m.cls := findClass_of_methodNamed B.named
  have hlocks := B.notSynchronized
  subst hsz
  have hD := hD0.self (sz := s.heap.size)
  generalize hAe : va_A (wd_X6_setBook cs a_t a_t_rows r_t_rows v_t_known g_t_rows) s.heap.size = A at hD ⊢
  have hA : ∀ q : Nat, s.heap.size ≤ q → A q := fun q h => by rw [← hAe]; exact Or.inr h
  have hS : va_S A s.heap s.heap [] := va_S.rf
  have hl := lv_entry ([.ref a_t, .int p1]) (n := 2) (Nat.le_of_ble_eq_true rfl)
  rw [lg_entry_eq]
  generalize (lg_sl ([.ref a_t, .int p1]) ++ List.replicate (2 - (lg_sl ([.ref a_t, .int p1])).length) Slot.unset).toArray = ls at hl ⊢
  have hl : lv_has ls 2 [(0, .ref a_t), (1, .int p1)] := hl
  obtain ⟨y, hB, hK0⟩ : ∃ y, f_X6_setBook v_t_known g_t_rows p1 = some y ∧ KEnd R0 y := ⟨R0, hB, rfl⟩
  have hKT := hK
  have hK := hK0
  obtain ⟨H, hHe⟩ : ∃ H, H = s.heap := ⟨_, rfl⟩
  obtain ⟨locs, hLe⟩ : ∃ L : List Loc, L = [] := ⟨_, rfl⟩
  rw [← hHe] at hP
  have hS : va_S A s.heap H locs := by rw [hHe, hLe]; exact hS
  show W p l e rm_X6_setBook s m ([.ref a_t, .int p1] : List Value).toArray below meth c s.heap [] 0 0 _ _
  suffices hgo : W p l e rm_X6_setBook s m ([.ref a_t, .int p1] : List Value).toArray below meth c H locs 0 0 (MQ below (QcV G A (wd_X6_setBook cs a_t a_t_rows r_t_rows v_t_known R0)) ([.ref a_t, .int p1] : List Value).toArray s 0 0 A) (F0 m 0 ls []) by rw [hHe, hLe] at hgo; exact hgo
  refine lv_aload_n hx hb dX6_setBook_0 rfl (lv_at hl 0 rfl) ?_
  refine lv_iconst (v := 0) hx hb dX6_setBook_1 (by decide) ?_
  refine lv_iload_n hx hb dX6_setBook_2 rfl (lv_at hl 1 rfl) ?_
  obtain ⟨q1, hq1, hB⟩ := bnd hB
  refine kw_v (WC := wd_X6_put cs a_t a_t_rows r_t_rows v_t_known g_t_rows) (W1 := wd_X6_put cs a_t a_t_rows r_t_rows v_t_known q1) (W2 := wd_X6_setBook cs a_t a_t_rows r_t_rows v_t_known q1) (rw_V (As := [.int (0 : Int32), .int p1]) (rest := []) ⟨hx, hb, hml, hown, hg⟩ (k_X6_put l G cs a_t a_t_rows r_t_rows v_t_known g_t_rows (0 : Int32) p1 H.size q1 hq1) gM_X6_20 mI_X6_put (rmk rfl) hP hD hKT hN 0 rfl rfl [0, 1, 2, 3, 4, 5, 6, 7, 8, 9, 10, 11, 12] rfl rfl rfl hl.1 rfl (Nat.le_of_ble_eq_true rfl) dX6_setBook_3) hP hD hS hA [0, 1, 2, 3, 4, 5, 6, 7, 8, 9, 10, 11, 12] [] [0, 1, 2, 3, 4, 5, 6, 7, 8, 9, 10, 11, 12] ⟨rfl, rfl, rfl, rfl, rfl, rfl, rfl⟩ (fun H locs hP hD hS => ?_)
  have hK := leafK hB hK
  have hK : q1 = R0 := hK
  subst hK
  exact W.vret hx hb hr (fun t ht hW => ⟨⟨(), rfl, trivial, by rw [ht]; exact hP, hD⟩, hS.F ht⟩) hS.2.2 dX6_setBook_6
def wd_X6_copied (cs : Nat → ClassId) (a_t a_t_rows : Nat) (r_t_rows : Nat → Nat) (v_t_known : Int32) (g_t_rows : Nat → Nat → Int32) : va_W := (a_t, .inr (6, [.ref a_t_rows, .int v_t_known])) :: (a_t_rows, .inl (cs 3, 11, .inr (.inr (.inr (.inr (gO r_t_rows)))))) :: gR (cs 0) r_t_rows g_t_rows
def rm_X6_copied : Room := { frames := 2, cells := 0, slots := 0, locals := 42 }
theorem mI_X6_copied : MI yX6_copied RX6 cX6_copied 3 none 2 := ⟨gI_X6_copied, gE_X6_copied, gN_X6, gC_X6_copied, by decide +kernel⟩
set_option maxHeartbeats 4000000 in
set_option maxRecDepth 100000 in
theorem k_X6_copied (l : Launch) (G : va_G) (cs : Nat → ClassId) (a_t a_t_rows : Nat) (r_t_rows : Nat → Nat) (v_t_known : Int32) (g_t_rows : Nat → Nat → Int32) (p1 p2 : Int32) (sz : Nat) (R0 : (Nat → Nat → Int32)) (hB : f_X6_copied v_t_known g_t_rows p1 p2 = some R0) : Met l yX6_copied (.code yX6_copied cX6_copied 3 none :: GW) rm_X6_copied (PcW G cs [.ref a_t, .int p1, .int p2] (wd_X6_copied cs a_t a_t_rows r_t_rows v_t_known g_t_rows) sz) (QcV G (va_A (wd_X6_copied cs a_t a_t_rows r_t_rows v_t_known g_t_rows) sz) (wd_X6_copied cs a_t a_t_rows r_t_rows v_t_known R0)) 0 0 (va_A (wd_X6_copied cs a_t a_t_rows r_t_rows v_t_known g_t_rows) sz) := by
  refine Met.ofW (cc := cX6_copied) (maxL := 3) (ret := none) (by decide) rfl ?_
  intro p e s m args below meth c s₁ B hml hv
  obtain ⟨rfl, hsz, hP, hD0, hK, hN⟩ := hv
  have hx := B.exec
  have hb := B.bytes
  have hr := B.returns
  have hts := atoms_spec (ws := .code yX6_copied cX6_copied 3 none :: GW) B.pre
  have hg : ∀ w ∈ GW, w.before _ s = true := fun w h => hts w (List.mem_cons_of_mem _ h)
  have hown : s.vm.findClass RX6 = some m.cls := findClass_of_methodNamed B.named
  have hlocks := B.notSynchronized
  subst hsz
  have hD := hD0.self (sz := s.heap.size)
  generalize hAe : va_A (wd_X6_copied cs a_t a_t_rows r_t_rows v_t_known g_t_rows) s.heap.size = A at hD ⊢
  have hA : ∀ q : Nat, s.heap.size ≤ q → A q := fun q h => by rw [← hAe]; exact Or.inr h
  have hS : va_S A s.heap s.heap [] := va_S.rf
  have hl := lv_entry ([.ref a_t, .int p1, .int p2]) (n := 3) (Nat.le_of_ble_eq_true rfl)
  rw [lg_entry_eq]
  generalize (lg_sl ([.ref a_t, .int p1, .int p2]) ++ List.replicate (3 - (lg_sl ([.ref a_t, .int p1, .int p2])).length) Slot.unset).toArray = ls at hl ⊢
  have hl : lv_has ls 3 [(0, .ref a_t), (1, .int p1), (2, .int p2)] := hl
  obtain ⟨y, hB, hK0⟩ : ∃ y, f_X6_copied v_t_known g_t_rows p1 p2 = some y ∧ KEnd R0 y := ⟨R0, hB, rfl⟩
  have hKT := hK
  have hK := hK0
  obtain ⟨H, hHe⟩ : ∃ H, H = s.heap := ⟨_, rfl⟩
  obtain ⟨locs, hLe⟩ : ∃ L : List Loc, L = [] := ⟨_, rfl⟩
  rw [← hHe] at hP
  have hS : va_S A s.heap H locs := by rw [hHe, hLe]; exact hS
  show W p l e rm_X6_copied s m ([.ref a_t, .int p1, .int p2] : List Value).toArray below meth c s.heap [] 0 0 _ _
  suffices hgo : W p l e rm_X6_copied s m ([.ref a_t, .int p1, .int p2] : List Value).toArray below meth c H locs 0 0 (MQ below (QcV G A (wd_X6_copied cs a_t a_t_rows r_t_rows v_t_known R0)) ([.ref a_t, .int p1, .int p2] : List Value).toArray s 0 0 A) (F0 m 0 ls []) by rw [hHe, hLe] at hgo; exact hgo
  refine lv_aload_n hx hb dX6_copied_0 rfl (lv_at hl 0 rfl) ?_
  refine lv_iconst (v := 0) hx hb dX6_copied_1 (by decide) ?_
  refine lv_iload_n hx hb dX6_copied_2 rfl (lv_at hl 2 rfl) ?_
  obtain ⟨q1, hq1, hB⟩ := bnd hB
  refine kw_v (WC := wd_X6_put cs a_t a_t_rows r_t_rows v_t_known g_t_rows) (W1 := wd_X6_put cs a_t a_t_rows r_t_rows v_t_known q1) (W2 := wd_X6_copied cs a_t a_t_rows r_t_rows v_t_known q1) (rw_V (As := [.int (0 : Int32), .int p2]) (rest := []) ⟨hx, hb, hml, hown, hg⟩ (k_X6_put l G cs a_t a_t_rows r_t_rows v_t_known g_t_rows (0 : Int32) p2 H.size q1 hq1) gM_X6_20 mI_X6_put (rmk rfl) hP hD hKT hN 0 rfl rfl [0, 1, 2, 3, 4, 5, 6, 7, 8, 9, 10, 11, 12] rfl rfl rfl hl.1 rfl (Nat.le_of_ble_eq_true rfl) dX6_copied_3) hP hD hS hA [0, 1, 2, 3, 4, 5, 6, 7, 8, 9, 10, 11, 12] [] [0, 1, 2, 3, 4, 5, 6, 7, 8, 9, 10, 11, 12] ⟨rfl, rfl, rfl, rfl, rfl, rfl, rfl⟩ (fun H locs hP hD hS => ?_)
  refine lv_aload_n hx hb dX6_copied_6 rfl (lv_at hl 0 rfl) ?_
  refine lv_iconst (v := 1) hx hb dX6_copied_7 (by decide) ?_
  refine lv_aload_n hx hb dX6_copied_8 rfl (lv_at hl 0 rfl) ?_
  obtain ⟨q2, hq2, hB⟩ := bnd hB
  refine kr_V (WC := wd_X6_copiesNow cs a_t a_t_rows r_t_rows v_t_known q1) (As := []) (rest := [.int (1 : Int32), .ref a_t]) (r0 := q2) ⟨hx, hb, hml, hown, hg⟩ (k_X6_copiesNow l G cs a_t a_t_rows r_t_rows v_t_known q1 q2 hq2) gM_X6_32 mI_X6_copiesNow (rmk rfl) hP hKT hN 0 rfl rfl [0, 1, 2, 3, 4, 5, 6, 7, 8, 9, 10, 11, 12] rfl rfl hl.1 rfl (Nat.le_of_ble_eq_true rfl) dX6_copied_9 ?_
  refine lv_iconst (v := 1) hx hb dX6_copied_12 (by decide) ?_
  refine lv_iadd hx hb dX6_copied_13 ?_
  obtain ⟨q3, hq3, hB⟩ := bnd hB
  refine kw_v (WC := wd_X6_put cs a_t a_t_rows r_t_rows v_t_known q1) (W1 := wd_X6_put cs a_t a_t_rows r_t_rows v_t_known q3) (W2 := wd_X6_copied cs a_t a_t_rows r_t_rows v_t_known q3) (rw_V (As := [.int (1 : Int32), .int (q2 + (1 : Int32))]) (rest := []) ⟨hx, hb, hml, hown, hg⟩ (k_X6_put l G cs a_t a_t_rows r_t_rows v_t_known q1 (1 : Int32) (q2 + (1 : Int32)) H.size q3 hq3) gM_X6_20 mI_X6_put (rmk rfl) hP hD hKT hN 0 rfl rfl [0, 1, 2, 3, 4, 5, 6, 7, 8, 9, 10, 11, 12] rfl rfl rfl hl.1 rfl (Nat.le_of_ble_eq_true rfl) dX6_copied_14) hP hD hS hA [0, 1, 2, 3, 4, 5, 6, 7, 8, 9, 10, 11, 12] [] [0, 1, 2, 3, 4, 5, 6, 7, 8, 9, 10, 11, 12] ⟨rfl, rfl, rfl, rfl, rfl, rfl, rfl⟩ (fun H locs hP hD hS => ?_)
  refine lv_aload_n hx hb dX6_copied_17 rfl (lv_at hl 0 rfl) ?_
  refine lv_iconst (v := 3) hx hb dX6_copied_18 (by decide) ?_
  refine lv_iload_n hx hb dX6_copied_19 rfl (lv_at hl 1 rfl) ?_
  refine lv_iadd hx hb dX6_copied_20 ?_
  refine lv_aload_n hx hb dX6_copied_21 rfl (lv_at hl 0 rfl) ?_
  refine lv_iload_n hx hb dX6_copied_22 rfl (lv_at hl 1 rfl) ?_
  obtain ⟨q4, hq4, hB⟩ := bnd hB
  refine kr_V (WC := wd_X6_timesOf cs a_t a_t_rows r_t_rows v_t_known q3) (As := [.int p1]) (rest := [.int ((3 : Int32) + p1), .ref a_t]) (r0 := q4) ⟨hx, hb, hml, hown, hg⟩ (k_X6_timesOf l G cs a_t a_t_rows r_t_rows v_t_known q3 p1 q4 hq4) gM_X6_35 mI_X6_timesOf (rmk rfl) hP hKT hN 0 rfl rfl [0, 1, 2, 3, 4, 5, 6, 7, 8, 9, 10, 11, 12] rfl rfl hl.1 rfl (Nat.le_of_ble_eq_true rfl) dX6_copied_23 ?_
  refine lv_iconst (v := 1) hx hb dX6_copied_26 (by decide) ?_
  refine lv_iadd hx hb dX6_copied_27 ?_
  obtain ⟨q5, hq5, hB⟩ := bnd hB
  refine kw_v (WC := wd_X6_put cs a_t a_t_rows r_t_rows v_t_known q3) (W1 := wd_X6_put cs a_t a_t_rows r_t_rows v_t_known q5) (W2 := wd_X6_copied cs a_t a_t_rows r_t_rows v_t_known q5) (rw_V (As := [.int ((3 : Int32) + p1), .int (q4 + (1 : Int32))]) (rest := []) ⟨hx, hb, hml, hown, hg⟩ (k_X6_put l G cs a_t a_t_rows r_t_rows v_t_known q3 ((3 : Int32) + p1) (q4 + (1 : Int32)) H.size q5 hq5) gM_X6_20 mI_X6_put (rmk rfl) hP hD hKT hN 0 rfl rfl [0, 1, 2, 3, 4, 5, 6, 7, 8, 9, 10, 11, 12] rfl rfl rfl hl.1 rfl (Nat.le_of_ble_eq_true rfl) dX6_copied_28) hP hD hS hA [0, 1, 2, 3, 4, 5, 6, 7, 8, 9, 10, 11, 12] [] [0, 1, 2, 3, 4, 5, 6, 7, 8, 9, 10, 11, 12] ⟨rfl, rfl, rfl, rfl, rfl, rfl, rfl⟩ (fun H locs hP hD hS => ?_)
  have hK := leafK hB hK
  have hK : q5 = R0 := hK
  subst hK
  exact W.vret hx hb hr (fun t ht hW => ⟨⟨(), rfl, trivial, by rw [ht]; exact hP, hD⟩, hS.F ht⟩) hS.2.2 dX6_copied_31
def wd_X6_turnReleased (cs : Nat → ClassId) (a_t a_t_rows : Nat) (r_t_rows : Nat → Nat) (v_t_known : Int32) (g_t_rows : Nat → Nat → Int32) : va_W := (a_t, .inr (6, [.ref a_t_rows, .int v_t_known])) :: (a_t_rows, .inl (cs 3, 11, .inr (.inr (.inr (.inr (gO r_t_rows)))))) :: gR (cs 0) r_t_rows g_t_rows
def rm_X6_turnReleased : Room := { frames := 2, cells := 0, slots := 0, locals := 41 }
theorem mI_X6_turnReleased : MI yX6_turnReleased RX6 cX6_turnReleased 2 none 1 := ⟨gI_X6_turnReleased, gE_X6_turnReleased, gN_X6, gC_X6_turnReleased, by decide +kernel⟩
set_option maxHeartbeats 4000000 in
set_option maxRecDepth 100000 in
theorem k_X6_turnReleased (l : Launch) (G : va_G) (cs : Nat → ClassId) (a_t a_t_rows : Nat) (r_t_rows : Nat → Nat) (v_t_known : Int32) (g_t_rows : Nat → Nat → Int32) (p1 : Int32) (sz : Nat) (R0 : (Nat → Nat → Int32)) (hB : f_X6_turnReleased v_t_known g_t_rows p1 = some R0) : Met l yX6_turnReleased (.code yX6_turnReleased cX6_turnReleased 2 none :: GW) rm_X6_turnReleased (PcW G cs [.ref a_t, .int p1] (wd_X6_turnReleased cs a_t a_t_rows r_t_rows v_t_known g_t_rows) sz) (QcV G (va_A (wd_X6_turnReleased cs a_t a_t_rows r_t_rows v_t_known g_t_rows) sz) (wd_X6_turnReleased cs a_t a_t_rows r_t_rows v_t_known R0)) 0 0 (va_A (wd_X6_turnReleased cs a_t a_t_rows r_t_rows v_t_known g_t_rows) sz) := by
  refine Met.ofW (cc := cX6_turnReleased) (maxL := 2) (ret := none) (by decide) rfl ?_
  intro p e s m args below meth c s₁ B hml hv
  obtain ⟨rfl, hsz, hP, hD0, hK, hN⟩ := hv
  have hx := B.exec
  have hb := B.bytes
  have hr := B.returns
  have hts := atoms_spec (ws := .code yX6_turnReleased cX6_turnReleased 2 none :: GW) B.pre
  have hg : ∀ w ∈ GW, w.before _ s = true := fun w h => hts w (List.mem_cons_of_mem _ h)
  have hown : s.vm.findClass RX6 = some m.cls := findClass_of_methodNamed B.named
  have hlocks := B.notSynchronized
  subst hsz
  have hD := hD0.self (sz := s.heap.size)
  generalize hAe : va_A (wd_X6_turnReleased cs a_t a_t_rows r_t_rows v_t_known g_t_rows) s.heap.size = A at hD ⊢
  have hA : ∀ q : Nat, s.heap.size ≤ q → A q := fun q h => by rw [← hAe]; exact Or.inr h
  have hS : va_S A s.heap s.heap [] := va_S.rf
  have hl := lv_entry ([.ref a_t, .int p1]) (n := 2) (Nat.le_of_ble_eq_true rfl)
  rw [lg_entry_eq]
  generalize (lg_sl ([.ref a_t, .int p1]) ++ List.replicate (2 - (lg_sl ([.ref a_t, .int p1])).length) Slot.unset).toArray = ls at hl ⊢
  have hl : lv_has ls 2 [(0, .ref a_t), (1, .int p1)] := hl
  obtain ⟨y, hB, hK0⟩ : ∃ y, f_X6_turnReleased v_t_known g_t_rows p1 = some y ∧ KEnd R0 y := ⟨R0, hB, rfl⟩
  have hKT := hK
  have hK := hK0
  obtain ⟨H, hHe⟩ : ∃ H, H = s.heap := ⟨_, rfl⟩
  obtain ⟨locs, hLe⟩ : ∃ L : List Loc, L = [] := ⟨_, rfl⟩
  rw [← hHe] at hP
  have hS : va_S A s.heap H locs := by rw [hHe, hLe]; exact hS
  show W p l e rm_X6_turnReleased s m ([.ref a_t, .int p1] : List Value).toArray below meth c s.heap [] 0 0 _ _
  suffices hgo : W p l e rm_X6_turnReleased s m ([.ref a_t, .int p1] : List Value).toArray below meth c H locs 0 0 (MQ below (QcV G A (wd_X6_turnReleased cs a_t a_t_rows r_t_rows v_t_known R0)) ([.ref a_t, .int p1] : List Value).toArray s 0 0 A) (F0 m 0 ls []) by rw [hHe, hLe] at hgo; exact hgo
  refine lv_aload_n hx hb dX6_turnReleased_0 rfl (lv_at hl 0 rfl) ?_
  refine lv_iconst (v := 2) hx hb dX6_turnReleased_1 (by decide) ?_
  refine lv_aload_n hx hb dX6_turnReleased_2 rfl (lv_at hl 0 rfl) ?_
  obtain ⟨q1, hq1, hB⟩ := bnd hB
  refine kr_V (WC := wd_X6_released cs a_t a_t_rows r_t_rows v_t_known g_t_rows) (As := []) (rest := [.int (2 : Int32), .ref a_t]) (r0 := q1) ⟨hx, hb, hml, hown, hg⟩ (k_X6_released l G cs a_t a_t_rows r_t_rows v_t_known g_t_rows q1 hq1) gM_X6_28 mI_X6_released (rmk rfl) hP hKT hN 0 rfl rfl [0, 1, 2, 3, 4, 5, 6, 7, 8, 9, 10, 11, 12] rfl rfl hl.1 rfl (Nat.le_of_ble_eq_true rfl) dX6_turnReleased_3 ?_
  refine lv_iconst (v := 1) hx hb dX6_turnReleased_6 (by decide) ?_
  refine lv_iload_n hx hb dX6_turnReleased_7 rfl (lv_at hl 1 rfl) ?_
  refine lj_ishl hx hb dX6_turnReleased_8 ?_
  refine lv_ixor hx hb dX6_turnReleased_9 ?_
  obtain ⟨q2, hq2, hB⟩ := bnd hB
  refine kw_v (WC := wd_X6_put cs a_t a_t_rows r_t_rows v_t_known g_t_rows) (W1 := wd_X6_put cs a_t a_t_rows r_t_rows v_t_known q2) (W2 := wd_X6_turnReleased cs a_t a_t_rows r_t_rows v_t_known q2) (rw_V (As := [.int (2 : Int32), .int (q1 ^^^ (jshl (1 : Int32) p1))]) (rest := []) ⟨hx, hb, hml, hown, hg⟩ (k_X6_put l G cs a_t a_t_rows r_t_rows v_t_known g_t_rows (2 : Int32) (q1 ^^^ (jshl (1 : Int32) p1)) H.size q2 hq2) gM_X6_20 mI_X6_put (rmk rfl) hP hD hKT hN 0 rfl rfl [0, 1, 2, 3, 4, 5, 6, 7, 8, 9, 10, 11, 12] rfl rfl rfl hl.1 rfl (Nat.le_of_ble_eq_true rfl) dX6_turnReleased_10) hP hD hS hA [0, 1, 2, 3, 4, 5, 6, 7, 8, 9, 10, 11, 12] [] [0, 1, 2, 3, 4, 5, 6, 7, 8, 9, 10, 11, 12] ⟨rfl, rfl, rfl, rfl, rfl, rfl, rfl⟩ (fun H locs hP hD hS => ?_)
  have hK := leafK hB hK
  have hK : q2 = R0 := hK
  subst hK
  exact W.vret hx hb hr (fun t ht hW => ⟨⟨(), rfl, trivial, by rw [ht]; exact hP, hD⟩, hS.F ht⟩) hS.2.2 dX6_turnReleased_13
def wd_X6_copyRow_self (cs : Nat → ClassId) (a_t a_t_rows : Nat) (r_t_rows : Nat → Nat) (v_t_known : Int32) (g_t_rows : Nat → Nat → Int32) : va_W := (a_t, .inr (6, [.ref a_t_rows, .int v_t_known])) :: (a_t_rows, .inl (cs 3, 11, .inr (.inr (.inr (.inr (gO r_t_rows)))))) :: gR (cs 0) r_t_rows g_t_rows
def rm_X6_copyRow_self : Room := { frames := 1, cells := 0, slots := 0, locals := 60 }
theorem mI_X6_copyRow : MI yX6_copyRow RX6 cX6_copyRow 4 none 3 := ⟨gI_X6_copyRow, gE_X6_copyRow, gN_X6, gC_X6_copyRow, by decide +kernel⟩
set_option maxHeartbeats 4000000 in
set_option maxRecDepth 100000 in
theorem k_X6_copyRow_self (l : Launch) (G : va_G) (cs : Nat → ClassId) (a_t a_t_rows : Nat) (r_t_rows : Nat → Nat) (v_t_known : Int32) (g_t_rows : Nat → Nat → Int32) (p1 p3 : Int32) (sz : Nat) (R0 : (Nat → Nat → Int32)) (hB : f_X6_copyRow_self g_t_rows p1 p3 = some R0) : Met l yX6_copyRow (.code yX6_copyRow cX6_copyRow 4 none :: GW) rm_X6_copyRow_self (PcW G cs [.ref a_t, .int p1, .ref a_t_rows, .int p3] (wd_X6_copyRow_self cs a_t a_t_rows r_t_rows v_t_known g_t_rows) sz) (QcV G (va_A (wd_X6_copyRow_self cs a_t a_t_rows r_t_rows v_t_known g_t_rows) sz) (wd_X6_copyRow_self cs a_t a_t_rows r_t_rows v_t_known R0)) 0 0 (va_A (wd_X6_copyRow_self cs a_t a_t_rows r_t_rows v_t_known g_t_rows) sz) := by
  refine Met.ofW (cc := cX6_copyRow) (maxL := 4) (ret := none) (by decide) rfl ?_
  intro p e s m args below meth c s₁ B hml hv
  obtain ⟨rfl, hsz, hP, hD0, hK, hN⟩ := hv
  have hx := B.exec
  have hb := B.bytes
  have hr := B.returns
  have hts := atoms_spec (ws := .code yX6_copyRow cX6_copyRow 4 none :: GW) B.pre
  have hg : ∀ w ∈ GW, w.before _ s = true := fun w h => hts w (List.mem_cons_of_mem _ h)
  have hown : s.vm.findClass RX6 = some m.cls := findClass_of_methodNamed B.named
  have hlocks := B.notSynchronized
  subst hsz
  have hD := hD0.self (sz := s.heap.size)
  generalize hAe : va_A (wd_X6_copyRow_self cs a_t a_t_rows r_t_rows v_t_known g_t_rows) s.heap.size = A at hD ⊢
  have hA : ∀ q : Nat, s.heap.size ≤ q → A q := fun q h => by rw [← hAe]; exact Or.inr h
  have hS : va_S A s.heap s.heap [] := va_S.rf
  have hl := lv_entry ([.ref a_t, .int p1, .ref a_t_rows, .int p3]) (n := 4) (Nat.le_of_ble_eq_true rfl)
  rw [lg_entry_eq]
  generalize (lg_sl ([.ref a_t, .int p1, .ref a_t_rows, .int p3]) ++ List.replicate (4 - (lg_sl ([.ref a_t, .int p1, .ref a_t_rows, .int p3])).length) Slot.unset).toArray = ls at hl ⊢
  have hl : lv_has ls 4 [(0, .ref a_t), (1, .int p1), (2, .ref a_t_rows), (3, .int p3)] := hl
  obtain ⟨y, hB, hK0⟩ : ∃ y, f_X6_copyRow_self g_t_rows p1 p3 = some y ∧ KEnd R0 y := ⟨R0, hB, rfl⟩
  have hKT := hK
  have hK := hK0
  obtain ⟨H, hHe⟩ : ∃ H, H = s.heap := ⟨_, rfl⟩
  obtain ⟨locs, hLe⟩ : ∃ L : List Loc, L = [] := ⟨_, rfl⟩
  rw [← hHe] at hP
  have hS : va_S A s.heap H locs := by rw [hHe, hLe]; exact hS
  show W p l e rm_X6_copyRow_self s m ([.ref a_t, .int p1, .ref a_t_rows, .int p3] : List Value).toArray below meth c s.heap [] 0 0 _ _
  suffices hgo : W p l e rm_X6_copyRow_self s m ([.ref a_t, .int p1, .ref a_t_rows, .int p3] : List Value).toArray below meth c H locs 0 0 (MQ below (QcV G A (wd_X6_copyRow_self cs a_t a_t_rows r_t_rows v_t_known R0)) ([.ref a_t, .int p1, .ref a_t_rows, .int p3] : List Value).toArray s 0 0 A) (F0 m 0 ls []) by rw [hHe, hLe] at hgo; exact hgo
  refine lv_iload_n hx hb dX6_copyRow_0 rfl (lv_at hl 1 rfl) ?_
  refine lv_if_lt (tgt := 36) hx hb dX6_copyRow_1 (by decide) (fun c_1 => ?_) (fun c_1 => ?_)
  · have hB := ifP c_1 hB
    have hK := leafK hB hK
    have hK : g_t_rows = R0 := hK
    subst hK
    exact W.vret hx hb hr (fun t ht hW => ⟨⟨(), rfl, trivial, by rw [ht]; exact hP, hD⟩, hS.F ht⟩) hS.2.2 dX6_copyRow_36
  · have hB := ifN c_1 hB
    refine lv_iload_n hx hb dX6_copyRow_4 rfl (lv_at hl 1 rfl) ?_
    refine lv_bipush (v := 10) hx hb dX6_copyRow_5 (by decide) ?_
    refine lv_icmp_gt (tgt := 36) hx hb dX6_copyRow_7 (by decide) (fun c_2 => ?_) (fun c_2 => ?_)
    · have hB := ifP c_2 hB
      have hK := leafK hB hK
      have hK : g_t_rows = R0 := hK
      subst hK
      exact W.vret hx hb hr (fun t ht hW => ⟨⟨(), rfl, trivial, by rw [ht]; exact hP, hD⟩, hS.F ht⟩) hS.2.2 dX6_copyRow_36
    · have hB := ifN c_2 hB
      refine lv_iload_n hx hb dX6_copyRow_10 rfl (lv_at hl 3 rfl) ?_
      refine lv_if_lt (tgt := 36) hx hb dX6_copyRow_11 (by decide) (fun c_3 => ?_) (fun c_3 => ?_)
      · have hB := ifP c_3 hB
        have hK := leafK hB hK
        have hK : g_t_rows = R0 := hK
        subst hK
        exact W.vret hx hb hr (fun t ht hW => ⟨⟨(), rfl, trivial, by rw [ht]; exact hP, hD⟩, hS.F ht⟩) hS.2.2 dX6_copyRow_36
      · have hB := ifN c_3 hB
        refine lv_iload_n hx hb dX6_copyRow_14 rfl (lv_at hl 3 rfl) ?_
        refine lv_bipush (v := 10) hx hb dX6_copyRow_15 (by decide) ?_
        refine lv_icmp_gt (tgt := 36) hx hb dX6_copyRow_17 (by decide) (fun c_4 => ?_) (fun c_4 => ?_)
        · have hB := ifP c_4 hB
          have hK := leafK hB hK
          have hK : g_t_rows = R0 := hK
          subst hK
          exact W.vret hx hb hr (fun t ht hW => ⟨⟨(), rfl, trivial, by rw [ht]; exact hP, hD⟩, hS.F ht⟩) hS.2.2 dX6_copyRow_36
        · have hB := ifN c_4 hB
          refine lv_aload_n hx hb dX6_copyRow_20 rfl (lv_at hl 0 rfl) ?_
          refine va_get (D := G) (ci := 6) (v := .ref a_t_rows) (C := RX6) (T := TX6) (N := 2) hx hb hg inX6 hown hKT hP 0 rfl rfl 0 (by decide) (hg _ gF_X6_13) (fun _ h9 => h9) rfl dX6_copyRow_21 ?_
          refine lv_iload_n hx hb dX6_copyRow_24 rfl (lv_at hl 1 rfl) ?_
          obtain ⟨h_5, hB⟩ := ifS hB
          refine va_row hx hb hKT hP 1 rfl h_5 dX6_copyRow_25 ?_
          refine lv_iconst (v := 0) hx hb dX6_copyRow_26 (by decide) ?_
          refine lv_aload_n hx hb dX6_copyRow_27 rfl (lv_at hl 2 rfl) ?_
          refine lv_iload_n hx hb dX6_copyRow_28 rfl (lv_at hl 3 rfl) ?_
          obtain ⟨h_6, hB⟩ := ifS hB
          refine va_row hx hb hKT hP 1 rfl h_6 dX6_copyRow_29 ?_
          refine lv_iconst (v := 0) hx hb dX6_copyRow_30 (by decide) ?_
          refine lv_bipush (v := 9) hx hb dX6_copyRow_31 (by decide) ?_
          refine va_copyi hx hb (hml.trans hl.1.symm) hown (hg _ gM_X6_42) (hg _ gZ_arraycopy) (hg _ gS_arraycopy) (hg _ gN_J10) hKT hP hD hS (p1.toNatClampNeg + 2) (p3.toNatClampNeg + 2) 0 0 (gR_at (vp_lt h_5)) (gR_at (vp_lt h_6)) rfl rfl rfl (by decide) (by decide) (by decide) (by decide) (by decide) (fun _ _ => rfl) (Nat.le_of_ble_eq_true rfl) (Nat.le_of_ble_eq_true rfl) dX6_copyRow_33 (fun H locs hP hD hS => ?_)
          have e_7 := gR_set (c := cs 0) (ra := r_t_rows) (M := g_t_rows) (f := va_cpy (g_t_rows p1.toNatClampNeg) (g_t_rows p3.toNatClampNeg) (0 : Int32).toNatClampNeg (0 : Int32).toNatClampNeg (9 : Int32).toNatClampNeg) (vp_lt h_6)
          have hP : va_P G vwCl (wd_X6_copyRow_self cs a_t a_t_rows r_t_rows v_t_known (va_up g_t_rows p3.toNatClampNeg (va_cpy (g_t_rows p1.toNatClampNeg) (g_t_rows p3.toNatClampNeg) (0 : Int32).toNatClampNeg (0 : Int32).toNatClampNeg (9 : Int32).toNatClampNeg))) H := by unfold wd_X6_copyRow_self; rw [← e_7]; exact hP
          have hD : va_D A (wd_X6_copyRow_self cs a_t a_t_rows r_t_rows v_t_known (va_up g_t_rows p3.toNatClampNeg (va_cpy (g_t_rows p1.toNatClampNeg) (g_t_rows p3.toNatClampNeg) (0 : Int32).toNatClampNeg (0 : Int32).toNatClampNeg (9 : Int32).toNatClampNeg))) := by unfold wd_X6_copyRow_self; rw [← e_7]; exact hD
          have hK := leafK hB hK
          have hK : (va_up g_t_rows p3.toNatClampNeg (va_cpy (g_t_rows p1.toNatClampNeg) (g_t_rows p3.toNatClampNeg) (0 : Int32).toNatClampNeg (0 : Int32).toNatClampNeg (9 : Int32).toNatClampNeg)) = R0 := hK
          subst hK
          exact W.vret hx hb hr (fun t ht hW => ⟨⟨(), rfl, trivial, by rw [ht]; exact hP, hD⟩, hS.F ht⟩) hS.2.2 dX6_copyRow_36
def wd_X6_copyRow_other (cs : Nat → ClassId) (a_t a_t_rows a_p2 : Nat) (r_t_rows : Nat → Nat) (r_p2 : Nat → Nat) (v_t_known : Int32) (g_t_rows : Nat → Nat → Int32) (g_p2 : Nat → Nat → Int32) : va_W := (a_t, .inr (6, [.ref a_t_rows, .int v_t_known])) :: (a_t_rows, .inl (cs 3, 11, .inr (.inr (.inr (.inr (gO r_t_rows)))))) :: (gR (cs 0) r_t_rows g_t_rows ++ ((a_p2, .inl (cs 3, 11, .inr (.inr (.inr (.inr (gO r_p2)))))) :: gR (cs 0) r_p2 g_p2))
def rm_X6_copyRow_other : Room := { frames := 1, cells := 0, slots := 0, locals := 60 }
set_option maxHeartbeats 4000000 in
set_option maxRecDepth 100000 in
theorem k_X6_copyRow_other (l : Launch) (G : va_G) (cs : Nat → ClassId) (a_t a_t_rows a_p2 : Nat) (r_t_rows : Nat → Nat) (r_p2 : Nat → Nat) (v_t_known : Int32) (g_t_rows : Nat → Nat → Int32) (g_p2 : Nat → Nat → Int32) (p1 p3 : Int32) (sz : Nat) (R0 : (Nat → Nat → Int32)) (hB : f_X6_copyRow_other g_t_rows g_p2 p1 p3 = some R0) : Met l yX6_copyRow (.code yX6_copyRow cX6_copyRow 4 none :: GW) rm_X6_copyRow_other (PcW G cs [.ref a_t, .int p1, .ref a_p2, .int p3] (wd_X6_copyRow_other cs a_t a_t_rows a_p2 r_t_rows r_p2 v_t_known g_t_rows g_p2) sz) (QcV G (va_A (wd_X6_copyRow_other cs a_t a_t_rows a_p2 r_t_rows r_p2 v_t_known g_t_rows g_p2) sz) (wd_X6_copyRow_other cs a_t a_t_rows a_p2 r_t_rows r_p2 v_t_known g_t_rows R0)) 0 0 (va_A (wd_X6_copyRow_other cs a_t a_t_rows a_p2 r_t_rows r_p2 v_t_known g_t_rows g_p2) sz) := by
  refine Met.ofW (cc := cX6_copyRow) (maxL := 4) (ret := none) (by decide) rfl ?_
  intro p e s m args below meth c s₁ B hml hv
  obtain ⟨rfl, hsz, hP, hD0, hK, hN⟩ := hv
  have hx := B.exec
  have hb := B.bytes
  have hr := B.returns
  have hts := atoms_spec (ws := .code yX6_copyRow cX6_copyRow 4 none :: GW) B.pre
  have hg : ∀ w ∈ GW, w.before _ s = true := fun w h => hts w (List.mem_cons_of_mem _ h)
  have hown : s.vm.findClass RX6 = some m.cls := findClass_of_methodNamed B.named
  have hlocks := B.notSynchronized
  subst hsz
  have hD := hD0.self (sz := s.heap.size)
  generalize hAe : va_A (wd_X6_copyRow_other cs a_t a_t_rows a_p2 r_t_rows r_p2 v_t_known g_t_rows g_p2) s.heap.size = A at hD ⊢
  have hA : ∀ q : Nat, s.heap.size ≤ q → A q := fun q h => by rw [← hAe]; exact Or.inr h
  have hS : va_S A s.heap s.heap [] := va_S.rf
  have hl := lv_entry ([.ref a_t, .int p1, .ref a_p2, .int p3]) (n := 4) (Nat.le_of_ble_eq_true rfl)
  rw [lg_entry_eq]
  generalize (lg_sl ([.ref a_t, .int p1, .ref a_p2, .int p3]) ++ List.replicate (4 - (lg_sl ([.ref a_t, .int p1, .ref a_p2, .int p3])).length) Slot.unset).toArray = ls at hl ⊢
  have hl : lv_has ls 4 [(0, .ref a_t), (1, .int p1), (2, .ref a_p2), (3, .int p3)] := hl
  obtain ⟨y, hB, hK0⟩ : ∃ y, f_X6_copyRow_other g_t_rows g_p2 p1 p3 = some y ∧ KEnd R0 y := ⟨R0, hB, rfl⟩
  have hKT := hK
  have hK := hK0
  obtain ⟨H, hHe⟩ : ∃ H, H = s.heap := ⟨_, rfl⟩
  obtain ⟨locs, hLe⟩ : ∃ L : List Loc, L = [] := ⟨_, rfl⟩
  rw [← hHe] at hP
  have hS : va_S A s.heap H locs := by rw [hHe, hLe]; exact hS
  show W p l e rm_X6_copyRow_other s m ([.ref a_t, .int p1, .ref a_p2, .int p3] : List Value).toArray below meth c s.heap [] 0 0 _ _
  suffices hgo : W p l e rm_X6_copyRow_other s m ([.ref a_t, .int p1, .ref a_p2, .int p3] : List Value).toArray below meth c H locs 0 0 (MQ below (QcV G A (wd_X6_copyRow_other cs a_t a_t_rows a_p2 r_t_rows r_p2 v_t_known g_t_rows R0)) ([.ref a_t, .int p1, .ref a_p2, .int p3] : List Value).toArray s 0 0 A) (F0 m 0 ls []) by rw [hHe, hLe] at hgo; exact hgo
  refine lv_iload_n hx hb dX6_copyRow_0 rfl (lv_at hl 1 rfl) ?_
  refine lv_if_lt (tgt := 36) hx hb dX6_copyRow_1 (by decide) (fun c_1 => ?_) (fun c_1 => ?_)
  · have hB := ifP c_1 hB
    have hK := leafK hB hK
    have hK : g_p2 = R0 := hK
    subst hK
    exact W.vret hx hb hr (fun t ht hW => ⟨⟨(), rfl, trivial, by rw [ht]; exact hP, hD⟩, hS.F ht⟩) hS.2.2 dX6_copyRow_36
  · have hB := ifN c_1 hB
    refine lv_iload_n hx hb dX6_copyRow_4 rfl (lv_at hl 1 rfl) ?_
    refine lv_bipush (v := 10) hx hb dX6_copyRow_5 (by decide) ?_
    refine lv_icmp_gt (tgt := 36) hx hb dX6_copyRow_7 (by decide) (fun c_2 => ?_) (fun c_2 => ?_)
    · have hB := ifP c_2 hB
      have hK := leafK hB hK
      have hK : g_p2 = R0 := hK
      subst hK
      exact W.vret hx hb hr (fun t ht hW => ⟨⟨(), rfl, trivial, by rw [ht]; exact hP, hD⟩, hS.F ht⟩) hS.2.2 dX6_copyRow_36
    · have hB := ifN c_2 hB
      refine lv_iload_n hx hb dX6_copyRow_10 rfl (lv_at hl 3 rfl) ?_
      refine lv_if_lt (tgt := 36) hx hb dX6_copyRow_11 (by decide) (fun c_3 => ?_) (fun c_3 => ?_)
      · have hB := ifP c_3 hB
        have hK := leafK hB hK
        have hK : g_p2 = R0 := hK
        subst hK
        exact W.vret hx hb hr (fun t ht hW => ⟨⟨(), rfl, trivial, by rw [ht]; exact hP, hD⟩, hS.F ht⟩) hS.2.2 dX6_copyRow_36
      · have hB := ifN c_3 hB
        refine lv_iload_n hx hb dX6_copyRow_14 rfl (lv_at hl 3 rfl) ?_
        refine lv_bipush (v := 10) hx hb dX6_copyRow_15 (by decide) ?_
        refine lv_icmp_gt (tgt := 36) hx hb dX6_copyRow_17 (by decide) (fun c_4 => ?_) (fun c_4 => ?_)
        · have hB := ifP c_4 hB
          have hK := leafK hB hK
          have hK : g_p2 = R0 := hK
          subst hK
          exact W.vret hx hb hr (fun t ht hW => ⟨⟨(), rfl, trivial, by rw [ht]; exact hP, hD⟩, hS.F ht⟩) hS.2.2 dX6_copyRow_36
        · have hB := ifN c_4 hB
          refine lv_aload_n hx hb dX6_copyRow_20 rfl (lv_at hl 0 rfl) ?_
          refine va_get (D := G) (ci := 6) (v := .ref a_t_rows) (C := RX6) (T := TX6) (N := 2) hx hb hg inX6 hown hKT hP 0 rfl rfl 0 (by decide) (hg _ gF_X6_13) (fun _ h9 => h9) rfl dX6_copyRow_21 ?_
          refine lv_iload_n hx hb dX6_copyRow_24 rfl (lv_at hl 1 rfl) ?_
          obtain ⟨h_5, hB⟩ := ifS hB
          refine va_row hx hb hKT hP 1 rfl h_5 dX6_copyRow_25 ?_
          refine lv_iconst (v := 0) hx hb dX6_copyRow_26 (by decide) ?_
          refine lv_aload_n hx hb dX6_copyRow_27 rfl (lv_at hl 2 rfl) ?_
          refine lv_iload_n hx hb dX6_copyRow_28 rfl (lv_at hl 3 rfl) ?_
          obtain ⟨h_6, hB⟩ := ifS hB
          refine va_row hx hb hKT hP 13 rfl h_6 dX6_copyRow_29 ?_
          refine lv_iconst (v := 0) hx hb dX6_copyRow_30 (by decide) ?_
          refine lv_bipush (v := 9) hx hb dX6_copyRow_31 (by decide) ?_
          refine va_copyi hx hb (hml.trans hl.1.symm) hown (hg _ gM_X6_42) (hg _ gZ_arraycopy) (hg _ gS_arraycopy) (hg _ gN_J10) hKT hP hD hS (p1.toNatClampNeg + 2) (p3.toNatClampNeg + 14) 0 0 (gR_atA (vp_lt h_5)) (gR_atB (ra := r_t_rows) (M := g_t_rows) (o := (a_p2, .inl (cs 3, 11, .inr (.inr (.inr (.inr (gO r_p2))))))) (vp_lt h_6)) rfl rfl rfl (by decide) (by decide) (by decide) (by decide) (by decide) (fun _ _ => rfl) (Nat.le_of_ble_eq_true rfl) (Nat.le_of_ble_eq_true rfl) dX6_copyRow_33 (fun H locs hP hD hS => ?_)
          have e_7 := gR_setB (c := cs 0) (ra := r_t_rows) (M := g_t_rows) (o := (a_p2, .inl (cs 3, 11, .inr (.inr (.inr (.inr (gO r_p2))))))) (rb := r_p2) (N := g_p2) (f := va_cpy (g_t_rows p1.toNatClampNeg) (g_p2 p3.toNatClampNeg) (0 : Int32).toNatClampNeg (0 : Int32).toNatClampNeg (9 : Int32).toNatClampNeg) (vp_lt h_6)
          have hP : va_P G vwCl (wd_X6_copyRow_other cs a_t a_t_rows a_p2 r_t_rows r_p2 v_t_known g_t_rows (va_up g_p2 p3.toNatClampNeg (va_cpy (g_t_rows p1.toNatClampNeg) (g_p2 p3.toNatClampNeg) (0 : Int32).toNatClampNeg (0 : Int32).toNatClampNeg (9 : Int32).toNatClampNeg))) H := by unfold wd_X6_copyRow_other; rw [← e_7]; exact hP
          have hD : va_D A (wd_X6_copyRow_other cs a_t a_t_rows a_p2 r_t_rows r_p2 v_t_known g_t_rows (va_up g_p2 p3.toNatClampNeg (va_cpy (g_t_rows p1.toNatClampNeg) (g_p2 p3.toNatClampNeg) (0 : Int32).toNatClampNeg (0 : Int32).toNatClampNeg (9 : Int32).toNatClampNeg))) := by unfold wd_X6_copyRow_other; rw [← e_7]; exact hD
          have hK := leafK hB hK
          have hK : (va_up g_p2 p3.toNatClampNeg (va_cpy (g_t_rows p1.toNatClampNeg) (g_p2 p3.toNatClampNeg) (0 : Int32).toNatClampNeg (0 : Int32).toNatClampNeg (9 : Int32).toNatClampNeg)) = R0 := hK
          subst hK
          exact W.vret hx hb hr (fun t ht hW => ⟨⟨(), rfl, trivial, by rw [ht]; exact hP, hD⟩, hS.F ht⟩) hS.2.2 dX6_copyRow_36
def wd_X6_remember (cs : Nat → ClassId) (a_t a_t_rows : Nat) (r_t_rows : Nat → Nat) (v_t_known : Int32) (g_t_rows : Nat → Nat → Int32) : va_W := (a_t, .inr (6, [.ref a_t_rows, .int v_t_known])) :: (a_t_rows, .inl (cs 3, 11, .inr (.inr (.inr (.inr (gO r_t_rows)))))) :: gR (cs 0) r_t_rows g_t_rows
def rm_X6_remember : Room := { frames := 2, cells := 0, slots := 0, locals := 83 }
theorem mI_X6_remember : MI yX6_remember RX6 cX6_remember 2 none 0 := ⟨gI_X6_remember, gE_X6_remember, gN_X6, gC_X6_remember, by decide +kernel⟩
set_option maxHeartbeats 4000000 in
set_option maxRecDepth 100000 in
theorem k_X6_remember (l : Launch) (G : va_G) (cs : Nat → ClassId) (a_t a_t_rows : Nat) (r_t_rows : Nat → Nat) (v_t_known : Int32) (g_t_rows : Nat → Nat → Int32) (sz : Nat) (R0 : Int32 × (Nat → Nat → Int32)) (hB : f_X6_remember v_t_known g_t_rows = some R0) : Met l yX6_remember (.code yX6_remember cX6_remember 2 none :: GW) rm_X6_remember (PcW G cs [.ref a_t] (wd_X6_remember cs a_t a_t_rows r_t_rows v_t_known g_t_rows) sz) (QcV G (va_A (wd_X6_remember cs a_t a_t_rows r_t_rows v_t_known g_t_rows) sz) (wd_X6_remember cs a_t a_t_rows r_t_rows R0.1 R0.2)) 0 0 (va_A (wd_X6_remember cs a_t a_t_rows r_t_rows v_t_known g_t_rows) sz) := by
  refine Met.ofW (cc := cX6_remember) (maxL := 2) (ret := none) (by decide) rfl ?_
  intro p e s m args below meth c s₁ B hml hv
  obtain ⟨rfl, hsz, hP, hD0, hK, hN⟩ := hv
  have hx := B.exec
  have hb := B.bytes
  have hr := B.returns
  have hts := atoms_spec (ws := .code yX6_remember cX6_remember 2 none :: GW) B.pre
  have hg : ∀ w ∈ GW, w.before _ s = true := fun w h => hts w (List.mem_cons_of_mem _ h)
  have hown : s.vm.findClass RX6 = some m.cls := findClass_of_methodNamed B.named
  have hlocks := B.notSynchronized
  subst hsz
  have hD := hD0.self (sz := s.heap.size)
  generalize hAe : va_A (wd_X6_remember cs a_t a_t_rows r_t_rows v_t_known g_t_rows) s.heap.size = A at hD ⊢
  have hA : ∀ q : Nat, s.heap.size ≤ q → A q := fun q h => by rw [← hAe]; exact Or.inr h
  have hS : va_S A s.heap s.heap [] := va_S.rf
  have hl := lv_entry ([.ref a_t]) (n := 2) (Nat.le_of_ble_eq_true rfl)
  rw [lg_entry_eq]
  generalize (lg_sl ([.ref a_t]) ++ List.replicate (2 - (lg_sl ([.ref a_t])).length) Slot.unset).toArray = ls at hl ⊢
  have hl : lv_has ls 2 [(0, .ref a_t)] := hl
  obtain ⟨y, hB, hK0⟩ : ∃ y, f_X6_remember v_t_known g_t_rows = some y ∧ KEnd R0 y := ⟨R0, hB, rfl⟩
  have hKT := hK
  have hK := hK0
  obtain ⟨H, hHe⟩ : ∃ H, H = s.heap := ⟨_, rfl⟩
  obtain ⟨locs, hLe⟩ : ∃ L : List Loc, L = [] := ⟨_, rfl⟩
  rw [← hHe] at hP
  have hS : va_S A s.heap H locs := by rw [hHe, hLe]; exact hS
  show W p l e rm_X6_remember s m ([.ref a_t] : List Value).toArray below meth c s.heap [] 0 0 _ _
  suffices hgo : W p l e rm_X6_remember s m ([.ref a_t] : List Value).toArray below meth c H locs 0 0 (MQ below (QcV G A (wd_X6_remember cs a_t a_t_rows r_t_rows R0.1 R0.2)) ([.ref a_t] : List Value).toArray s 0 0 A) (F0 m 0 ls []) by rw [hHe, hLe] at hgo; exact hgo
  refine lv_aload_n hx hb dX6_remember_0 rfl (lv_at hl 0 rfl) ?_
  refine va_get (D := G) (ci := 6) (v := .int v_t_known) (C := RX6) (T := TX6) (N := 2) hx hb hg inX6 hown hKT hP 0 rfl rfl 1 (by decide) (hg _ gF_X6_16) (fun _ h9 => h9) rfl dX6_remember_1 ?_
  refine lv_bipush (v := 10) hx hb dX6_remember_4 (by decide) ?_
  refine lv_icmp_ge (tgt := 38) hx hb dX6_remember_6 (by decide) (fun c_1 => ?_) (fun c_1 => ?_)
  · have hB := ifP c_1 hB
    refine lv_iconst (v := 0) hx hb dX6_remember_38 (by decide) ?_
    refine lv_istore_n (lv' := [(1, .int (0 : Int32)), (0, .ref a_t)]) hx hb dX6_remember_39 rfl hl (by decide) rfl (fun ls hl => ?_)
    refine lp_ind (Wh := fun (z2 : Int32 × (Nat → Nat → Int32)) => ∀ (H : Heap) (locs : List Loc), va_P G vwCl (wd_X6_remember cs a_t a_t_rows r_t_rows v_t_known z2.2) H → va_D A (wd_X6_remember cs a_t a_t_rows r_t_rows v_t_known z2.2) → va_S A s.heap H locs → ∀ (ls : Array Slot), lv_has ls 2 [(0, .ref a_t), (1, .int z2.1)] → W p l e rm_X6_remember s m ([.ref a_t] : List Value).toArray below meth c H locs 0 0 (MQ below (QcV G A (wd_X6_remember cs a_t a_t_rows r_t_rows R0.1 R0.2)) ([.ref a_t] : List Value).toArray s 0 0 A) (F0 m 40 ls [])) ?_ FU _ _ hB hK H locs hP hD hS ls (lv_sub hl [1, 0] rfl)
    rintro ⟨z2_0, z2_1⟩ y hB hK H locs hP hD hS ls hl
    have hl : lv_has ls 2 [(0, .ref a_t), (1, .int z2_0)] := hl
    have hP : va_P G vwCl (wd_X6_remember cs a_t a_t_rows r_t_rows v_t_known z2_1) H := hP
    have hD : va_D A (wd_X6_remember cs a_t a_t_rows r_t_rows v_t_known z2_1) := hD
    refine lv_iload_n hx hb dX6_remember_40 rfl (lv_at hl 1 rfl) ?_
    refine lv_bipush (v := 10) hx hb dX6_remember_41 (by decide) ?_
    refine lv_icmp_ge (tgt := 64) hx hb dX6_remember_43 (by decide) (fun c_3 => ?_) (fun c_3 => ?_)
    · have hB := ifP c_3 hB
      have hK := leafK hB hK
      have hK := elimR hK
      have hK : (v_t_known, z2_1) = R0 := hK
      subst hK
      exact W.vret hx hb hr (fun t ht hW => ⟨⟨(), rfl, trivial, by rw [ht]; exact hP, hD⟩, hS.F ht⟩) hS.2.2 dX6_remember_64
    · have hB := ifN c_3 hB
      refine lv_aload_n hx hb dX6_remember_46 rfl (lv_at hl 0 rfl) ?_
      refine lv_iload_n hx hb dX6_remember_47 rfl (lv_at hl 1 rfl) ?_
      refine lv_iconst (v := 1) hx hb dX6_remember_48 (by decide) ?_
      refine lv_iadd hx hb dX6_remember_49 ?_
      refine lv_aload_n hx hb dX6_remember_50 rfl (lv_at hl 0 rfl) ?_
      refine va_get (D := G) (ci := 6) (v := .ref a_t_rows) (C := RX6) (T := TX6) (N := 2) hx hb hg inX6 hown hKT hP 0 rfl rfl 0 (by decide) (hg _ gF_X6_13) (fun _ h9 => h9) rfl dX6_remember_51 ?_
      refine lv_iload_n hx hb dX6_remember_54 rfl (lv_at hl 1 rfl) ?_
      obtain ⟨q4, hq4, hB⟩ := bnd hB
      refine kw_v (WC := wd_X6_copyRow_self cs a_t a_t_rows r_t_rows v_t_known z2_1) (W1 := wd_X6_copyRow_self cs a_t a_t_rows r_t_rows v_t_known q4) (W2 := wd_X6_remember cs a_t a_t_rows r_t_rows v_t_known q4) (rw_V (As := [.int (z2_0 + (1 : Int32)), .ref a_t_rows, .int z2_0]) (rest := []) ⟨hx, hb, hml, hown, hg⟩ (k_X6_copyRow_self l G cs a_t a_t_rows r_t_rows v_t_known z2_1 (z2_0 + (1 : Int32)) z2_0 H.size q4 hq4) gM_X6_38 mI_X6_copyRow (rmk rfl) hP hD hKT hN 0 rfl rfl [0, 1, 2, 3, 4, 5, 6, 7, 8, 9, 10, 11, 12] rfl rfl rfl hl.1 rfl (Nat.le_of_ble_eq_true rfl) dX6_remember_55) hP hD hS hA [0, 1, 2, 3, 4, 5, 6, 7, 8, 9, 10, 11, 12] [] [0, 1, 2, 3, 4, 5, 6, 7, 8, 9, 10, 11, 12] ⟨rfl, rfl, rfl, rfl, rfl, rfl, rfl⟩ (fun H locs hP hD hS => ?_)
      refine lv_iinc (v := z2_0 + (1 : Int32)) (lv' := [(1, .int (z2_0 + (1 : Int32))), (0, .ref a_t)]) hx hb dX6_remember_58 hl (k := 1) rfl (inc_ok (by decide)) (by decide) rfl (fun ls hl => ?_)
      refine lv_goto (tgt := 40) hx hb dX6_remember_61 (by decide) ?_
      have hK := leafK hB hK
      have hK := elimL hK
      exact hK H locs hP hD hS ls (lv_sub hl [1, 0] rfl)
  · have hB := ifN c_1 hB
    refine lv_aload_n hx hb dX6_remember_9 rfl (lv_at hl 0 rfl) ?_
    refine lv_dup hx hb dX6_remember_10 rfl ?_
    refine va_get (D := G) (ci := 6) (v := .int v_t_known) (C := RX6) (T := TX6) (N := 2) hx hb hg inX6 hown hKT hP 0 rfl rfl 1 (by decide) (hg _ gF_X6_16) (fun _ h9 => h9) rfl dX6_remember_11 ?_
    refine lv_iconst (v := 1) hx hb dX6_remember_14 (by decide) ?_
    refine lv_iadd hx hb dX6_remember_15 ?_
    refine va_put (D := G) (ci := 6) (v := .int (v_t_known + (1 : Int32))) (ty := .int) (C := RX6) (T := TX6) (N := 2) hx hb hg inX6 tyX6 tyX6_ok nmX6 hown hKT hP hD hS 0 rfl rfl 1 (by decide) (hg _ gF_X6_16) (fun _ h9 => h9) rfl (by decide +kernel) rfl rfl (Nat.le_of_ble_eq_true rfl) dX6_remember_16 (fun H locs hP hD hS => ?_)
    have hP : va_P G vwCl (wd_X6_remember cs a_t a_t_rows r_t_rows (v_t_known + (1 : Int32)) g_t_rows) H := hP
    have hD : va_D A (wd_X6_remember cs a_t a_t_rows r_t_rows (v_t_known + (1 : Int32)) g_t_rows) := hD
    refine lv_aload_n hx hb dX6_remember_19 rfl (lv_at hl 0 rfl) ?_
    refine lv_aload_n hx hb dX6_remember_20 rfl (lv_at hl 0 rfl) ?_
    refine va_get (D := G) (ci := 6) (v := .int (v_t_known + (1 : Int32))) (C := RX6) (T := TX6) (N := 2) hx hb hg inX6 hown hKT hP 0 rfl rfl 1 (by decide) (hg _ gF_X6_16) (fun _ h9 => h9) rfl dX6_remember_21 ?_
    refine lv_iconst (v := 1) hx hb dX6_remember_24 (by decide) ?_
    refine lv_isub hx hb dX6_remember_25 ?_
    refine lv_aload_n hx hb dX6_remember_26 rfl (lv_at hl 0 rfl) ?_
    refine va_get (D := G) (ci := 6) (v := .ref a_t_rows) (C := RX6) (T := TX6) (N := 2) hx hb hg inX6 hown hKT hP 0 rfl rfl 0 (by decide) (hg _ gF_X6_13) (fun _ h9 => h9) rfl dX6_remember_27 ?_
    refine lv_aload_n hx hb dX6_remember_30 rfl (lv_at hl 0 rfl) ?_
    refine va_get (D := G) (ci := 6) (v := .int (v_t_known + (1 : Int32))) (C := RX6) (T := TX6) (N := 2) hx hb hg inX6 hown hKT hP 0 rfl rfl 1 (by decide) (hg _ gF_X6_16) (fun _ h9 => h9) rfl dX6_remember_31 ?_
    obtain ⟨q5, hq5, hB⟩ := bnd hB
    refine kw_v (WC := wd_X6_copyRow_self cs a_t a_t_rows r_t_rows (v_t_known + (1 : Int32)) g_t_rows) (W1 := wd_X6_copyRow_self cs a_t a_t_rows r_t_rows (v_t_known + (1 : Int32)) q5) (W2 := wd_X6_remember cs a_t a_t_rows r_t_rows (v_t_known + (1 : Int32)) q5) (rw_V (As := [.int ((v_t_known + (1 : Int32)) - (1 : Int32)), .ref a_t_rows, .int (v_t_known + (1 : Int32))]) (rest := []) ⟨hx, hb, hml, hown, hg⟩ (k_X6_copyRow_self l G cs a_t a_t_rows r_t_rows (v_t_known + (1 : Int32)) g_t_rows ((v_t_known + (1 : Int32)) - (1 : Int32)) (v_t_known + (1 : Int32)) H.size q5 hq5) gM_X6_38 mI_X6_copyRow (rmk rfl) hP hD hKT hN 0 rfl rfl [0, 1, 2, 3, 4, 5, 6, 7, 8, 9, 10, 11, 12] rfl rfl rfl hl.1 rfl (Nat.le_of_ble_eq_true rfl) dX6_remember_34) hP hD hS hA [0, 1, 2, 3, 4, 5, 6, 7, 8, 9, 10, 11, 12] [] [0, 1, 2, 3, 4, 5, 6, 7, 8, 9, 10, 11, 12] ⟨rfl, rfl, rfl, rfl, rfl, rfl, rfl⟩ (fun H locs hP hD hS => ?_)
    have hK := leafK hB hK
    have hK : (v_t_known + (1 : Int32), q5) = R0 := hK
    subst hK
    exact W.vret hx hb hr (fun t ht hW => ⟨⟨(), rfl, trivial, by rw [ht]; exact hP, hD⟩, hS.F ht⟩) hS.2.2 dX6_remember_37
def wd_X6_takeBack (cs : Nat → ClassId) (a_t a_t_rows : Nat) (v_t_known : Int32) : va_W := [(a_t, .inr (6, [.ref a_t_rows, .int v_t_known]))]
def rm_X6_takeBack : Room := { frames := 0, cells := 0, slots := 0, locals := 0 }
theorem mI_X6_takeBack : MI yX6_takeBack RX6 cX6_takeBack 1 (some .boolean) 0 := ⟨gI_X6_takeBack, gE_X6_takeBack, gN_X6, gC_X6_takeBack, by decide +kernel⟩
set_option maxHeartbeats 4000000 in
set_option maxRecDepth 100000 in
theorem k_X6_takeBack (l : Launch) (G : va_G) (cs : Nat → ClassId) (a_t a_t_rows : Nat) (v_t_known : Int32) (sz : Nat) (R0 : Int32 × Int32) (hB : f_X6_takeBack v_t_known = some R0) : Met l yX6_takeBack (.code yX6_takeBack cX6_takeBack 1 (some .boolean) :: GW) rm_X6_takeBack (PcW G cs [.ref a_t] (wd_X6_takeBack cs a_t a_t_rows v_t_known) sz) (QcI G (va_A (wd_X6_takeBack cs a_t a_t_rows v_t_known) sz) (wd_X6_takeBack cs a_t a_t_rows R0.2) R0.1) 0 0 (va_A (wd_X6_takeBack cs a_t a_t_rows v_t_known) sz) := by
  refine Met.ofW (cc := cX6_takeBack) (maxL := 1) (ret := (some .boolean)) (by decide) rfl ?_
  intro p e s m args below meth c s₁ B hml hv
  obtain ⟨rfl, hsz, hP, hD0, hK, hN⟩ := hv
  have hx := B.exec
  have hb := B.bytes
  have hr := B.returns
  have hts := atoms_spec (ws := .code yX6_takeBack cX6_takeBack 1 (some .boolean) :: GW) B.pre
  have hg : ∀ w ∈ GW, w.before _ s = true := fun w h => hts w (List.mem_cons_of_mem _ h)
  have hown : s.vm.findClass RX6 = some m.cls := findClass_of_methodNamed B.named
  have hlocks := B.notSynchronized
  subst hsz
  have hD := hD0.self (sz := s.heap.size)
  generalize hAe : va_A (wd_X6_takeBack cs a_t a_t_rows v_t_known) s.heap.size = A at hD ⊢
  have hA : ∀ q : Nat, s.heap.size ≤ q → A q := fun q h => by rw [← hAe]; exact Or.inr h
  have hS : va_S A s.heap s.heap [] := va_S.rf
  have hl := lv_entry ([.ref a_t]) (n := 1) (Nat.le_of_ble_eq_true rfl)
  rw [lg_entry_eq]
  generalize (lg_sl ([.ref a_t]) ++ List.replicate (1 - (lg_sl ([.ref a_t])).length) Slot.unset).toArray = ls at hl ⊢
  have hl : lv_has ls 1 [(0, .ref a_t)] := hl
  obtain ⟨y, hB, hK0⟩ : ∃ y, f_X6_takeBack v_t_known = some y ∧ KEnd R0 y := ⟨R0, hB, rfl⟩
  have hKT := hK
  have hK := hK0
  obtain ⟨H, hHe⟩ : ∃ H, H = s.heap := ⟨_, rfl⟩
  obtain ⟨locs, hLe⟩ : ∃ L : List Loc, L = [] := ⟨_, rfl⟩
  rw [← hHe] at hP
  have hS : va_S A s.heap H locs := by rw [hHe, hLe]; exact hS
  show W p l e rm_X6_takeBack s m ([.ref a_t] : List Value).toArray below meth c s.heap [] 0 0 _ _
  suffices hgo : W p l e rm_X6_takeBack s m ([.ref a_t] : List Value).toArray below meth c H locs 0 0 (MQ below (QcI G A (wd_X6_takeBack cs a_t a_t_rows R0.2) R0.1) ([.ref a_t] : List Value).toArray s 0 0 A) (F0 m 0 ls []) by rw [hHe, hLe] at hgo; exact hgo
  refine lv_aload_n hx hb dX6_takeBack_0 rfl (lv_at hl 0 rfl) ?_
  refine va_get (D := G) (ci := 6) (v := .int v_t_known) (C := RX6) (T := TX6) (N := 2) hx hb hg inX6 hown hKT hP 0 rfl rfl 1 (by decide) (hg _ gF_X6_16) (fun _ h9 => h9) rfl dX6_takeBack_1 ?_
  refine lv_iconst (v := 1) hx hb dX6_takeBack_4 (by decide) ?_
  refine lv_icmp_ge (tgt := 10) hx hb dX6_takeBack_5 (by decide) (fun c_1 => ?_) (fun c_1 => ?_)
  · have hB := ifP c_1 hB
    refine lv_aload_n hx hb dX6_takeBack_10 rfl (lv_at hl 0 rfl) ?_
    refine lv_dup hx hb dX6_takeBack_11 rfl ?_
    refine va_get (D := G) (ci := 6) (v := .int v_t_known) (C := RX6) (T := TX6) (N := 2) hx hb hg inX6 hown hKT hP 0 rfl rfl 1 (by decide) (hg _ gF_X6_16) (fun _ h9 => h9) rfl dX6_takeBack_12 ?_
    refine lv_iconst (v := 1) hx hb dX6_takeBack_15 (by decide) ?_
    refine lv_isub hx hb dX6_takeBack_16 ?_
    refine va_put (D := G) (ci := 6) (v := .int (v_t_known - (1 : Int32))) (ty := .int) (C := RX6) (T := TX6) (N := 2) hx hb hg inX6 tyX6 tyX6_ok nmX6 hown hKT hP hD hS 0 rfl rfl 1 (by decide) (hg _ gF_X6_16) (fun _ h9 => h9) rfl (by decide +kernel) rfl rfl (Nat.le_of_ble_eq_true rfl) dX6_takeBack_17 (fun H locs hP hD hS => ?_)
    have hP : va_P G vwCl (wd_X6_takeBack cs a_t a_t_rows (v_t_known - (1 : Int32))) H := hP
    have hD : va_D A (wd_X6_takeBack cs a_t a_t_rows (v_t_known - (1 : Int32))) := hD
    refine lv_iconst (v := 1) hx hb dX6_takeBack_20 (by decide) ?_
    have hK := leafK hB hK
    have hK : ((1 : Int32), v_t_known - (1 : Int32)) = R0 := hK
    subst hK
    exact W.zret (v := (1 : Int32)) (ty := .boolean) hx hb hr rfl (fun t ht hW => ⟨⟨_, (), rfl, rfl, by rw [ht]; exact hP, hD⟩, hS.F ht⟩) hS.2.2 dX6_takeBack_21
  · have hB := ifN c_1 hB
    refine lv_iconst (v := 0) hx hb dX6_takeBack_8 (by decide) ?_
    have hK := leafK hB hK
    have hK : ((0 : Int32), v_t_known) = R0 := hK
    subst hK
    exact W.zret (v := (0 : Int32)) (ty := .boolean) hx hb hr rfl (fun t ht hW => ⟨⟨_, (), rfl, rfl, by rw [ht]; exact hP, hD⟩, hS.F ht⟩) hS.2.2 dX6_takeBack_9
def wd_X6_become (cs : Nat → ClassId) (a_t a_t_rows a_p1 a_p1_rows : Nat) (r_t_rows : Nat → Nat) (r_p1_rows : Nat → Nat) (v_t_known : Int32) (g_t_rows : Nat → Nat → Int32) (v_p1_known : Int32) (g_p1_rows : Nat → Nat → Int32) : va_W := [(a_t, .inr (6, [.ref a_t_rows, .int v_t_known])), (a_t_rows, .inl (cs 3, 11, .inr (.inr (.inr (.inr (gO r_t_rows)))))), (r_t_rows 0, .inl (cs 0, 9, .inl (g_t_rows 0))), (r_t_rows 1, .inl (cs 0, 9, .inl (g_t_rows 1))), (r_t_rows 2, .inl (cs 0, 9, .inl (g_t_rows 2))), (r_t_rows 3, .inl (cs 0, 9, .inl (g_t_rows 3))), (r_t_rows 4, .inl (cs 0, 9, .inl (g_t_rows 4))), (r_t_rows 5, .inl (cs 0, 9, .inl (g_t_rows 5))), (r_t_rows 6, .inl (cs 0, 9, .inl (g_t_rows 6))), (r_t_rows 7, .inl (cs 0, 9, .inl (g_t_rows 7))), (r_t_rows 8, .inl (cs 0, 9, .inl (g_t_rows 8))), (r_t_rows 9, .inl (cs 0, 9, .inl (g_t_rows 9))), (r_t_rows 10, .inl (cs 0, 9, .inl (g_t_rows 10))), (a_p1, .inr (6, [.ref a_p1_rows, .int v_p1_known])), (a_p1_rows, .inl (cs 3, 11, .inr (.inr (.inr (.inr (gO r_p1_rows)))))), (r_p1_rows 0, .inl (cs 0, 9, .inl (g_p1_rows 0))), (r_p1_rows 1, .inl (cs 0, 9, .inl (g_p1_rows 1))), (r_p1_rows 2, .inl (cs 0, 9, .inl (g_p1_rows 2))), (r_p1_rows 3, .inl (cs 0, 9, .inl (g_p1_rows 3))), (r_p1_rows 4, .inl (cs 0, 9, .inl (g_p1_rows 4))), (r_p1_rows 5, .inl (cs 0, 9, .inl (g_p1_rows 5))), (r_p1_rows 6, .inl (cs 0, 9, .inl (g_p1_rows 6))), (r_p1_rows 7, .inl (cs 0, 9, .inl (g_p1_rows 7))), (r_p1_rows 8, .inl (cs 0, 9, .inl (g_p1_rows 8))), (r_p1_rows 9, .inl (cs 0, 9, .inl (g_p1_rows 9))), (r_p1_rows 10, .inl (cs 0, 9, .inl (g_p1_rows 10)))]
def rm_X6_become : Room := { frames := 2, cells := 0, slots := 0, locals := 83 }
theorem mI_X6_become : MI yX6_become RX6 cX6_become 3 none 1 := ⟨gI_X6_become, gE_X6_become, gN_X6, gC_X6_become, by decide +kernel⟩
set_option maxHeartbeats 4000000 in
set_option maxRecDepth 100000 in
theorem k_X6_become (l : Launch) (G : va_G) (cs : Nat → ClassId) (a_t a_t_rows a_p1 a_p1_rows : Nat) (r_t_rows : Nat → Nat) (r_p1_rows : Nat → Nat) (v_t_known : Int32) (g_t_rows : Nat → Nat → Int32) (v_p1_known : Int32) (g_p1_rows : Nat → Nat → Int32) (sz : Nat) (R0 : Int32 × (Nat → Nat → Int32)) (hB : f_X6_become g_t_rows v_p1_known g_p1_rows = some R0) : Met l yX6_become (.code yX6_become cX6_become 3 none :: GW) rm_X6_become (PcW G cs [.ref a_t, .ref a_p1] (wd_X6_become cs a_t a_t_rows a_p1 a_p1_rows r_t_rows r_p1_rows v_t_known g_t_rows v_p1_known g_p1_rows) sz) (QcV G (va_A (wd_X6_become cs a_t a_t_rows a_p1 a_p1_rows r_t_rows r_p1_rows v_t_known g_t_rows v_p1_known g_p1_rows) sz) (wd_X6_become cs a_t a_t_rows a_p1 a_p1_rows r_t_rows r_p1_rows R0.1 R0.2 v_p1_known g_p1_rows)) 0 0 (va_A (wd_X6_become cs a_t a_t_rows a_p1 a_p1_rows r_t_rows r_p1_rows v_t_known g_t_rows v_p1_known g_p1_rows) sz) := by
  refine Met.ofW (cc := cX6_become) (maxL := 3) (ret := none) (by decide) rfl ?_
  intro p e s m args below meth c s₁ B hml hv
  obtain ⟨rfl, hsz, hP, hD0, hK, hN⟩ := hv
  have hx := B.exec
  have hb := B.bytes
  have hr := B.returns
  have hts := atoms_spec (ws := .code yX6_become cX6_become 3 none :: GW) B.pre
  have hg : ∀ w ∈ GW, w.before _ s = true := fun w h => hts w (List.mem_cons_of_mem _ h)
  have hown : s.vm.findClass RX6 = some m.cls := findClass_of_methodNamed B.named
  have hlocks := B.notSynchronized
  subst hsz
  have hD := hD0.self (sz := s.heap.size)
  generalize hAe : va_A (wd_X6_become cs a_t a_t_rows a_p1 a_p1_rows r_t_rows r_p1_rows v_t_known g_t_rows v_p1_known g_p1_rows) s.heap.size = A at hD ⊢
  have hA : ∀ q : Nat, s.heap.size ≤ q → A q := fun q h => by rw [← hAe]; exact Or.inr h
  have hS : va_S A s.heap s.heap [] := va_S.rf
  have hl := lv_entry ([.ref a_t, .ref a_p1]) (n := 3) (Nat.le_of_ble_eq_true rfl)
  rw [lg_entry_eq]
  generalize (lg_sl ([.ref a_t, .ref a_p1]) ++ List.replicate (3 - (lg_sl ([.ref a_t, .ref a_p1])).length) Slot.unset).toArray = ls at hl ⊢
  have hl : lv_has ls 3 [(0, .ref a_t), (1, .ref a_p1)] := hl
  obtain ⟨y, hB, hK0⟩ : ∃ y, f_X6_become g_t_rows v_p1_known g_p1_rows = some y ∧ KEnd R0 y := ⟨R0, hB, rfl⟩
  have hKT := hK
  have hK := hK0
  obtain ⟨H, hHe⟩ : ∃ H, H = s.heap := ⟨_, rfl⟩
  obtain ⟨locs, hLe⟩ : ∃ L : List Loc, L = [] := ⟨_, rfl⟩
  rw [← hHe] at hP
  have hS : va_S A s.heap H locs := by rw [hHe, hLe]; exact hS
  show W p l e rm_X6_become s m ([.ref a_t, .ref a_p1] : List Value).toArray below meth c s.heap [] 0 0 _ _
  suffices hgo : W p l e rm_X6_become s m ([.ref a_t, .ref a_p1] : List Value).toArray below meth c H locs 0 0 (MQ below (QcV G A (wd_X6_become cs a_t a_t_rows a_p1 a_p1_rows r_t_rows r_p1_rows R0.1 R0.2 v_p1_known g_p1_rows)) ([.ref a_t, .ref a_p1] : List Value).toArray s 0 0 A) (F0 m 0 ls []) by rw [hHe, hLe] at hgo; exact hgo
  refine lv_aload_n hx hb dX6_become_0 rfl (lv_at hl 0 rfl) ?_
  refine lv_aload_n hx hb dX6_become_1 rfl (lv_at hl 1 rfl) ?_
  refine va_get (D := G) (ci := 6) (v := .int v_p1_known) (C := RX6) (T := TX6) (N := 2) hx hb hg inX6 hown hKT hP 13 rfl rfl 1 (by decide) (hg _ gF_X6_16) (fun _ h9 => h9) rfl dX6_become_2 ?_
  refine va_put (D := G) (ci := 6) (v := .int v_p1_known) (ty := .int) (C := RX6) (T := TX6) (N := 2) hx hb hg inX6 tyX6 tyX6_ok nmX6 hown hKT hP hD hS 0 rfl rfl 1 (by decide) (hg _ gF_X6_16) (fun _ h9 => h9) rfl (by decide +kernel) rfl rfl (Nat.le_of_ble_eq_true rfl) dX6_become_5 (fun H locs hP hD hS => ?_)
  have hP : va_P G vwCl (wd_X6_become cs a_t a_t_rows a_p1 a_p1_rows r_t_rows r_p1_rows v_p1_known g_t_rows v_p1_known g_p1_rows) H := hP
  have hD : va_D A (wd_X6_become cs a_t a_t_rows a_p1 a_p1_rows r_t_rows r_p1_rows v_p1_known g_t_rows v_p1_known g_p1_rows) := hD
  refine lv_iconst (v := 0) hx hb dX6_become_8 (by decide) ?_
  refine lv_istore_n (lv' := [(2, .int (0 : Int32)), (0, .ref a_t), (1, .ref a_p1)]) hx hb dX6_become_9 rfl hl (by decide) rfl (fun ls hl => ?_)
  refine lp_ind (Wh := fun (z1 : Int32 × (Nat → Nat → Int32)) => ∀ (H : Heap) (locs : List Loc), va_P G vwCl (wd_X6_become cs a_t a_t_rows a_p1 a_p1_rows r_t_rows r_p1_rows v_p1_known z1.2 v_p1_known g_p1_rows) H → va_D A (wd_X6_become cs a_t a_t_rows a_p1 a_p1_rows r_t_rows r_p1_rows v_p1_known z1.2 v_p1_known g_p1_rows) → va_S A s.heap H locs → ∀ (ls : Array Slot), lv_has ls 3 [(0, .ref a_t), (1, .ref a_p1), (2, .int z1.1)] → W p l e rm_X6_become s m ([.ref a_t, .ref a_p1] : List Value).toArray below meth c H locs 0 0 (MQ below (QcV G A (wd_X6_become cs a_t a_t_rows a_p1 a_p1_rows r_t_rows r_p1_rows R0.1 R0.2 v_p1_known g_p1_rows)) ([.ref a_t, .ref a_p1] : List Value).toArray s 0 0 A) (F0 m 10 ls [])) ?_ FU _ _ hB hK H locs hP hD hS ls (lv_sub hl [1, 2, 0] rfl)
  rintro ⟨z1_0, z1_1⟩ y hB hK H locs hP hD hS ls hl
  have hl : lv_has ls 3 [(0, .ref a_t), (1, .ref a_p1), (2, .int z1_0)] := hl
  have hP : va_P G vwCl (wd_X6_become cs a_t a_t_rows a_p1 a_p1_rows r_t_rows r_p1_rows v_p1_known z1_1 v_p1_known g_p1_rows) H := hP
  have hD : va_D A (wd_X6_become cs a_t a_t_rows a_p1 a_p1_rows r_t_rows r_p1_rows v_p1_known z1_1 v_p1_known g_p1_rows) := hD
  refine lv_iload_n hx hb dX6_become_10 rfl (lv_at hl 2 rfl) ?_
  refine lv_aload_n hx hb dX6_become_11 rfl (lv_at hl 0 rfl) ?_
  refine va_get (D := G) (ci := 6) (v := .int v_p1_known) (C := RX6) (T := TX6) (N := 2) hx hb hg inX6 hown hKT hP 0 rfl rfl 1 (by decide) (hg _ gF_X6_16) (fun _ h9 => h9) rfl dX6_become_12 ?_
  refine lv_icmp_gt (tgt := 34) hx hb dX6_become_15 (by decide) (fun c_2 => ?_) (fun c_2 => ?_)
  · have hB := ifP c_2 hB
    have hK := leafK hB hK
    have hK := elimR hK
    have hK : (v_p1_known, z1_1) = R0 := hK
    subst hK
    exact W.vret hx hb hr (fun t ht hW => ⟨⟨(), rfl, trivial, by rw [ht]; exact hP, hD⟩, hS.F ht⟩) hS.2.2 dX6_become_34
  · have hB := ifN c_2 hB
    refine lv_aload_n hx hb dX6_become_18 rfl (lv_at hl 1 rfl) ?_
    refine lv_iload_n hx hb dX6_become_19 rfl (lv_at hl 2 rfl) ?_
    refine lv_aload_n hx hb dX6_become_20 rfl (lv_at hl 0 rfl) ?_
    refine va_get (D := G) (ci := 6) (v := .ref a_t_rows) (C := RX6) (T := TX6) (N := 2) hx hb hg inX6 hown hKT hP 0 rfl rfl 0 (by decide) (hg _ gF_X6_13) (fun _ h9 => h9) rfl dX6_become_21 ?_
    refine lv_iload_n hx hb dX6_become_24 rfl (lv_at hl 2 rfl) ?_
    obtain ⟨q3, hq3, hB⟩ := bnd hB
    refine kw_v (WC := wd_X6_copyRow_other cs a_p1 a_p1_rows a_t_rows r_p1_rows r_t_rows v_p1_known g_p1_rows z1_1) (W1 := wd_X6_copyRow_other cs a_p1 a_p1_rows a_t_rows r_p1_rows r_t_rows v_p1_known g_p1_rows q3) (W2 := wd_X6_become cs a_t a_t_rows a_p1 a_p1_rows r_t_rows r_p1_rows v_p1_known q3 v_p1_known g_p1_rows) (rw_V (As := [.int z1_0, .ref a_t_rows, .int z1_0]) (rest := []) ⟨hx, hb, hml, hown, hg⟩ (k_X6_copyRow_other l G cs a_p1 a_p1_rows a_t_rows r_p1_rows r_t_rows v_p1_known g_p1_rows z1_1 z1_0 z1_0 H.size q3 hq3) gM_X6_38 mI_X6_copyRow (rmk rfl) hP hD hKT hN 13 rfl rfl [13, 14, 15, 16, 17, 18, 19, 20, 21, 22, 23, 24, 25, 1, 2, 3, 4, 5, 6, 7, 8, 9, 10, 11, 12] rfl rfl rfl hl.1 rfl (Nat.le_of_ble_eq_true rfl) dX6_become_25) hP hD hS hA [13, 14, 15, 16, 17, 18, 19, 20, 21, 22, 23, 24, 25, 1, 2, 3, 4, 5, 6, 7, 8, 9, 10, 11, 12] [0] [0, 14, 15, 16, 17, 18, 19, 20, 21, 22, 23, 24, 25, 1, 2, 3, 4, 5, 6, 7, 8, 9, 10, 11, 12, 13] ⟨rfl, rfl, rfl, rfl, rfl, rfl, rfl⟩ (fun H locs hP hD hS => ?_)
    refine lv_iinc (v := z1_0 + (1 : Int32)) (lv' := [(2, .int (z1_0 + (1 : Int32))), (0, .ref a_t), (1, .ref a_p1)]) hx hb dX6_become_28 hl (k := 2) rfl (inc_ok (by decide)) (by decide) rfl (fun ls hl => ?_)
    refine lv_goto (tgt := 10) hx hb dX6_become_31 (by decide) ?_
    have hK := leafK hB hK
    have hK := elimL hK
    exact hK H locs hP hD hS ls (lv_sub hl [1, 2, 0] rfl)
