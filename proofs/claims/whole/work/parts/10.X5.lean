theorem inX5 : ∀ w ∈ u_ws RX5 TX5 5, w ∈ GW := by
  intro w h
  obtain ⟨k, hk, rfl⟩ := List.mem_map.mp h
  have hk := List.mem_range.mp hk
  rcases (show k = 0 ∨ k = 1 ∨ k = 2 ∨ k = 3 ∨ k = 4 by omega) with rfl | rfl | rfl | rfl | rfl
  · exact gY_X5_laws
  · exact gY_X5_book
  · exact gY_X5_copies
  · exact gY_X5_ender
  · exact gY_X5_goesOn
def wd_X5_boughtFrom (cs : Nat → ClassId) : va_W := []
def rm_X5_boughtFrom : Room := { frames := 0, cells := 0, slots := 0, locals := 0 }
theorem mS_X5_boughtFrom : MS yX5_boughtFrom cX5_boughtFrom 4 (some .int) 2 := ⟨gS_X5_boughtFrom, gN_X5, gC_X5_boughtFrom, by decide +kernel⟩
set_option maxHeartbeats 4000000 in
set_option maxRecDepth 100000 in
theorem k_X5_boughtFrom (l : Launch) (G : va_G) (cs : Nat → ClassId) (p0 p1 : Int32) (R0 : Int32) (hB : f_X5_boughtFrom p0 p1 = some R0) : Met l yX5_boughtFrom (.code yX5_boughtFrom cX5_boughtFrom 4 (some .int) :: GW) rm_X5_boughtFrom (PcR G cs [.int p0, .int p1] (wd_X5_boughtFrom cs )) (vp_Si (fun r => r = R0)) 0 0 (fun _ => False) := by
  refine Met.ofW (cc := cX5_boughtFrom) (maxL := 4) (ret := (some .int)) (by decide) rfl ?_
  intro p e s m args below meth c s₁ B hml hv
  obtain ⟨rfl, hP, hK, hN⟩ := hv
  have hx := B.exec
  have hb := B.bytes
  have hr := B.returns
  have hts := atoms_spec (ws := .code yX5_boughtFrom cX5_boughtFrom 4 (some .int) :: GW) B.pre
  have hg : ∀ w ∈ GW, w.before _ s = true := fun w h => hts w (List.mem_cons_of_mem _ h)
  have hown : s.vm.findClass RX5 = some m.cls := findClass_of_methodNamed B.named
  have hlocks := B.notSynchronized
  have hl := lv_entry ([.int p0, .int p1]) (n := 4) (Nat.le_of_ble_eq_true rfl)
  rw [lg_entry_eq]
  generalize (lg_sl ([.int p0, .int p1]) ++ List.replicate (4 - (lg_sl ([.int p0, .int p1])).length) Slot.unset).toArray = ls at hl ⊢
  have hl : lv_has ls 4 [(0, .int p0), (1, .int p1)] := hl
  obtain ⟨y, hB, hK0⟩ : ∃ y, f_X5_boughtFrom p0 p1 = some y ∧ KEnd R0 y := ⟨R0, hB, rfl⟩
  have hKT := hK
  have hK := hK0
  show W p l e rm_X5_boughtFrom s m ([.int p0, .int p1] : List Value).toArray below meth c s.heap [] 0 0 (MQ below (vp_Si (fun r => r = R0)) ([.int p0, .int p1] : List Value).toArray s 0 0 (fun _ => False)) (F0 m 0 ls [])
  refine lv_iconst (v := 0) hx hb dX5_boughtFrom_0 (by decide) ?_
  refine lv_istore_n (lv' := [(2, .int (0 : Int32)), (0, .int p0), (1, .int p1)]) hx hb dX5_boughtFrom_1 rfl hl (by decide) rfl (fun ls hl => ?_)
  refine lp_ind (Wh := fun (z1 : Int32) => ∀ (ls : Array Slot), lv_has ls 4 [(0, .int p0), (1, .int p1), (2, .int z1)] → W p l e rm_X5_boughtFrom s m ([.int p0, .int p1] : List Value).toArray below meth c s.heap [] 0 0 (MQ below (vp_Si (fun r => r = R0)) ([.int p0, .int p1] : List Value).toArray s 0 0 (fun _ => False)) (F0 m 2 ls [])) ?_ FU _ _ hB hK ls (lv_sub hl [1, 2, 0] rfl)
  rintro z1 y hB hK ls hl
  have hl : lv_has ls 4 [(0, .int p0), (1, .int p1), (2, .int z1)] := hl
  refine lv_iload_n hx hb dX5_boughtFrom_2 rfl (lv_at hl 2 rfl) ?_
  refine lv_bipush (v := 6) hx hb dX5_boughtFrom_3 (by decide) ?_
  refine lv_icmp_ge (tgt := 32) hx hb dX5_boughtFrom_5 (by decide) (fun c_2 => ?_) (fun c_2 => ?_)
  · have hB := ifP c_2 hB
    refine lv_bipush (v := -9) hx hb dX5_boughtFrom_32 (by decide) ?_
    have hK := leafK hB hK
    have hK := elimR hK
    have hK : (-9 : Int32) = R0 := hK
    subst hK
    exact W.iret (v := (-9 : Int32)) hx hb hr (fun t ht hW => ⟨_, rfl, rfl, ht⟩) (fun _ h => by cases h) dX5_boughtFrom_34
  · have hB := ifN c_2 hB
    refine lv_iload_n hx hb dX5_boughtFrom_8 rfl (lv_at hl 1 rfl) ?_
    refine lv_iload_n hx hb dX5_boughtFrom_9 rfl (lv_at hl 2 rfl) ?_
    refine lv_iadd hx hb dX5_boughtFrom_10 ?_
    refine lv_bipush (v := 6) hx hb dX5_boughtFrom_11 (by decide) ?_
    refine lj_irem hx hb dX5_boughtFrom_13 (by decide) ?_
    refine lv_istore_n (lv' := [(3, .int (jrem (p1 + z1) (6 : Int32))), (0, .int p0), (1, .int p1), (2, .int z1)]) hx hb dX5_boughtFrom_14 rfl hl (by decide) rfl (fun ls hl => ?_)
    refine lv_iload_n hx hb dX5_boughtFrom_15 rfl (lv_at hl 1 rfl) ?_
    refine lv_iload_n hx hb dX5_boughtFrom_16 rfl (lv_at hl 0 rfl) ?_
    refine lj_ishr hx hb dX5_boughtFrom_17 ?_
    refine lv_iconst (v := 1) hx hb dX5_boughtFrom_18 (by decide) ?_
    refine lv_iand hx hb dX5_boughtFrom_19 ?_
    refine lv_iconst (v := 1) hx hb dX5_boughtFrom_20 (by decide) ?_
    refine lv_icmp_ne (tgt := 26) hx hb dX5_boughtFrom_21 (by decide) (fun c_3 => ?_) (fun c_3 => ?_)
    · have hB := ifN c_3 hB
      refine lv_iinc (v := z1 + (1 : Int32)) (lv' := [(2, .int (z1 + (1 : Int32))), (3, .int (jrem (p1 + z1) (6 : Int32))), (0, .int p0), (1, .int p1)]) hx hb dX5_boughtFrom_26 hl (k := 3) rfl (inc_ok (by decide)) (by decide) rfl (fun ls hl => ?_)
      refine lv_goto (tgt := 2) hx hb dX5_boughtFrom_29 (by decide) ?_
      have hK := leafK hB hK
      have hK := elimL hK
      exact hK ls (lv_sub hl [2, 3, 0] rfl)
    · have hB := ifP c_3 hB
      refine lv_iload_n hx hb dX5_boughtFrom_24 rfl (lv_at hl 0 rfl) ?_
      have hK := leafK hB hK
      have hK := elimR hK
      have hK : (jrem (p1 + z1) (6 : Int32)) = R0 := hK
      subst hK
      exact W.iret (v := jrem (p1 + z1) (6 : Int32)) hx hb hr (fun t ht hW => ⟨_, rfl, rfl, ht⟩) (fun _ h => by cases h) dX5_boughtFrom_25
def wd_X5_run (cs : Nat → ClassId) (a_t a_t_laws a_t_laws_made : Nat) (v_t_book : Int32) (v_t_copies : Int32) (v_t_ender : Int32) (v_t_goesOn : Int32) (v_t_laws_scribes : Int32) (v_t_laws_books : Int32) (g_t_laws_made : Nat → Int32) : va_W := [(a_t, .inr (5, [.ref a_t_laws, .int v_t_book, .int v_t_copies, .int v_t_ender, .int v_t_goesOn])), (a_t_laws, .inr (1, [.ref a_t_laws_made, .int v_t_laws_scribes, .int v_t_laws_books])), (a_t_laws_made, .inl (cs 0, 3750, .inl g_t_laws_made))]
def rm_X5_run : Room := { frames := 1, cells := 0, slots := 0, locals := 23 }
theorem mI_X5_run : MI yX5_run RX5 cX5_run 7 none 3 := ⟨gI_X5_run, gE_X5_run, gN_X5, gC_X5_run, by decide +kernel⟩
set_option maxHeartbeats 4000000 in
set_option maxRecDepth 100000 in
theorem k_X5_run (l : Launch) (G : va_G) (cs : Nat → ClassId) (a_t a_t_laws a_t_laws_made : Nat) (v_t_book : Int32) (v_t_copies : Int32) (v_t_ender : Int32) (v_t_goesOn : Int32) (v_t_laws_scribes : Int32) (v_t_laws_books : Int32) (g_t_laws_made : Nat → Int32) (p1 p2 p3 : Int32) (sz : Nat) (R0 : Int32 × Int32 × Int32 × Int32) (hB : f_X5_run v_t_laws_scribes v_t_laws_books g_t_laws_made p1 p2 p3 = some R0) : Met l yX5_run (.code yX5_run cX5_run 7 none :: GW) rm_X5_run (PcW G cs [.ref a_t, .int p1, .int p2, .int p3] (wd_X5_run cs a_t a_t_laws a_t_laws_made v_t_book v_t_copies v_t_ender v_t_goesOn v_t_laws_scribes v_t_laws_books g_t_laws_made) sz) (QcV G (va_A (wd_X5_run cs a_t a_t_laws a_t_laws_made v_t_book v_t_copies v_t_ender v_t_goesOn v_t_laws_scribes v_t_laws_books g_t_laws_made) sz) (wd_X5_run cs a_t a_t_laws a_t_laws_made R0.1 R0.2.1 R0.2.2.1 R0.2.2.2 v_t_laws_scribes v_t_laws_books g_t_laws_made)) 0 0 (va_A (wd_X5_run cs a_t a_t_laws a_t_laws_made v_t_book v_t_copies v_t_ender v_t_goesOn v_t_laws_scribes v_t_laws_books g_t_laws_made) sz) := by
  refine Met.ofW (cc := cX5_run) (maxL := 7) (ret := none) (by decide) rfl ?_
  intro p e s m args below meth c s₁ B hml hv
  obtain ⟨rfl, hsz, hP, hD0, hK, hN⟩ := hv
  have hx := B.exec
  have hb := B.bytes
  have hr := B.returns
  have hts := atoms_spec (ws := .code yX5_run cX5_run 7 none :: GW) B.pre
  have hg : ∀ w ∈ GW, w.before _ s = true := fun w h => hts w (List.mem_cons_of_mem _ h)
  have hown : s.vm.findClass RX5 = some m.cls := findClass_of_methodNamed B.named
  have hlocks := B.notSynchronized
  subst hsz
  have hD := hD0.self (sz := s.heap.size)
  generalize hAe : va_A (wd_X5_run cs a_t a_t_laws a_t_laws_made v_t_book v_t_copies v_t_ender v_t_goesOn v_t_laws_scribes v_t_laws_books g_t_laws_made) s.heap.size = A at hD ⊢
  have hA : ∀ q : Nat, s.heap.size ≤ q → A q := fun q h => by rw [← hAe]; exact Or.inr h
  have hS : va_S A s.heap s.heap [] := va_S.rf
  have hl := lv_entry ([.ref a_t, .int p1, .int p2, .int p3]) (n := 7) (Nat.le_of_ble_eq_true rfl)
  rw [lg_entry_eq]
  generalize (lg_sl ([.ref a_t, .int p1, .int p2, .int p3]) ++ List.replicate (7 - (lg_sl ([.ref a_t, .int p1, .int p2, .int p3])).length) Slot.unset).toArray = ls at hl ⊢
  have hl : lv_has ls 7 [(0, .ref a_t), (1, .int p1), (2, .int p2), (3, .int p3)] := hl
  obtain ⟨y, hB, hK0⟩ : ∃ y, f_X5_run v_t_laws_scribes v_t_laws_books g_t_laws_made p1 p2 p3 = some y ∧ KEnd R0 y := ⟨R0, hB, rfl⟩
  have hKT := hK
  have hK := hK0
  obtain ⟨H, hHe⟩ : ∃ H, H = s.heap := ⟨_, rfl⟩
  obtain ⟨locs, hLe⟩ : ∃ L : List Loc, L = [] := ⟨_, rfl⟩
  rw [← hHe] at hP
  have hS : va_S A s.heap H locs := by rw [hHe, hLe]; exact hS
  show W p l e rm_X5_run s m ([.ref a_t, .int p1, .int p2, .int p3] : List Value).toArray below meth c s.heap [] 0 0 _ _
  suffices hgo : W p l e rm_X5_run s m ([.ref a_t, .int p1, .int p2, .int p3] : List Value).toArray below meth c H locs 0 0 (MQ below (QcV G A (wd_X5_run cs a_t a_t_laws a_t_laws_made R0.1 R0.2.1 R0.2.2.1 R0.2.2.2 v_t_laws_scribes v_t_laws_books g_t_laws_made)) ([.ref a_t, .int p1, .int p2, .int p3] : List Value).toArray s 0 0 A) (F0 m 0 ls []) by rw [hHe, hLe] at hgo; exact hgo
  refine lv_aload_n hx hb dX5_run_0 rfl (lv_at hl 0 rfl) ?_
  refine lv_iload_n hx hb dX5_run_1 rfl (lv_at hl 1 rfl) ?_
  refine va_put (D := G) (ci := 5) (v := .int p1) (ty := .int) (C := RX5) (T := TX5) (N := 5) hx hb hg inX5 tyX5 tyX5_ok nmX5 hown hKT hP hD hS 0 rfl rfl 1 (by decide) (hg _ gF_X5_15) (fun _ h9 => h9) rfl (by decide +kernel) rfl rfl (Nat.le_of_ble_eq_true rfl) dX5_run_2 (fun H locs hP hD hS => ?_)
  have hP : va_P G vwCl (wd_X5_run cs a_t a_t_laws a_t_laws_made p1 v_t_copies v_t_ender v_t_goesOn v_t_laws_scribes v_t_laws_books g_t_laws_made) H := hP
  have hD : va_D A (wd_X5_run cs a_t a_t_laws a_t_laws_made p1 v_t_copies v_t_ender v_t_goesOn v_t_laws_scribes v_t_laws_books g_t_laws_made) := hD
  refine lv_aload_n hx hb dX5_run_5 rfl (lv_at hl 0 rfl) ?_
  refine lv_iconst (v := 0) hx hb dX5_run_6 (by decide) ?_
  refine va_put (D := G) (ci := 5) (v := .int (0 : Int32)) (ty := .int) (C := RX5) (T := TX5) (N := 5) hx hb hg inX5 tyX5 tyX5_ok nmX5 hown hKT hP hD hS 0 rfl rfl 2 (by decide) (hg _ gF_X5_19) (fun _ h9 => h9) rfl (by decide +kernel) rfl rfl (Nat.le_of_ble_eq_true rfl) dX5_run_7 (fun H locs hP hD hS => ?_)
  have hP : va_P G vwCl (wd_X5_run cs a_t a_t_laws a_t_laws_made p1 (0 : Int32) v_t_ender v_t_goesOn v_t_laws_scribes v_t_laws_books g_t_laws_made) H := hP
  have hD : va_D A (wd_X5_run cs a_t a_t_laws a_t_laws_made p1 (0 : Int32) v_t_ender v_t_goesOn v_t_laws_scribes v_t_laws_books g_t_laws_made) := hD
  refine lv_aload_n hx hb dX5_run_10 rfl (lv_at hl 0 rfl) ?_
  refine lv_bipush (v := -9) hx hb dX5_run_11 (by decide) ?_
  refine va_put (D := G) (ci := 5) (v := .int (-9 : Int32)) (ty := .int) (C := RX5) (T := TX5) (N := 5) hx hb hg inX5 tyX5 tyX5_ok nmX5 hown hKT hP hD hS 0 rfl rfl 3 (by decide) (hg _ gF_X5_22) (fun _ h9 => h9) rfl (by decide +kernel) rfl rfl (Nat.le_of_ble_eq_true rfl) dX5_run_13 (fun H locs hP hD hS => ?_)
  have hP : va_P G vwCl (wd_X5_run cs a_t a_t_laws a_t_laws_made p1 (0 : Int32) (-9 : Int32) v_t_goesOn v_t_laws_scribes v_t_laws_books g_t_laws_made) H := hP
  have hD : va_D A (wd_X5_run cs a_t a_t_laws a_t_laws_made p1 (0 : Int32) (-9 : Int32) v_t_goesOn v_t_laws_scribes v_t_laws_books g_t_laws_made) := hD
  refine lv_aload_n hx hb dX5_run_16 rfl (lv_at hl 0 rfl) ?_
  refine lv_iconst (v := 0) hx hb dX5_run_17 (by decide) ?_
  refine va_put (D := G) (ci := 5) (v := .int (0 : Int32)) (ty := .boolean) (C := RX5) (T := TX5) (N := 5) hx hb hg inX5 tyX5 tyX5_ok nmX5 hown hKT hP hD hS 0 rfl rfl 4 (by decide) (hg _ gF_X5_25) (fun _ h9 => h9) rfl (by decide +kernel) rfl rfl (Nat.le_of_ble_eq_true rfl) dX5_run_18 (fun H locs hP hD hS => ?_)
  have hP : va_P G vwCl (wd_X5_run cs a_t a_t_laws a_t_laws_made p1 (0 : Int32) (-9 : Int32) (0 : Int32) v_t_laws_scribes v_t_laws_books g_t_laws_made) H := hP
  have hD : va_D A (wd_X5_run cs a_t a_t_laws a_t_laws_made p1 (0 : Int32) (-9 : Int32) (0 : Int32) v_t_laws_scribes v_t_laws_books g_t_laws_made) := hD
  refine lv_iload_n hx hb dX5_run_21 rfl (lv_at hl 2 rfl) ?_
  refine lv_iconst (v := 0) hx hb dX5_run_22 (by decide) ?_
  obtain ⟨q1, hq1, hB⟩ := bnd hB
  refine kr_S (WC := wd_X5_boughtFrom cs ) (As := [.int p2, .int (0 : Int32)]) (rest := []) (r0 := q1) ⟨hx, hb, hml, hown, hg⟩ (k_X5_boughtFrom l G cs p2 (0 : Int32) q1 hq1) gM_X5_29 mS_X5_boughtFrom (rmk rfl) hP hKT hN [] rfl rfl hl.1 rfl (Nat.le_of_ble_eq_true rfl) dX5_run_23 ?_
  refine lv_istore (lv' := [(4, .int q1), (0, .ref a_t), (1, .int p1), (2, .int p2), (3, .int p3)]) hx hb dX5_run_26 hl (by decide) rfl (fun ls hl => ?_)
  refine lv_iconst (v := 0) hx hb dX5_run_28 (by decide) ?_
  refine lv_istore (lv' := [(5, .int (0 : Int32)), (4, .int q1), (0, .ref a_t), (1, .int p1), (2, .int p2), (3, .int p3)]) hx hb dX5_run_29 hl (by decide) rfl (fun ls hl => ?_)
  refine lp_ind (Wh := fun (z2 : Int32 × Int32 × Int32 × Int32 × Int32) => ∀ (H : Heap) (locs : List Loc), va_P G vwCl (wd_X5_run cs a_t a_t_laws a_t_laws_made z2.2.2.1 z2.2.2.2.1 z2.2.2.2.2 (0 : Int32) v_t_laws_scribes v_t_laws_books g_t_laws_made) H → va_D A (wd_X5_run cs a_t a_t_laws a_t_laws_made z2.2.2.1 z2.2.2.2.1 z2.2.2.2.2 (0 : Int32) v_t_laws_scribes v_t_laws_books g_t_laws_made) → va_S A s.heap H locs → ∀ (ls : Array Slot), lv_has ls 7 [(0, .ref a_t), (2, .int p2), (3, .int p3), (4, .int z2.1), (5, .int z2.2.1)] → W p l e rm_X5_run s m ([.ref a_t, .int p1, .int p2, .int p3] : List Value).toArray below meth c H locs 0 0 (MQ below (QcV G A (wd_X5_run cs a_t a_t_laws a_t_laws_made R0.1 R0.2.1 R0.2.2.1 R0.2.2.2 v_t_laws_scribes v_t_laws_books g_t_laws_made)) ([.ref a_t, .int p1, .int p2, .int p3] : List Value).toArray s 0 0 A) (F0 m 31 ls [])) ?_ FU _ _ hB hK H locs hP hD hS ls (lv_sub hl [2, 4, 5, 1, 0] rfl)
  rintro ⟨z2_0, z2_1, z2_2, z2_3, z2_4⟩ y hB hK H locs hP hD hS ls hl
  have hl : lv_has ls 7 [(0, .ref a_t), (2, .int p2), (3, .int p3), (4, .int z2_0), (5, .int z2_1)] := hl
  have hP : va_P G vwCl (wd_X5_run cs a_t a_t_laws a_t_laws_made z2_2 z2_3 z2_4 (0 : Int32) v_t_laws_scribes v_t_laws_books g_t_laws_made) H := hP
  have hD : va_D A (wd_X5_run cs a_t a_t_laws a_t_laws_made z2_2 z2_3 z2_4 (0 : Int32) v_t_laws_scribes v_t_laws_books g_t_laws_made) := hD
  refine lv_iload hx hb dX5_run_31 (lv_at hl 4 rfl) ?_
  refine lv_iload_n hx hb dX5_run_33 rfl (lv_at hl 2 rfl) ?_
  refine lv_icmp_ge (tgt := 104) hx hb dX5_run_34 (by decide) (fun c_3 => ?_) (fun c_3 => ?_)
  · have hB := ifP c_3 hB
    refine lv_aload_n hx hb dX5_run_104 rfl (lv_at hl 0 rfl) ?_
    refine lv_iload hx hb dX5_run_105 (lv_at hl 3 rfl) ?_
    refine lv_bipush (v := -9) hx hb dX5_run_107 (by decide) ?_
    refine lv_icmp_eq (tgt := 116) hx hb dX5_run_109 (by decide) (fun c_4 => ?_) (fun c_4 => ?_)
    · have hB := ifP c_4 hB
      refine lv_iconst (v := 0) hx hb dX5_run_116 (by decide) ?_
      refine va_put (D := G) (ci := 5) (v := .int (0 : Int32)) (ty := .boolean) (C := RX5) (T := TX5) (N := 5) hx hb hg inX5 tyX5 tyX5_ok nmX5 hown hKT hP hD hS 0 rfl rfl 4 (by decide) (hg _ gF_X5_25) (fun _ h9 => h9) rfl (by decide +kernel) rfl rfl (Nat.le_of_ble_eq_true rfl) dX5_run_117 (fun H locs hP hD hS => ?_)
      have hP : va_P G vwCl (wd_X5_run cs a_t a_t_laws a_t_laws_made z2_2 z2_3 z2_4 (0 : Int32) v_t_laws_scribes v_t_laws_books g_t_laws_made) H := hP
      have hD : va_D A (wd_X5_run cs a_t a_t_laws a_t_laws_made z2_2 z2_3 z2_4 (0 : Int32) v_t_laws_scribes v_t_laws_books g_t_laws_made) := hD
      have hK := leafK hB hK
      have hK := elimR hK
      have hK : (z2_2, z2_3, z2_4, (0 : Int32)) = R0 := hK
      subst hK
      exact W.vret hx hb hr (fun t ht hW => ⟨⟨(), rfl, trivial, by rw [ht]; exact hP, hD⟩, hS.F ht⟩) hS.2.2 dX5_run_120
    · have hB := ifN c_4 hB
      refine lv_iconst (v := 1) hx hb dX5_run_112 (by decide) ?_
      refine lv_goto (tgt := 117) hx hb dX5_run_113 (by decide) ?_
      refine va_put (D := G) (ci := 5) (v := .int (1 : Int32)) (ty := .boolean) (C := RX5) (T := TX5) (N := 5) hx hb hg inX5 tyX5 tyX5_ok nmX5 hown hKT hP hD hS 0 rfl rfl 4 (by decide) (hg _ gF_X5_25) (fun _ h9 => h9) rfl (by decide +kernel) rfl rfl (Nat.le_of_ble_eq_true rfl) dX5_run_117 (fun H locs hP hD hS => ?_)
      have hP : va_P G vwCl (wd_X5_run cs a_t a_t_laws a_t_laws_made z2_2 z2_3 z2_4 (1 : Int32) v_t_laws_scribes v_t_laws_books g_t_laws_made) H := hP
      have hD : va_D A (wd_X5_run cs a_t a_t_laws a_t_laws_made z2_2 z2_3 z2_4 (1 : Int32) v_t_laws_scribes v_t_laws_books g_t_laws_made) := hD
      have hK := leafK hB hK
      have hK := elimR hK
      have hK : (z2_2, z2_3, z2_4, (1 : Int32)) = R0 := hK
      subst hK
      exact W.vret hx hb hr (fun t ht hW => ⟨⟨(), rfl, trivial, by rw [ht]; exact hP, hD⟩, hS.F ht⟩) hS.2.2 dX5_run_120
  · have hB := ifN c_3 hB
    refine lv_iload hx hb dX5_run_37 (lv_at hl 3 rfl) ?_
    refine lv_bipush (v := -9) hx hb dX5_run_39 (by decide) ?_
    refine lv_icmp_eq (tgt := 104) hx hb dX5_run_41 (by decide) (fun c_5 => ?_) (fun c_5 => ?_)
    · have hB := ifP c_5 hB
      refine lv_aload_n hx hb dX5_run_104 rfl (lv_at hl 0 rfl) ?_
      refine lv_iload hx hb dX5_run_105 (lv_at hl 3 rfl) ?_
      refine lv_bipush (v := -9) hx hb dX5_run_107 (by decide) ?_
      refine lv_icmp_eq (tgt := 116) hx hb dX5_run_109 (by decide) (fun c_6 => ?_) (fun c_6 => ?_)
      · have hB := ifP c_6 hB
        refine lv_iconst (v := 0) hx hb dX5_run_116 (by decide) ?_
        refine va_put (D := G) (ci := 5) (v := .int (0 : Int32)) (ty := .boolean) (C := RX5) (T := TX5) (N := 5) hx hb hg inX5 tyX5 tyX5_ok nmX5 hown hKT hP hD hS 0 rfl rfl 4 (by decide) (hg _ gF_X5_25) (fun _ h9 => h9) rfl (by decide +kernel) rfl rfl (Nat.le_of_ble_eq_true rfl) dX5_run_117 (fun H locs hP hD hS => ?_)
        have hP : va_P G vwCl (wd_X5_run cs a_t a_t_laws a_t_laws_made z2_2 z2_3 z2_4 (0 : Int32) v_t_laws_scribes v_t_laws_books g_t_laws_made) H := hP
        have hD : va_D A (wd_X5_run cs a_t a_t_laws a_t_laws_made z2_2 z2_3 z2_4 (0 : Int32) v_t_laws_scribes v_t_laws_books g_t_laws_made) := hD
        have hK := leafK hB hK
        have hK := elimR hK
        have hK : (z2_2, z2_3, z2_4, (0 : Int32)) = R0 := hK
        subst hK
        exact W.vret hx hb hr (fun t ht hW => ⟨⟨(), rfl, trivial, by rw [ht]; exact hP, hD⟩, hS.F ht⟩) hS.2.2 dX5_run_120
      · have hB := ifN c_6 hB
        refine lv_iconst (v := 1) hx hb dX5_run_112 (by decide) ?_
        refine lv_goto (tgt := 117) hx hb dX5_run_113 (by decide) ?_
        refine va_put (D := G) (ci := 5) (v := .int (1 : Int32)) (ty := .boolean) (C := RX5) (T := TX5) (N := 5) hx hb hg inX5 tyX5 tyX5_ok nmX5 hown hKT hP hD hS 0 rfl rfl 4 (by decide) (hg _ gF_X5_25) (fun _ h9 => h9) rfl (by decide +kernel) rfl rfl (Nat.le_of_ble_eq_true rfl) dX5_run_117 (fun H locs hP hD hS => ?_)
        have hP : va_P G vwCl (wd_X5_run cs a_t a_t_laws a_t_laws_made z2_2 z2_3 z2_4 (1 : Int32) v_t_laws_scribes v_t_laws_books g_t_laws_made) H := hP
        have hD : va_D A (wd_X5_run cs a_t a_t_laws a_t_laws_made z2_2 z2_3 z2_4 (1 : Int32) v_t_laws_scribes v_t_laws_books g_t_laws_made) := hD
        have hK := leafK hB hK
        have hK := elimR hK
        have hK : (z2_2, z2_3, z2_4, (1 : Int32)) = R0 := hK
        subst hK
        exact W.vret hx hb hr (fun t ht hW => ⟨⟨(), rfl, trivial, by rw [ht]; exact hP, hD⟩, hS.F ht⟩) hS.2.2 dX5_run_120
    · have hB := ifN c_5 hB
      refine lv_aload_n hx hb dX5_run_44 rfl (lv_at hl 0 rfl) ?_
      refine va_get (D := G) (ci := 5) (v := .ref a_t_laws) (C := RX5) (T := TX5) (N := 5) hx hb hg inX5 hown hKT hP 0 rfl rfl 0 (by decide) (hg _ gF_X5_9) (fun _ h9 => h9) rfl dX5_run_45 ?_
      refine lv_iload hx hb dX5_run_48 (lv_at hl 3 rfl) ?_
      refine lv_aload_n hx hb dX5_run_50 rfl (lv_at hl 0 rfl) ?_
      refine va_get (D := G) (ci := 5) (v := .int z2_2) (C := RX5) (T := TX5) (N := 5) hx hb hg inX5 hown hKT hP 0 rfl rfl 1 (by decide) (hg _ gF_X5_15) (fun _ h9 => h9) rfl dX5_run_51 ?_
      obtain ⟨q7, hq7, hB⟩ := bnd hB
      refine kr_VN (WC := wd_X1_copyBy cs a_t_laws a_t_laws_made v_t_laws_scribes v_t_laws_books g_t_laws_made) (As := [.int z2_0, .int z2_2]) (rest := []) (r0 := q7) ⟨hx, hb, hml, hown, hg⟩ (k_X1_copyBy l G cs a_t_laws a_t_laws_made v_t_laws_scribes v_t_laws_books g_t_laws_made z2_0 z2_2 q7 hq7) nM_X5_33_l mI_X1_copyBy (rmk rfl) hP hKT hN 1 rfl rfl [1, 2] rfl rfl hl.1 rfl (Nat.le_of_ble_eq_true rfl) dX5_run_54 ?_
      refine lv_istore (lv' := [(6, .int q7), (0, .ref a_t), (2, .int p2), (3, .int p3), (4, .int z2_0), (5, .int z2_1)]) hx hb dX5_run_57 hl (by decide) rfl (fun ls hl => ?_)
      refine lv_iload hx hb dX5_run_59 (lv_at hl 0 rfl) ?_
      refine lv_iconst (v := -1) hx hb dX5_run_61 (by decide) ?_
      refine lv_icmp_ne (tgt := 72) hx hb dX5_run_62 (by decide) (fun c_8 => ?_) (fun c_8 => ?_)
      · have hB := ifN c_8 hB
        refine lv_aload_n hx hb dX5_run_72 rfl (lv_at hl 1 rfl) ?_
        refine lv_iload hx hb dX5_run_73 (lv_at hl 0 rfl) ?_
        refine va_put (D := G) (ci := 5) (v := .int q7) (ty := .int) (C := RX5) (T := TX5) (N := 5) hx hb hg inX5 tyX5 tyX5_ok nmX5 hown hKT hP hD hS 0 rfl rfl 1 (by decide) (hg _ gF_X5_15) (fun _ h9 => h9) rfl (by decide +kernel) rfl rfl (Nat.le_of_ble_eq_true rfl) dX5_run_75 (fun H locs hP hD hS => ?_)
        have hP : va_P G vwCl (wd_X5_run cs a_t a_t_laws a_t_laws_made q7 z2_3 z2_4 (0 : Int32) v_t_laws_scribes v_t_laws_books g_t_laws_made) H := hP
        have hD : va_D A (wd_X5_run cs a_t a_t_laws a_t_laws_made q7 z2_3 z2_4 (0 : Int32) v_t_laws_scribes v_t_laws_books g_t_laws_made) := hD
        refine lv_aload_n hx hb dX5_run_78 rfl (lv_at hl 1 rfl) ?_
        refine lv_dup hx hb dX5_run_79 rfl ?_
        refine va_get (D := G) (ci := 5) (v := .int z2_3) (C := RX5) (T := TX5) (N := 5) hx hb hg inX5 hown hKT hP 0 rfl rfl 2 (by decide) (hg _ gF_X5_19) (fun _ h9 => h9) rfl dX5_run_80 ?_
        refine lv_iconst (v := 1) hx hb dX5_run_83 (by decide) ?_
        refine lv_iadd hx hb dX5_run_84 ?_
        refine va_put (D := G) (ci := 5) (v := .int (z2_3 + (1 : Int32))) (ty := .int) (C := RX5) (T := TX5) (N := 5) hx hb hg inX5 tyX5 tyX5_ok nmX5 hown hKT hP hD hS 0 rfl rfl 2 (by decide) (hg _ gF_X5_19) (fun _ h9 => h9) rfl (by decide +kernel) rfl rfl (Nat.le_of_ble_eq_true rfl) dX5_run_85 (fun H locs hP hD hS => ?_)
        have hP : va_P G vwCl (wd_X5_run cs a_t a_t_laws a_t_laws_made q7 (z2_3 + (1 : Int32)) z2_4 (0 : Int32) v_t_laws_scribes v_t_laws_books g_t_laws_made) H := hP
        have hD : va_D A (wd_X5_run cs a_t a_t_laws a_t_laws_made q7 (z2_3 + (1 : Int32)) z2_4 (0 : Int32) v_t_laws_scribes v_t_laws_books g_t_laws_made) := hD
        refine lv_iload_n hx hb dX5_run_88 rfl (lv_at hl 2 rfl) ?_
        refine lv_iload hx hb dX5_run_89 (lv_at hl 4 rfl) ?_
        refine lv_iconst (v := 1) hx hb dX5_run_91 (by decide) ?_
        refine lv_iadd hx hb dX5_run_92 ?_
        obtain ⟨q9, hq9, hB⟩ := bnd hB
        refine kr_S (WC := wd_X5_boughtFrom cs ) (As := [.int p2, .int (z2_0 + (1 : Int32))]) (rest := []) (r0 := q9) ⟨hx, hb, hml, hown, hg⟩ (k_X5_boughtFrom l G cs p2 (z2_0 + (1 : Int32)) q9 hq9) gM_X5_29 mS_X5_boughtFrom (rmk rfl) hP hKT hN [] rfl rfl hl.1 rfl (Nat.le_of_ble_eq_true rfl) dX5_run_93 ?_
        refine lv_istore (lv' := [(4, .int q9), (6, .int q7), (0, .ref a_t), (2, .int p2), (3, .int p3), (5, .int z2_1)]) hx hb dX5_run_96 hl (by decide) rfl (fun ls hl => ?_)
        refine lv_iinc (v := z2_1 + (1 : Int32)) (lv' := [(5, .int (z2_1 + (1 : Int32))), (4, .int q9), (6, .int q7), (0, .ref a_t), (2, .int p2), (3, .int p3)]) hx hb dX5_run_98 hl (k := 5) rfl (inc_ok (by decide)) (by decide) rfl (fun ls hl => ?_)
        refine lv_goto (tgt := 31) hx hb dX5_run_101 (by decide) ?_
        have hK := leafK hB hK
        have hK := elimL hK
        exact hK H locs hP hD hS ls (lv_sub hl [3, 4, 5, 1, 0] rfl)
      · have hB := ifP c_8 hB
        refine lv_aload_n hx hb dX5_run_65 rfl (lv_at hl 1 rfl) ?_
        refine lv_iload hx hb dX5_run_66 (lv_at hl 4 rfl) ?_
        refine va_put (D := G) (ci := 5) (v := .int z2_0) (ty := .int) (C := RX5) (T := TX5) (N := 5) hx hb hg inX5 tyX5 tyX5_ok nmX5 hown hKT hP hD hS 0 rfl rfl 3 (by decide) (hg _ gF_X5_22) (fun _ h9 => h9) rfl (by decide +kernel) rfl rfl (Nat.le_of_ble_eq_true rfl) dX5_run_68 (fun H locs hP hD hS => ?_)
        have hP : va_P G vwCl (wd_X5_run cs a_t a_t_laws a_t_laws_made z2_2 z2_3 z2_0 (0 : Int32) v_t_laws_scribes v_t_laws_books g_t_laws_made) H := hP
        have hD : va_D A (wd_X5_run cs a_t a_t_laws a_t_laws_made z2_2 z2_3 z2_0 (0 : Int32) v_t_laws_scribes v_t_laws_books g_t_laws_made) := hD
        have hK := leafK hB hK
        have hK := elimR hK
        have hK : (z2_2, z2_3, z2_0, (0 : Int32)) = R0 := hK
        subst hK
        exact W.vret hx hb hr (fun t ht hW => ⟨⟨(), rfl, trivial, by rw [ht]; exact hP, hD⟩, hS.F ht⟩) hS.2.2 dX5_run_71
def wd_X5_runToEnd (cs : Nat → ClassId) (a_t a_t_laws a_t_laws_made : Nat) (v_t_book : Int32) (v_t_copies : Int32) (v_t_ender : Int32) (v_t_goesOn : Int32) (v_t_laws_scribes : Int32) (v_t_laws_books : Int32) (g_t_laws_made : Nat → Int32) : va_W := [(a_t, .inr (5, [.ref a_t_laws, .int v_t_book, .int v_t_copies, .int v_t_ender, .int v_t_goesOn])), (a_t_laws, .inr (1, [.ref a_t_laws_made, .int v_t_laws_scribes, .int v_t_laws_books])), (a_t_laws_made, .inl (cs 0, 3750, .inl g_t_laws_made))]
def rm_X5_runToEnd : Room := { frames := 2, cells := 0, slots := 0, locals := 49 }
theorem mI_X5_runToEnd : MI yX5_runToEnd RX5 cX5_runToEnd 3 none 2 := ⟨gI_X5_runToEnd, gE_X5_runToEnd, gN_X5, gC_X5_runToEnd, by decide +kernel⟩
set_option maxHeartbeats 4000000 in
set_option maxRecDepth 100000 in
theorem k_X5_runToEnd (l : Launch) (G : va_G) (cs : Nat → ClassId) (a_t a_t_laws a_t_laws_made : Nat) (v_t_book : Int32) (v_t_copies : Int32) (v_t_ender : Int32) (v_t_goesOn : Int32) (v_t_laws_scribes : Int32) (v_t_laws_books : Int32) (g_t_laws_made : Nat → Int32) (p1 p2 : Int32) (sz : Nat) (R0 : Int32 × Int32 × Int32 × Int32) (hB : f_X5_runToEnd v_t_laws_scribes v_t_laws_books g_t_laws_made p1 p2 = some R0) : Met l yX5_runToEnd (.code yX5_runToEnd cX5_runToEnd 3 none :: GW) rm_X5_runToEnd (PcW G cs [.ref a_t, .int p1, .int p2] (wd_X5_runToEnd cs a_t a_t_laws a_t_laws_made v_t_book v_t_copies v_t_ender v_t_goesOn v_t_laws_scribes v_t_laws_books g_t_laws_made) sz) (QcV G (va_A (wd_X5_runToEnd cs a_t a_t_laws a_t_laws_made v_t_book v_t_copies v_t_ender v_t_goesOn v_t_laws_scribes v_t_laws_books g_t_laws_made) sz) (wd_X5_runToEnd cs a_t a_t_laws a_t_laws_made R0.1 R0.2.1 R0.2.2.1 R0.2.2.2 v_t_laws_scribes v_t_laws_books g_t_laws_made)) 0 0 (va_A (wd_X5_runToEnd cs a_t a_t_laws a_t_laws_made v_t_book v_t_copies v_t_ender v_t_goesOn v_t_laws_scribes v_t_laws_books g_t_laws_made) sz) := by
  refine Met.ofW (cc := cX5_runToEnd) (maxL := 3) (ret := none) (by decide) rfl ?_
  intro p e s m args below meth c s₁ B hml hv
  obtain ⟨rfl, hsz, hP, hD0, hK, hN⟩ := hv
  have hx := B.exec
  have hb := B.bytes
  have hr := B.returns
  have hts := atoms_spec (ws := .code yX5_runToEnd cX5_runToEnd 3 none :: GW) B.pre
  have hg : ∀ w ∈ GW, w.before _ s = true := fun w h => hts w (List.mem_cons_of_mem _ h)
  have hown : s.vm.findClass RX5 = some m.cls := findClass_of_methodNamed B.named
  have hlocks := B.notSynchronized
  subst hsz
  have hD := hD0.self (sz := s.heap.size)
  generalize hAe : va_A (wd_X5_runToEnd cs a_t a_t_laws a_t_laws_made v_t_book v_t_copies v_t_ender v_t_goesOn v_t_laws_scribes v_t_laws_books g_t_laws_made) s.heap.size = A at hD ⊢
  have hA : ∀ q : Nat, s.heap.size ≤ q → A q := fun q h => by rw [← hAe]; exact Or.inr h
  have hS : va_S A s.heap s.heap [] := va_S.rf
  have hl := lv_entry ([.ref a_t, .int p1, .int p2]) (n := 3) (Nat.le_of_ble_eq_true rfl)
  rw [lg_entry_eq]
  generalize (lg_sl ([.ref a_t, .int p1, .int p2]) ++ List.replicate (3 - (lg_sl ([.ref a_t, .int p1, .int p2])).length) Slot.unset).toArray = ls at hl ⊢
  have hl : lv_has ls 3 [(0, .ref a_t), (1, .int p1), (2, .int p2)] := hl
  obtain ⟨y, hB, hK0⟩ : ∃ y, f_X5_runToEnd v_t_laws_scribes v_t_laws_books g_t_laws_made p1 p2 = some y ∧ KEnd R0 y := ⟨R0, hB, rfl⟩
  have hKT := hK
  have hK := hK0
  obtain ⟨H, hHe⟩ : ∃ H, H = s.heap := ⟨_, rfl⟩
  obtain ⟨locs, hLe⟩ : ∃ L : List Loc, L = [] := ⟨_, rfl⟩
  rw [← hHe] at hP
  have hS : va_S A s.heap H locs := by rw [hHe, hLe]; exact hS
  show W p l e rm_X5_runToEnd s m ([.ref a_t, .int p1, .int p2] : List Value).toArray below meth c s.heap [] 0 0 _ _
  suffices hgo : W p l e rm_X5_runToEnd s m ([.ref a_t, .int p1, .int p2] : List Value).toArray below meth c H locs 0 0 (MQ below (QcV G A (wd_X5_runToEnd cs a_t a_t_laws a_t_laws_made R0.1 R0.2.1 R0.2.2.1 R0.2.2.2 v_t_laws_scribes v_t_laws_books g_t_laws_made)) ([.ref a_t, .int p1, .int p2] : List Value).toArray s 0 0 A) (F0 m 0 ls []) by rw [hHe, hLe] at hgo; exact hgo
  refine lv_aload_n hx hb dX5_runToEnd_0 rfl (lv_at hl 0 rfl) ?_
  refine lv_iload_n hx hb dX5_runToEnd_1 rfl (lv_at hl 1 rfl) ?_
  refine lv_iload_n hx hb dX5_runToEnd_2 rfl (lv_at hl 2 rfl) ?_
  refine lv_aload_n hx hb dX5_runToEnd_3 rfl (lv_at hl 0 rfl) ?_
  refine va_get (D := G) (ci := 5) (v := .ref a_t_laws) (C := RX5) (T := TX5) (N := 5) hx hb hg inX5 hown hKT hP 0 rfl rfl 0 (by decide) (hg _ gF_X5_9) (fun _ h9 => h9) rfl dX5_runToEnd_4 ?_
  refine va_getN (D := G) (ci := 1) (v := .int v_t_laws_books) (C := RX1) (T := TX1) (N := 3) hx hb hg inX1 hown hKT hP 1 rfl rfl 2 (by decide) (va_Nw.use rfl (hN _ nF_X5_38_l rfl)) (fun _ h9 => h9) rfl dX5_runToEnd_7 ?_
  refine lv_aload_n hx hb dX5_runToEnd_10 rfl (lv_at hl 0 rfl) ?_
  refine va_get (D := G) (ci := 5) (v := .ref a_t_laws) (C := RX5) (T := TX5) (N := 5) hx hb hg inX5 hown hKT hP 0 rfl rfl 0 (by decide) (hg _ gF_X5_9) (fun _ h9 => h9) rfl dX5_runToEnd_11 ?_
  refine va_getN (D := G) (ci := 1) (v := .int v_t_laws_scribes) (C := RX1) (T := TX1) (N := 3) hx hb hg inX1 hown hKT hP 1 rfl rfl 1 (by decide) (va_Nw.use rfl (hN _ nF_X5_41_l rfl)) (fun _ h9 => h9) rfl dX5_runToEnd_14 ?_
  refine lv_imul hx hb dX5_runToEnd_17 ?_
  obtain ⟨⟨q1_0, q1_1, q1_2, q1_3⟩, hq1, hB⟩ := bnd hB
  refine kw_v (WC := wd_X5_run cs a_t a_t_laws a_t_laws_made v_t_book v_t_copies v_t_ender v_t_goesOn v_t_laws_scribes v_t_laws_books g_t_laws_made) (W1 := wd_X5_run cs a_t a_t_laws a_t_laws_made q1_0 q1_1 q1_2 q1_3 v_t_laws_scribes v_t_laws_books g_t_laws_made) (W2 := wd_X5_runToEnd cs a_t a_t_laws a_t_laws_made q1_0 q1_1 q1_2 q1_3 v_t_laws_scribes v_t_laws_books g_t_laws_made) (rw_V (As := [.int p1, .int p2, .int (v_t_laws_books * v_t_laws_scribes)]) (rest := []) ⟨hx, hb, hml, hown, hg⟩ (k_X5_run l G cs a_t a_t_laws a_t_laws_made v_t_book v_t_copies v_t_ender v_t_goesOn v_t_laws_scribes v_t_laws_books g_t_laws_made p1 p2 (v_t_laws_books * v_t_laws_scribes) H.size (q1_0, q1_1, q1_2, q1_3) hq1) gM_X5_44 mI_X5_run (rmk rfl) hP hD hKT hN 0 rfl rfl [0, 1, 2] rfl rfl rfl hl.1 rfl (Nat.le_of_ble_eq_true rfl) dX5_runToEnd_18) hP hD hS hA [0, 1, 2] [] [0, 1, 2] ⟨rfl, rfl, rfl, rfl, rfl, rfl, rfl⟩ (fun H locs hP hD hS => ?_)
  have hK := leafK hB hK
  have hK : (q1_0, q1_1, q1_2, q1_3) = R0 := hK
  subst hK
  exact W.vret hx hb hr (fun t ht hW => ⟨⟨(), rfl, trivial, by rw [ht]; exact hP, hD⟩, hS.F ht⟩) hS.2.2 dX5_runToEnd_21
def wd_X5_reaches (cs : Nat → ClassId) (a_t a_t_laws a_t_laws_made : Nat) (v_t_book : Int32) (v_t_copies : Int32) (v_t_ender : Int32) (v_t_goesOn : Int32) (v_t_laws_scribes : Int32) (v_t_laws_books : Int32) (g_t_laws_made : Nat → Int32) : va_W := [(a_t, .inr (5, [.ref a_t_laws, .int v_t_book, .int v_t_copies, .int v_t_ender, .int v_t_goesOn])), (a_t_laws, .inr (1, [.ref a_t_laws_made, .int v_t_laws_scribes, .int v_t_laws_books])), (a_t_laws_made, .inl (cs 0, 3750, .inl g_t_laws_made))]
def rm_X5_reaches : Room := { frames := 2, cells := 0, slots := 0, locals := 49 }
theorem mI_X5_reaches : MI yX5_reaches RX5 cX5_reaches 4 (some .boolean) 3 := ⟨gI_X5_reaches, gE_X5_reaches, gN_X5, gC_X5_reaches, by decide +kernel⟩
set_option maxHeartbeats 4000000 in
set_option maxRecDepth 100000 in
theorem k_X5_reaches (l : Launch) (G : va_G) (cs : Nat → ClassId) (a_t a_t_laws a_t_laws_made : Nat) (v_t_book : Int32) (v_t_copies : Int32) (v_t_ender : Int32) (v_t_goesOn : Int32) (v_t_laws_scribes : Int32) (v_t_laws_books : Int32) (g_t_laws_made : Nat → Int32) (p1 p2 p3 : Int32) (sz : Nat) (R0 : Int32 × Int32 × Int32 × Int32 × Int32) (hB : f_X5_reaches v_t_laws_scribes v_t_laws_books g_t_laws_made p1 p2 p3 = some R0) : Met l yX5_reaches (.code yX5_reaches cX5_reaches 4 (some .boolean) :: GW) rm_X5_reaches (PcW G cs [.ref a_t, .int p1, .int p2, .int p3] (wd_X5_reaches cs a_t a_t_laws a_t_laws_made v_t_book v_t_copies v_t_ender v_t_goesOn v_t_laws_scribes v_t_laws_books g_t_laws_made) sz) (QcI G (va_A (wd_X5_reaches cs a_t a_t_laws a_t_laws_made v_t_book v_t_copies v_t_ender v_t_goesOn v_t_laws_scribes v_t_laws_books g_t_laws_made) sz) (wd_X5_reaches cs a_t a_t_laws a_t_laws_made R0.2.1 R0.2.2.1 R0.2.2.2.1 R0.2.2.2.2 v_t_laws_scribes v_t_laws_books g_t_laws_made) R0.1) 0 0 (va_A (wd_X5_reaches cs a_t a_t_laws a_t_laws_made v_t_book v_t_copies v_t_ender v_t_goesOn v_t_laws_scribes v_t_laws_books g_t_laws_made) sz) := by
  refine Met.ofW (cc := cX5_reaches) (maxL := 4) (ret := (some .boolean)) (by decide) rfl ?_
  intro p e s m args below meth c s₁ B hml hv
  obtain ⟨rfl, hsz, hP, hD0, hK, hN⟩ := hv
  have hx := B.exec
  have hb := B.bytes
  have hr := B.returns
  have hts := atoms_spec (ws := .code yX5_reaches cX5_reaches 4 (some .boolean) :: GW) B.pre
  have hg : ∀ w ∈ GW, w.before _ s = true := fun w h => hts w (List.mem_cons_of_mem _ h)
  have hown : s.vm.findClass RX5 = some m.cls := findClass_of_methodNamed B.named
  have hlocks := B.notSynchronized
  subst hsz
  have hD := hD0.self (sz := s.heap.size)
  generalize hAe : va_A (wd_X5_reaches cs a_t a_t_laws a_t_laws_made v_t_book v_t_copies v_t_ender v_t_goesOn v_t_laws_scribes v_t_laws_books g_t_laws_made) s.heap.size = A at hD ⊢
  have hA : ∀ q : Nat, s.heap.size ≤ q → A q := fun q h => by rw [← hAe]; exact Or.inr h
  have hS : va_S A s.heap s.heap [] := va_S.rf
  have hl := lv_entry ([.ref a_t, .int p1, .int p2, .int p3]) (n := 4) (Nat.le_of_ble_eq_true rfl)
  rw [lg_entry_eq]
  generalize (lg_sl ([.ref a_t, .int p1, .int p2, .int p3]) ++ List.replicate (4 - (lg_sl ([.ref a_t, .int p1, .int p2, .int p3])).length) Slot.unset).toArray = ls at hl ⊢
  have hl : lv_has ls 4 [(0, .ref a_t), (1, .int p1), (2, .int p2), (3, .int p3)] := hl
  obtain ⟨y, hB, hK0⟩ : ∃ y, f_X5_reaches v_t_laws_scribes v_t_laws_books g_t_laws_made p1 p2 p3 = some y ∧ KEnd R0 y := ⟨R0, hB, rfl⟩
  have hKT := hK
  have hK := hK0
  obtain ⟨H, hHe⟩ : ∃ H, H = s.heap := ⟨_, rfl⟩
  obtain ⟨locs, hLe⟩ : ∃ L : List Loc, L = [] := ⟨_, rfl⟩
  rw [← hHe] at hP
  have hS : va_S A s.heap H locs := by rw [hHe, hLe]; exact hS
  show W p l e rm_X5_reaches s m ([.ref a_t, .int p1, .int p2, .int p3] : List Value).toArray below meth c s.heap [] 0 0 _ _
  suffices hgo : W p l e rm_X5_reaches s m ([.ref a_t, .int p1, .int p2, .int p3] : List Value).toArray below meth c H locs 0 0 (MQ below (QcI G A (wd_X5_reaches cs a_t a_t_laws a_t_laws_made R0.2.1 R0.2.2.1 R0.2.2.2.1 R0.2.2.2.2 v_t_laws_scribes v_t_laws_books g_t_laws_made) R0.1) ([.ref a_t, .int p1, .int p2, .int p3] : List Value).toArray s 0 0 A) (F0 m 0 ls []) by rw [hHe, hLe] at hgo; exact hgo
  refine lv_aload_n hx hb dX5_reaches_0 rfl (lv_at hl 0 rfl) ?_
  refine lv_iload_n hx hb dX5_reaches_1 rfl (lv_at hl 1 rfl) ?_
  refine lv_iload_n hx hb dX5_reaches_2 rfl (lv_at hl 2 rfl) ?_
  refine lv_iload_n hx hb dX5_reaches_3 rfl (lv_at hl 3 rfl) ?_
  obtain ⟨⟨q1_0, q1_1, q1_2, q1_3⟩, hq1, hB⟩ := bnd hB
  refine kw_v (WC := wd_X5_run cs a_t a_t_laws a_t_laws_made v_t_book v_t_copies v_t_ender v_t_goesOn v_t_laws_scribes v_t_laws_books g_t_laws_made) (W1 := wd_X5_run cs a_t a_t_laws a_t_laws_made q1_0 q1_1 q1_2 q1_3 v_t_laws_scribes v_t_laws_books g_t_laws_made) (W2 := wd_X5_reaches cs a_t a_t_laws a_t_laws_made q1_0 q1_1 q1_2 q1_3 v_t_laws_scribes v_t_laws_books g_t_laws_made) (rw_V (As := [.int p1, .int p2, .int p3]) (rest := []) ⟨hx, hb, hml, hown, hg⟩ (k_X5_run l G cs a_t a_t_laws a_t_laws_made v_t_book v_t_copies v_t_ender v_t_goesOn v_t_laws_scribes v_t_laws_books g_t_laws_made p1 p2 p3 H.size (q1_0, q1_1, q1_2, q1_3) hq1) gM_X5_44 mI_X5_run (rmk rfl) hP hD hKT hN 0 rfl rfl [0, 1, 2] rfl rfl rfl hl.1 rfl (Nat.le_of_ble_eq_true rfl) dX5_reaches_4) hP hD hS hA [0, 1, 2] [] [0, 1, 2] ⟨rfl, rfl, rfl, rfl, rfl, rfl, rfl⟩ (fun H locs hP hD hS => ?_)
  refine lv_aload_n hx hb dX5_reaches_7 rfl (lv_at hl 0 rfl) ?_
  refine va_get (D := G) (ci := 5) (v := .int q1_1) (C := RX5) (T := TX5) (N := 5) hx hb hg inX5 hown hKT hP 0 rfl rfl 2 (by decide) (hg _ gF_X5_19) (fun _ h9 => h9) rfl dX5_reaches_8 ?_
  refine lv_iload_n hx hb dX5_reaches_11 rfl (lv_at hl 3 rfl) ?_
  refine lv_icmp_lt (tgt := 19) hx hb dX5_reaches_12 (by decide) (fun c_2 => ?_) (fun c_2 => ?_)
  · have hB := ifP c_2 hB
    refine lv_iconst (v := 0) hx hb dX5_reaches_19 (by decide) ?_
    have hK := leafK hB hK
    have hK : ((0 : Int32), q1_0, q1_1, q1_2, q1_3) = R0 := hK
    subst hK
    exact W.zret (v := (0 : Int32)) (ty := .boolean) hx hb hr rfl (fun t ht hW => ⟨⟨_, (), rfl, rfl, by rw [ht]; exact hP, hD⟩, hS.F ht⟩) hS.2.2 dX5_reaches_20
  · have hB := ifN c_2 hB
    refine lv_iconst (v := 1) hx hb dX5_reaches_15 (by decide) ?_
    refine lv_goto (tgt := 20) hx hb dX5_reaches_16 (by decide) ?_
    have hK := leafK hB hK
    have hK : ((1 : Int32), q1_0, q1_1, q1_2, q1_3) = R0 := hK
    subst hK
    exact W.zret (v := (1 : Int32)) (ty := .boolean) hx hb hr rfl (fun t ht hW => ⟨⟨_, (), rfl, rfl, by rw [ht]; exact hP, hD⟩, hS.F ht⟩) hS.2.2 dX5_reaches_20
def wd_X5_longestBook (cs : Nat → ClassId) (a_t a_t_laws a_t_laws_made : Nat) (v_t_book : Int32) (v_t_copies : Int32) (v_t_ender : Int32) (v_t_goesOn : Int32) (v_t_laws_scribes : Int32) (v_t_laws_books : Int32) (g_t_laws_made : Nat → Int32) : va_W := [(a_t, .inr (5, [.ref a_t_laws, .int v_t_book, .int v_t_copies, .int v_t_ender, .int v_t_goesOn])), (a_t_laws, .inr (1, [.ref a_t_laws_made, .int v_t_laws_scribes, .int v_t_laws_books])), (a_t_laws_made, .inl (cs 0, 3750, .inl g_t_laws_made))]
def rm_X5_longestBook : Room := { frames := 3, cells := 0, slots := 0, locals := 71 }
theorem mI_X5_longestBook : MI yX5_longestBook RX5 cX5_longestBook 5 (some .int) 1 := ⟨gI_X5_longestBook, gE_X5_longestBook, gN_X5, gC_X5_longestBook, by decide +kernel⟩
set_option maxHeartbeats 4000000 in
set_option maxRecDepth 100000 in
theorem k_X5_longestBook (l : Launch) (G : va_G) (cs : Nat → ClassId) (a_t a_t_laws a_t_laws_made : Nat) (v_t_book : Int32) (v_t_copies : Int32) (v_t_ender : Int32) (v_t_goesOn : Int32) (v_t_laws_scribes : Int32) (v_t_laws_books : Int32) (g_t_laws_made : Nat → Int32) (p1 : Int32) (sz : Nat) (R0 : Int32 × Int32 × Int32 × Int32 × Int32) (hB : f_X5_longestBook v_t_book v_t_copies v_t_ender v_t_goesOn v_t_laws_scribes v_t_laws_books g_t_laws_made p1 = some R0) : Met l yX5_longestBook (.code yX5_longestBook cX5_longestBook 5 (some .int) :: GW) rm_X5_longestBook (PcW G cs [.ref a_t, .int p1] (wd_X5_longestBook cs a_t a_t_laws a_t_laws_made v_t_book v_t_copies v_t_ender v_t_goesOn v_t_laws_scribes v_t_laws_books g_t_laws_made) sz) (QcI G (va_A (wd_X5_longestBook cs a_t a_t_laws a_t_laws_made v_t_book v_t_copies v_t_ender v_t_goesOn v_t_laws_scribes v_t_laws_books g_t_laws_made) sz) (wd_X5_longestBook cs a_t a_t_laws a_t_laws_made R0.2.1 R0.2.2.1 R0.2.2.2.1 R0.2.2.2.2 v_t_laws_scribes v_t_laws_books g_t_laws_made) R0.1) 0 0 (va_A (wd_X5_longestBook cs a_t a_t_laws a_t_laws_made v_t_book v_t_copies v_t_ender v_t_goesOn v_t_laws_scribes v_t_laws_books g_t_laws_made) sz) := by
  refine Met.ofW (cc := cX5_longestBook) (maxL := 5) (ret := (some .int)) (by decide) rfl ?_
  intro p e s m args below meth c s₁ B hml hv
  obtain ⟨rfl, hsz, hP, hD0, hK, hN⟩ := hv
  have hx := B.exec
  have hb := B.bytes
  have hr := B.returns
  have hts := atoms_spec (ws := .code yX5_longestBook cX5_longestBook 5 (some .int) :: GW) B.pre
  have hg : ∀ w ∈ GW, w.before _ s = true := fun w h => hts w (List.mem_cons_of_mem _ h)
  have hown : s.vm.findClass RX5 = some m.cls := findClass_of_methodNamed B.named
  have hlocks := B.notSynchronized
  subst hsz
  have hD := hD0.self (sz := s.heap.size)
  generalize hAe : va_A (wd_X5_longestBook cs a_t a_t_laws a_t_laws_made v_t_book v_t_copies v_t_ender v_t_goesOn v_t_laws_scribes v_t_laws_books g_t_laws_made) s.heap.size = A at hD ⊢
  have hA : ∀ q : Nat, s.heap.size ≤ q → A q := fun q h => by rw [← hAe]; exact Or.inr h
  have hS : va_S A s.heap s.heap [] := va_S.rf
  have hl := lv_entry ([.ref a_t, .int p1]) (n := 5) (Nat.le_of_ble_eq_true rfl)
  rw [lg_entry_eq]
  generalize (lg_sl ([.ref a_t, .int p1]) ++ List.replicate (5 - (lg_sl ([.ref a_t, .int p1])).length) Slot.unset).toArray = ls at hl ⊢
  have hl : lv_has ls 5 [(0, .ref a_t), (1, .int p1)] := hl
  obtain ⟨y, hB, hK0⟩ : ∃ y, f_X5_longestBook v_t_book v_t_copies v_t_ender v_t_goesOn v_t_laws_scribes v_t_laws_books g_t_laws_made p1 = some y ∧ KEnd R0 y := ⟨R0, hB, rfl⟩
  have hKT := hK
  have hK := hK0
  obtain ⟨H, hHe⟩ : ∃ H, H = s.heap := ⟨_, rfl⟩
  obtain ⟨locs, hLe⟩ : ∃ L : List Loc, L = [] := ⟨_, rfl⟩
  rw [← hHe] at hP
  have hS : va_S A s.heap H locs := by rw [hHe, hLe]; exact hS
  show W p l e rm_X5_longestBook s m ([.ref a_t, .int p1] : List Value).toArray below meth c s.heap [] 0 0 _ _
  suffices hgo : W p l e rm_X5_longestBook s m ([.ref a_t, .int p1] : List Value).toArray below meth c H locs 0 0 (MQ below (QcI G A (wd_X5_longestBook cs a_t a_t_laws a_t_laws_made R0.2.1 R0.2.2.1 R0.2.2.2.1 R0.2.2.2.2 v_t_laws_scribes v_t_laws_books g_t_laws_made) R0.1) ([.ref a_t, .int p1] : List Value).toArray s 0 0 A) (F0 m 0 ls []) by rw [hHe, hLe] at hgo; exact hgo
  refine lv_bipush (v := -9) hx hb dX5_longestBook_0 (by decide) ?_
  refine lv_istore_n (lv' := [(2, .int (-9 : Int32)), (0, .ref a_t), (1, .int p1)]) hx hb dX5_longestBook_2 rfl hl (by decide) rfl (fun ls hl => ?_)
  refine lv_iconst (v := -1) hx hb dX5_longestBook_3 (by decide) ?_
  refine lv_istore_n (lv' := [(3, .int (-1 : Int32)), (2, .int (-9 : Int32)), (0, .ref a_t), (1, .int p1)]) hx hb dX5_longestBook_4 rfl hl (by decide) rfl (fun ls hl => ?_)
  refine lv_iconst (v := 0) hx hb dX5_longestBook_5 (by decide) ?_
  refine lv_istore (lv' := [(4, .int (0 : Int32)), (3, .int (-1 : Int32)), (2, .int (-9 : Int32)), (0, .ref a_t), (1, .int p1)]) hx hb dX5_longestBook_6 hl (by decide) rfl (fun ls hl => ?_)
  refine lp_ind (Wh := fun (z1 : Int32 × Int32 × Int32 × Int32 × Int32 × Int32 × Int32) => ∀ (H : Heap) (locs : List Loc), va_P G vwCl (wd_X5_longestBook cs a_t a_t_laws a_t_laws_made z1.2.2.2.1 z1.2.2.2.2.1 z1.2.2.2.2.2.1 z1.2.2.2.2.2.2 v_t_laws_scribes v_t_laws_books g_t_laws_made) H → va_D A (wd_X5_longestBook cs a_t a_t_laws a_t_laws_made z1.2.2.2.1 z1.2.2.2.2.1 z1.2.2.2.2.2.1 z1.2.2.2.2.2.2 v_t_laws_scribes v_t_laws_books g_t_laws_made) → va_S A s.heap H locs → ∀ (ls : Array Slot), lv_has ls 5 [(0, .ref a_t), (1, .int p1), (2, .int z1.1), (3, .int z1.2.1), (4, .int z1.2.2.1)] → W p l e rm_X5_longestBook s m ([.ref a_t, .int p1] : List Value).toArray below meth c H locs 0 0 (MQ below (QcI G A (wd_X5_longestBook cs a_t a_t_laws a_t_laws_made R0.2.1 R0.2.2.1 R0.2.2.2.1 R0.2.2.2.2 v_t_laws_scribes v_t_laws_books g_t_laws_made) R0.1) ([.ref a_t, .int p1] : List Value).toArray s 0 0 A) (F0 m 8 ls [])) ?_ FU _ _ hB hK H locs hP hD hS ls (lv_sub hl [3, 4, 2, 1, 0] rfl)
  rintro ⟨z1_0, z1_1, z1_2, z1_3, z1_4, z1_5, z1_6⟩ y hB hK H locs hP hD hS ls hl
  have hl : lv_has ls 5 [(0, .ref a_t), (1, .int p1), (2, .int z1_0), (3, .int z1_1), (4, .int z1_2)] := hl
  have hP : va_P G vwCl (wd_X5_longestBook cs a_t a_t_laws a_t_laws_made z1_3 z1_4 z1_5 z1_6 v_t_laws_scribes v_t_laws_books g_t_laws_made) H := hP
  have hD : va_D A (wd_X5_longestBook cs a_t a_t_laws a_t_laws_made z1_3 z1_4 z1_5 z1_6 v_t_laws_scribes v_t_laws_books g_t_laws_made) := hD
  refine lv_iload hx hb dX5_longestBook_8 (lv_at hl 4 rfl) ?_
  refine lv_aload_n hx hb dX5_longestBook_10 rfl (lv_at hl 0 rfl) ?_
  refine va_get (D := G) (ci := 5) (v := .ref a_t_laws) (C := RX5) (T := TX5) (N := 5) hx hb hg inX5 hown hKT hP 0 rfl rfl 0 (by decide) (hg _ gF_X5_9) (fun _ h9 => h9) rfl dX5_longestBook_11 ?_
  refine va_getN (D := G) (ci := 1) (v := .int v_t_laws_books) (C := RX1) (T := TX1) (N := 3) hx hb hg inX1 hown hKT hP 1 rfl rfl 2 (by decide) (va_Nw.use rfl (hN _ nF_X5_38_l rfl)) (fun _ h9 => h9) rfl dX5_longestBook_14 ?_
  refine lv_icmp_ge (tgt := 59) hx hb dX5_longestBook_17 (by decide) (fun c_2 => ?_) (fun c_2 => ?_)
  · have hB := ifP c_2 hB
    refine lv_iload_n hx hb dX5_longestBook_59 rfl (lv_at hl 2 rfl) ?_
    have hK := leafK hB hK
    have hK := elimR hK
    have hK : (z1_0, z1_3, z1_4, z1_5, z1_6) = R0 := hK
    subst hK
    exact W.iret (v := z1_0) hx hb hr (fun t ht hW => ⟨⟨_, (), rfl, rfl, by rw [ht]; exact hP, hD⟩, hS.F ht⟩) hS.2.2 dX5_longestBook_60
  · have hB := ifN c_2 hB
    refine lv_aload_n hx hb dX5_longestBook_20 rfl (lv_at hl 0 rfl) ?_
    refine lv_iload hx hb dX5_longestBook_21 (lv_at hl 4 rfl) ?_
    refine lv_iload_n hx hb dX5_longestBook_23 rfl (lv_at hl 1 rfl) ?_
    obtain ⟨⟨q3_0, q3_1, q3_2, q3_3⟩, hq3, hB⟩ := bnd hB
    refine kw_v (WC := wd_X5_runToEnd cs a_t a_t_laws a_t_laws_made z1_3 z1_4 z1_5 z1_6 v_t_laws_scribes v_t_laws_books g_t_laws_made) (W1 := wd_X5_runToEnd cs a_t a_t_laws a_t_laws_made q3_0 q3_1 q3_2 q3_3 v_t_laws_scribes v_t_laws_books g_t_laws_made) (W2 := wd_X5_longestBook cs a_t a_t_laws a_t_laws_made q3_0 q3_1 q3_2 q3_3 v_t_laws_scribes v_t_laws_books g_t_laws_made) (rw_V (As := [.int z1_2, .int p1]) (rest := []) ⟨hx, hb, hml, hown, hg⟩ (k_X5_runToEnd l G cs a_t a_t_laws a_t_laws_made z1_3 z1_4 z1_5 z1_6 v_t_laws_scribes v_t_laws_books g_t_laws_made z1_2 p1 H.size (q3_0, q3_1, q3_2, q3_3) hq3) gM_X5_48 mI_X5_runToEnd (rmk rfl) hP hD hKT hN 0 rfl rfl [0, 1, 2] rfl rfl rfl hl.1 rfl (Nat.le_of_ble_eq_true rfl) dX5_longestBook_24) hP hD hS hA [0, 1, 2] [] [0, 1, 2] ⟨rfl, rfl, rfl, rfl, rfl, rfl, rfl⟩ (fun H locs hP hD hS => ?_)
    refine lv_aload_n hx hb dX5_longestBook_27 rfl (lv_at hl 0 rfl) ?_
    refine va_get (D := G) (ci := 5) (v := .int q3_3) (C := RX5) (T := TX5) (N := 5) hx hb hg inX5 hown hKT hP 0 rfl rfl 4 (by decide) (hg _ gF_X5_25) (fun _ h9 => h9) rfl dX5_longestBook_28 ?_
    refine lv_if_eq (tgt := 37) hx hb dX5_longestBook_31 (by decide) (fun c_4 => ?_) (fun c_4 => ?_)
    · have hB := ifP c_4 hB
      refine lv_aload_n hx hb dX5_longestBook_37 rfl (lv_at hl 0 rfl) ?_
      refine va_get (D := G) (ci := 5) (v := .int q3_1) (C := RX5) (T := TX5) (N := 5) hx hb hg inX5 hown hKT hP 0 rfl rfl 2 (by decide) (hg _ gF_X5_19) (fun _ h9 => h9) rfl dX5_longestBook_38 ?_
      refine lv_iload_n hx hb dX5_longestBook_41 rfl (lv_at hl 3 rfl) ?_
      refine lv_icmp_le (tgt := 53) hx hb dX5_longestBook_42 (by decide) (fun c_5 => ?_) (fun c_5 => ?_)
      · have hB := ifP c_5 hB
        refine lv_iinc (v := z1_2 + (1 : Int32)) (lv' := [(4, .int (z1_2 + (1 : Int32))), (0, .ref a_t), (1, .int p1), (2, .int z1_0), (3, .int z1_1)]) hx hb dX5_longestBook_53 hl (k := 4) rfl (inc_ok (by decide)) (by decide) rfl (fun ls hl => ?_)
        refine lv_goto (tgt := 8) hx hb dX5_longestBook_56 (by decide) ?_
        have hK := leafK hB hK
        have hK := elimL hK
        exact hK H locs hP hD hS ls (lv_sub hl [1, 2, 3, 4, 0] rfl)
      · have hB := ifN c_5 hB
        refine lv_aload_n hx hb dX5_longestBook_45 rfl (lv_at hl 0 rfl) ?_
        refine va_get (D := G) (ci := 5) (v := .int q3_1) (C := RX5) (T := TX5) (N := 5) hx hb hg inX5 hown hKT hP 0 rfl rfl 2 (by decide) (hg _ gF_X5_19) (fun _ h9 => h9) rfl dX5_longestBook_46 ?_
        refine lv_istore_n (lv' := [(3, .int q3_1), (0, .ref a_t), (1, .int p1), (2, .int z1_0), (4, .int z1_2)]) hx hb dX5_longestBook_49 rfl hl (by decide) rfl (fun ls hl => ?_)
        refine lv_iload hx hb dX5_longestBook_50 (lv_at hl 4 rfl) ?_
        refine lv_istore_n (lv' := [(2, .int z1_2), (3, .int q3_1), (0, .ref a_t), (1, .int p1), (4, .int z1_2)]) hx hb dX5_longestBook_52 rfl hl (by decide) rfl (fun ls hl => ?_)
        refine lv_iinc (v := z1_2 + (1 : Int32)) (lv' := [(4, .int (z1_2 + (1 : Int32))), (2, .int z1_2), (3, .int q3_1), (0, .ref a_t), (1, .int p1)]) hx hb dX5_longestBook_53 hl (k := 4) rfl (inc_ok (by decide)) (by decide) rfl (fun ls hl => ?_)
        refine lv_goto (tgt := 8) hx hb dX5_longestBook_56 (by decide) ?_
        have hK := leafK hB hK
        have hK := elimL hK
        exact hK H locs hP hD hS ls (lv_sub hl [3, 4, 1, 2, 0] rfl)
    · have hB := ifN c_4 hB
      refine lv_bipush (v := -9) hx hb dX5_longestBook_34 (by decide) ?_
      have hK := leafK hB hK
      have hK := elimR hK
      have hK : ((-9 : Int32), q3_0, q3_1, q3_2, q3_3) = R0 := hK
      subst hK
      exact W.iret (v := (-9 : Int32)) hx hb hr (fun t ht hW => ⟨⟨_, (), rfl, rfl, by rw [ht]; exact hP, hD⟩, hS.F ht⟩) hS.2.2 dX5_longestBook_36
def wd_X5_fewestToBuy (cs : Nat → ClassId) (a_t a_t_laws a_t_laws_made : Nat) (v_t_book : Int32) (v_t_copies : Int32) (v_t_ender : Int32) (v_t_goesOn : Int32) (v_t_laws_scribes : Int32) (v_t_laws_books : Int32) (g_t_laws_made : Nat → Int32) : va_W := [(a_t, .inr (5, [.ref a_t_laws, .int v_t_book, .int v_t_copies, .int v_t_ender, .int v_t_goesOn])), (a_t_laws, .inr (1, [.ref a_t_laws_made, .int v_t_laws_scribes, .int v_t_laws_books])), (a_t_laws_made, .inl (cs 0, 3750, .inl g_t_laws_made))]
def rm_X5_fewestToBuy : Room := { frames := 3, cells := 0, slots := 0, locals := 72 }
theorem mI_X5_fewestToBuy : MI yX5_fewestToBuy RX5 cX5_fewestToBuy 7 (some .int) 4 := ⟨gI_X5_fewestToBuy, gE_X5_fewestToBuy, gN_X5, gC_X5_fewestToBuy, by decide +kernel⟩
set_option maxHeartbeats 4000000 in
set_option maxRecDepth 100000 in
theorem k_X5_fewestToBuy (l : Launch) (G : va_G) (cs : Nat → ClassId) (a_t a_t_laws a_t_laws_made : Nat) (v_t_book : Int32) (v_t_copies : Int32) (v_t_ender : Int32) (v_t_goesOn : Int32) (v_t_laws_scribes : Int32) (v_t_laws_books : Int32) (g_t_laws_made : Nat → Int32) (p1 p2 p3 p4 : Int32) (sz : Nat) (R0 : Int32 × Int32 × Int32 × Int32 × Int32) (hB : f_X5_fewestToBuy v_t_book v_t_copies v_t_ender v_t_goesOn v_t_laws_scribes v_t_laws_books g_t_laws_made p1 p2 p3 p4 = some R0) : Met l yX5_fewestToBuy (.code yX5_fewestToBuy cX5_fewestToBuy 7 (some .int) :: GW) rm_X5_fewestToBuy (PcW G cs [.ref a_t, .int p1, .int p2, .int p3, .int p4] (wd_X5_fewestToBuy cs a_t a_t_laws a_t_laws_made v_t_book v_t_copies v_t_ender v_t_goesOn v_t_laws_scribes v_t_laws_books g_t_laws_made) sz) (QcI G (va_A (wd_X5_fewestToBuy cs a_t a_t_laws a_t_laws_made v_t_book v_t_copies v_t_ender v_t_goesOn v_t_laws_scribes v_t_laws_books g_t_laws_made) sz) (wd_X5_fewestToBuy cs a_t a_t_laws a_t_laws_made R0.2.1 R0.2.2.1 R0.2.2.2.1 R0.2.2.2.2 v_t_laws_scribes v_t_laws_books g_t_laws_made) R0.1) 0 0 (va_A (wd_X5_fewestToBuy cs a_t a_t_laws a_t_laws_made v_t_book v_t_copies v_t_ender v_t_goesOn v_t_laws_scribes v_t_laws_books g_t_laws_made) sz) := by
  refine Met.ofW (cc := cX5_fewestToBuy) (maxL := 7) (ret := (some .int)) (by decide) rfl ?_
  intro p e s m args below meth c s₁ B hml hv
  obtain ⟨rfl, hsz, hP, hD0, hK, hN⟩ := hv
  have hx := B.exec
  have hb := B.bytes
  have hr := B.returns
  have hts := atoms_spec (ws := .code yX5_fewestToBuy cX5_fewestToBuy 7 (some .int) :: GW) B.pre
  have hg : ∀ w ∈ GW, w.before _ s = true := fun w h => hts w (List.mem_cons_of_mem _ h)
  have hown : s.vm.findClass RX5 = some m.cls := findClass_of_methodNamed B.named
  have hlocks := B.notSynchronized
  subst hsz
  have hD := hD0.self (sz := s.heap.size)
  generalize hAe : va_A (wd_X5_fewestToBuy cs a_t a_t_laws a_t_laws_made v_t_book v_t_copies v_t_ender v_t_goesOn v_t_laws_scribes v_t_laws_books g_t_laws_made) s.heap.size = A at hD ⊢
  have hA : ∀ q : Nat, s.heap.size ≤ q → A q := fun q h => by rw [← hAe]; exact Or.inr h
  have hS : va_S A s.heap s.heap [] := va_S.rf
  have hl := lv_entry ([.ref a_t, .int p1, .int p2, .int p3, .int p4]) (n := 7) (Nat.le_of_ble_eq_true rfl)
  rw [lg_entry_eq]
  generalize (lg_sl ([.ref a_t, .int p1, .int p2, .int p3, .int p4]) ++ List.replicate (7 - (lg_sl ([.ref a_t, .int p1, .int p2, .int p3, .int p4])).length) Slot.unset).toArray = ls at hl ⊢
  have hl : lv_has ls 7 [(0, .ref a_t), (1, .int p1), (2, .int p2), (3, .int p3), (4, .int p4)] := hl
  obtain ⟨y, hB, hK0⟩ : ∃ y, f_X5_fewestToBuy v_t_book v_t_copies v_t_ender v_t_goesOn v_t_laws_scribes v_t_laws_books g_t_laws_made p1 p2 p3 p4 = some y ∧ KEnd R0 y := ⟨R0, hB, rfl⟩
  have hKT := hK
  have hK := hK0
  obtain ⟨H, hHe⟩ : ∃ H, H = s.heap := ⟨_, rfl⟩
  obtain ⟨locs, hLe⟩ : ∃ L : List Loc, L = [] := ⟨_, rfl⟩
  rw [← hHe] at hP
  have hS : va_S A s.heap H locs := by rw [hHe, hLe]; exact hS
  show W p l e rm_X5_fewestToBuy s m ([.ref a_t, .int p1, .int p2, .int p3, .int p4] : List Value).toArray below meth c s.heap [] 0 0 _ _
  suffices hgo : W p l e rm_X5_fewestToBuy s m ([.ref a_t, .int p1, .int p2, .int p3, .int p4] : List Value).toArray below meth c H locs 0 0 (MQ below (QcI G A (wd_X5_fewestToBuy cs a_t a_t_laws a_t_laws_made R0.2.1 R0.2.2.1 R0.2.2.2.1 R0.2.2.2.2 v_t_laws_scribes v_t_laws_books g_t_laws_made) R0.1) ([.ref a_t, .int p1, .int p2, .int p3, .int p4] : List Value).toArray s 0 0 A) (F0 m 0 ls []) by rw [hHe, hLe] at hgo; exact hgo
  refine lv_iconst (v := 0) hx hb dX5_fewestToBuy_0 (by decide) ?_
  refine lv_istore (lv' := [(5, .int (0 : Int32)), (0, .ref a_t), (1, .int p1), (2, .int p2), (3, .int p3), (4, .int p4)]) hx hb dX5_fewestToBuy_1 hl (by decide) rfl (fun ls hl => ?_)
  refine lp_ind (Wh := fun (z1 : Int32 × Int32 × Int32 × Int32 × Int32) => ∀ (H : Heap) (locs : List Loc), va_P G vwCl (wd_X5_fewestToBuy cs a_t a_t_laws a_t_laws_made z1.2.1 z1.2.2.1 z1.2.2.2.1 z1.2.2.2.2 v_t_laws_scribes v_t_laws_books g_t_laws_made) H → va_D A (wd_X5_fewestToBuy cs a_t a_t_laws a_t_laws_made z1.2.1 z1.2.2.1 z1.2.2.2.1 z1.2.2.2.2 v_t_laws_scribes v_t_laws_books g_t_laws_made) → va_S A s.heap H locs → ∀ (ls : Array Slot), lv_has ls 7 [(0, .ref a_t), (1, .int p1), (2, .int p2), (3, .int p3), (4, .int p4), (5, .int z1.1)] → W p l e rm_X5_fewestToBuy s m ([.ref a_t, .int p1, .int p2, .int p3, .int p4] : List Value).toArray below meth c H locs 0 0 (MQ below (QcI G A (wd_X5_fewestToBuy cs a_t a_t_laws a_t_laws_made R0.2.1 R0.2.2.1 R0.2.2.2.1 R0.2.2.2.2 v_t_laws_scribes v_t_laws_books g_t_laws_made) R0.1) ([.ref a_t, .int p1, .int p2, .int p3, .int p4] : List Value).toArray s 0 0 A) (F0 m 3 ls [])) ?_ FU _ _ hB hK H locs hP hD hS ls (lv_sub hl [1, 2, 3, 4, 5, 0] rfl)
  rintro ⟨z1_0, z1_1, z1_2, z1_3, z1_4⟩ y hB hK H locs hP hD hS ls hl
  have hl : lv_has ls 7 [(0, .ref a_t), (1, .int p1), (2, .int p2), (3, .int p3), (4, .int p4), (5, .int z1_0)] := hl
  have hP : va_P G vwCl (wd_X5_fewestToBuy cs a_t a_t_laws a_t_laws_made z1_1 z1_2 z1_3 z1_4 v_t_laws_scribes v_t_laws_books g_t_laws_made) H := hP
  have hD : va_D A (wd_X5_fewestToBuy cs a_t a_t_laws a_t_laws_made z1_1 z1_2 z1_3 z1_4 v_t_laws_scribes v_t_laws_books g_t_laws_made) := hD
  refine lv_iload hx hb dX5_fewestToBuy_3 (lv_at hl 5 rfl) ?_
  refine lv_bipush (v := 6) hx hb dX5_fewestToBuy_5 (by decide) ?_
  refine lv_icmp_gt (tgt := 68) hx hb dX5_fewestToBuy_7 (by decide) (fun c_2 => ?_) (fun c_2 => ?_)
  · have hB := ifP c_2 hB
    refine lv_bipush (v := -9) hx hb dX5_fewestToBuy_68 (by decide) ?_
    have hK := leafK hB hK
    have hK := elimR hK
    have hK : ((-9 : Int32), z1_1, z1_2, z1_3, z1_4) = R0 := hK
    subst hK
    exact W.iret (v := (-9 : Int32)) hx hb hr (fun t ht hW => ⟨⟨_, (), rfl, rfl, by rw [ht]; exact hP, hD⟩, hS.F ht⟩) hS.2.2 dX5_fewestToBuy_70
  · have hB := ifN c_2 hB
    refine lv_iconst (v := 0) hx hb dX5_fewestToBuy_10 (by decide) ?_
    refine lv_istore (lv' := [(6, .int (0 : Int32)), (0, .ref a_t), (1, .int p1), (2, .int p2), (3, .int p3), (4, .int p4), (5, .int z1_0)]) hx hb dX5_fewestToBuy_11 hl (by decide) rfl (fun ls hl => ?_)
    refine lp_ind (Wh := fun (z3 : Int32 × Int32 × Int32 × Int32 × Int32) => ∀ (H : Heap) (locs : List Loc), va_P G vwCl (wd_X5_fewestToBuy cs a_t a_t_laws a_t_laws_made z3.2.1 z3.2.2.1 z3.2.2.2.1 z3.2.2.2.2 v_t_laws_scribes v_t_laws_books g_t_laws_made) H → va_D A (wd_X5_fewestToBuy cs a_t a_t_laws a_t_laws_made z3.2.1 z3.2.2.1 z3.2.2.2.1 z3.2.2.2.2 v_t_laws_scribes v_t_laws_books g_t_laws_made) → va_S A s.heap H locs → ∀ (ls : Array Slot), lv_has ls 7 [(0, .ref a_t), (1, .int p1), (2, .int p2), (3, .int p3), (4, .int p4), (5, .int z1_0), (6, .int z3.1)] → W p l e rm_X5_fewestToBuy s m ([.ref a_t, .int p1, .int p2, .int p3, .int p4] : List Value).toArray below meth c H locs 0 0 (MQ below (QcI G A (wd_X5_fewestToBuy cs a_t a_t_laws a_t_laws_made R0.2.1 R0.2.2.1 R0.2.2.2.1 R0.2.2.2.2 v_t_laws_scribes v_t_laws_books g_t_laws_made) R0.1) ([.ref a_t, .int p1, .int p2, .int p3, .int p4] : List Value).toArray s 0 0 A) (F0 m 13 ls [])) ?_ FU _ _ hB hK H locs hP hD hS ls (lv_sub hl [1, 2, 3, 4, 5, 6, 0] rfl)
    rintro ⟨z3_0, z3_1, z3_2, z3_3, z3_4⟩ y hB hK H locs hP hD hS ls hl
    have hl : lv_has ls 7 [(0, .ref a_t), (1, .int p1), (2, .int p2), (3, .int p3), (4, .int p4), (5, .int z1_0), (6, .int z3_0)] := hl
    have hP : va_P G vwCl (wd_X5_fewestToBuy cs a_t a_t_laws a_t_laws_made z3_1 z3_2 z3_3 z3_4 v_t_laws_scribes v_t_laws_books g_t_laws_made) H := hP
    have hD : va_D A (wd_X5_fewestToBuy cs a_t a_t_laws a_t_laws_made z3_1 z3_2 z3_3 z3_4 v_t_laws_scribes v_t_laws_books g_t_laws_made) := hD
    refine lv_iload hx hb dX5_fewestToBuy_13 (lv_at hl 6 rfl) ?_
    refine lv_bipush (v := 64) hx hb dX5_fewestToBuy_15 (by decide) ?_
    refine lv_icmp_ge (tgt := 62) hx hb dX5_fewestToBuy_17 (by decide) (fun c_4 => ?_) (fun c_4 => ?_)
    · have hB := ifP c_4 hB
      refine lv_iinc (v := z1_0 + (1 : Int32)) (lv' := [(5, .int (z1_0 + (1 : Int32))), (0, .ref a_t), (1, .int p1), (2, .int p2), (3, .int p3), (4, .int p4), (6, .int z3_0)]) hx hb dX5_fewestToBuy_62 hl (k := 5) rfl (inc_ok (by decide)) (by decide) rfl (fun ls hl => ?_)
      refine lv_goto (tgt := 3) hx hb dX5_fewestToBuy_65 (by decide) ?_
      have hK := leafK hB hK
      have hK := elimR hK
      have hK := elimL hK
      exact hK H locs hP hD hS ls (lv_sub hl [1, 2, 3, 4, 5, 0] rfl)
    · have hB := ifN c_4 hB
      refine lv_iload hx hb dX5_fewestToBuy_20 (lv_at hl 6 rfl) ?_
      obtain ⟨q5, hq5, hB⟩ := bnd hB
      refine kr_S (WC := wd_J6_bitCount_0f7a4 cs ) (As := [.int z3_0]) (rest := []) (r0 := q5) ⟨hx, hb, hml, hown, hg⟩ (k_J6_bitCount_0f7a4 l G cs z3_0 q5 hq5) gM_X5_52 mS_J6_bitCount_0f7a4 (rmk rfl) hP hKT hN [] rfl rfl hl.1 rfl (Nat.le_of_ble_eq_true rfl) dX5_fewestToBuy_22 ?_
      refine lv_iload hx hb dX5_fewestToBuy_25 (lv_at hl 5 rfl) ?_
      refine lv_icmp_ne (tgt := 56) hx hb dX5_fewestToBuy_27 (by decide) (fun c_6 => ?_) (fun c_6 => ?_)
      · have hB := ifN c_6 hB
        refine lv_iinc (v := z3_0 + (1 : Int32)) (lv' := [(6, .int (z3_0 + (1 : Int32))), (0, .ref a_t), (1, .int p1), (2, .int p2), (3, .int p3), (4, .int p4), (5, .int z1_0)]) hx hb dX5_fewestToBuy_56 hl (k := 6) rfl (inc_ok (by decide)) (by decide) rfl (fun ls hl => ?_)
        refine lv_goto (tgt := 13) hx hb dX5_fewestToBuy_59 (by decide) ?_
        have hK := leafK hB hK
        have hK := elimL hK
        exact hK H locs hP hD hS ls (lv_sub hl [1, 2, 3, 4, 5, 6, 0] rfl)
      · have hB := ifP c_6 hB
        refine lv_iload hx hb dX5_fewestToBuy_30 (lv_at hl 6 rfl) ?_
        refine lv_iload_n hx hb dX5_fewestToBuy_32 rfl (lv_at hl 3 rfl) ?_
        refine lv_iconst (v := -1) hx hb dX5_fewestToBuy_33 (by decide) ?_
        refine lv_ixor hx hb dX5_fewestToBuy_34 ?_
        refine lv_iand hx hb dX5_fewestToBuy_35 ?_
        refine lv_if_ne (tgt := 56) hx hb dX5_fewestToBuy_36 (by decide) (fun c_7 => ?_) (fun c_7 => ?_)
        · have hB := ifN c_7 hB
          refine lv_iinc (v := z3_0 + (1 : Int32)) (lv' := [(6, .int (z3_0 + (1 : Int32))), (0, .ref a_t), (1, .int p1), (2, .int p2), (3, .int p3), (4, .int p4), (5, .int z1_0)]) hx hb dX5_fewestToBuy_56 hl (k := 6) rfl (inc_ok (by decide)) (by decide) rfl (fun ls hl => ?_)
          refine lv_goto (tgt := 13) hx hb dX5_fewestToBuy_59 (by decide) ?_
          have hK := leafK hB hK
          have hK := elimL hK
          exact hK H locs hP hD hS ls (lv_sub hl [1, 2, 3, 4, 5, 6, 0] rfl)
        · have hB := ifP c_7 hB
          refine lv_aload_n hx hb dX5_fewestToBuy_39 rfl (lv_at hl 0 rfl) ?_
          refine lv_iload_n hx hb dX5_fewestToBuy_40 rfl (lv_at hl 1 rfl) ?_
          refine lv_iload_n hx hb dX5_fewestToBuy_41 rfl (lv_at hl 2 rfl) ?_
          refine lv_iload hx hb dX5_fewestToBuy_42 (lv_at hl 6 rfl) ?_
          refine lv_ior hx hb dX5_fewestToBuy_44 ?_
          refine lv_iload hx hb dX5_fewestToBuy_45 (lv_at hl 4 rfl) ?_
          obtain ⟨⟨q8_0, q8_1, q8_2, q8_3, q8_4⟩, hq8, hB⟩ := bnd hB
          refine kw_i (WC := wd_X5_reaches cs a_t a_t_laws a_t_laws_made z3_1 z3_2 z3_3 z3_4 v_t_laws_scribes v_t_laws_books g_t_laws_made) (W1 := wd_X5_reaches cs a_t a_t_laws a_t_laws_made q8_1 q8_2 q8_3 q8_4 v_t_laws_scribes v_t_laws_books g_t_laws_made) (W2 := wd_X5_fewestToBuy cs a_t a_t_laws a_t_laws_made q8_1 q8_2 q8_3 q8_4 v_t_laws_scribes v_t_laws_books g_t_laws_made) (r0 := q8_0) (rw_V (As := [.int p1, .int (p2 ||| z3_0), .int p4]) (rest := []) ⟨hx, hb, hml, hown, hg⟩ (k_X5_reaches l G cs a_t a_t_laws a_t_laws_made z3_1 z3_2 z3_3 z3_4 v_t_laws_scribes v_t_laws_books g_t_laws_made p1 (p2 ||| z3_0) p4 H.size (q8_0, q8_1, q8_2, q8_3, q8_4) hq8) gM_X5_58 mI_X5_reaches (rmk rfl) hP hD hKT hN 0 rfl rfl [0, 1, 2] rfl rfl rfl hl.1 rfl (Nat.le_of_ble_eq_true rfl) dX5_fewestToBuy_47) hP hD hS hA [0, 1, 2] [] [0, 1, 2] ⟨rfl, rfl, rfl, rfl, rfl, rfl, rfl⟩ (fun H locs hP hD hS => ?_)
          refine lv_if_eq (tgt := 56) hx hb dX5_fewestToBuy_50 (by decide) (fun c_9 => ?_) (fun c_9 => ?_)
          · have hB := ifP c_9 hB
            refine lv_iinc (v := z3_0 + (1 : Int32)) (lv' := [(6, .int (z3_0 + (1 : Int32))), (0, .ref a_t), (1, .int p1), (2, .int p2), (3, .int p3), (4, .int p4), (5, .int z1_0)]) hx hb dX5_fewestToBuy_56 hl (k := 6) rfl (inc_ok (by decide)) (by decide) rfl (fun ls hl => ?_)
            refine lv_goto (tgt := 13) hx hb dX5_fewestToBuy_59 (by decide) ?_
            have hK := leafK hB hK
            have hK := elimL hK
            exact hK H locs hP hD hS ls (lv_sub hl [1, 2, 3, 4, 5, 6, 0] rfl)
          · have hB := ifN c_9 hB
            refine lv_iload hx hb dX5_fewestToBuy_53 (lv_at hl 6 rfl) ?_
            have hK := leafK hB hK
            have hK := elimR hK
            have hK := elimR hK
            have hK : (z3_0, q8_1, q8_2, q8_3, q8_4) = R0 := hK
            subst hK
            exact W.iret (v := z3_0) hx hb hr (fun t ht hW => ⟨⟨_, (), rfl, rfl, by rw [ht]; exact hP, hD⟩, hS.F ht⟩) hS.2.2 dX5_fewestToBuy_55
