theorem inX1 : ∀ w ∈ u_ws RX1 TX1 3, w ∈ GW := by
  intro w h
  obtain ⟨k, hk, rfl⟩ := List.mem_map.mp h
  have hk := List.mem_range.mp hk
  rcases (show k = 0 ∨ k = 1 ∨ k = 2 by omega) with rfl | rfl | rfl
  · exact gY_X1_made
  · exact gY_X1_scribes
  · exact gY_X1_books
def wd_X1_learn (cs : Nat → ClassId) (a_t a_t_made a_p1 a_p1_turn a_p1_bent : Nat) (v_t_scribes : Int32) (v_t_books : Int32) (g_t_made : Nat → Int32) (v_p1_opinions : Int32) (v_p1_lines : Int32) (v_p1_books : Int32) (v_p1_told : Int32) (v_p1_scribes : Int32) (v_p1_need : Int32) (g_p1_turn : Nat → Int32) (g_p1_bent : Nat → Int32) : va_W := [(a_t, .inr (1, [.ref a_t_made, .int v_t_scribes, .int v_t_books])), (a_t_made, .inl (cs 0, 3750, .inl g_t_made)), (a_p1, .inr (0, [.int v_p1_opinions, .int v_p1_lines, .int v_p1_books, .int v_p1_told, .int v_p1_scribes, .int v_p1_need, .ref a_p1_turn, .ref a_p1_bent])), (a_p1_turn, .inl (cs 0, 6, .inl g_p1_turn)), (a_p1_bent, .inl (cs 0, 6, .inl g_p1_bent))]
def rm_X1_learn : Room := { frames := 5, cells := 0, slots := 0, locals := 112 }
theorem mI_X1_learn : MI yX1_learn RX1 cX1_learn 4 none 1 := ⟨gI_X1_learn, gE_X1_learn, gN_X1, gC_X1_learn, by decide +kernel⟩
set_option maxHeartbeats 4000000 in
set_option maxRecDepth 100000 in
theorem k_X1_learn (l : Launch) (G : va_G) (cs : Nat → ClassId) (a_t a_t_made a_p1 a_p1_turn a_p1_bent : Nat) (v_t_scribes : Int32) (v_t_books : Int32) (g_t_made : Nat → Int32) (v_p1_opinions : Int32) (v_p1_lines : Int32) (v_p1_books : Int32) (v_p1_told : Int32) (v_p1_scribes : Int32) (v_p1_need : Int32) (g_p1_turn : Nat → Int32) (g_p1_bent : Nat → Int32) (sz : Nat) (R0 : Int32 × Int32 × (Nat → Int32)) (hB : f_X1_learn g_t_made v_p1_opinions v_p1_lines v_p1_books v_p1_scribes v_p1_need g_p1_turn g_p1_bent = some R0) : Met l yX1_learn (.code yX1_learn cX1_learn 4 none :: GW) rm_X1_learn (PcW G cs [.ref a_t, .ref a_p1] (wd_X1_learn cs a_t a_t_made a_p1 a_p1_turn a_p1_bent v_t_scribes v_t_books g_t_made v_p1_opinions v_p1_lines v_p1_books v_p1_told v_p1_scribes v_p1_need g_p1_turn g_p1_bent) sz) (QcV G (va_A (wd_X1_learn cs a_t a_t_made a_p1 a_p1_turn a_p1_bent v_t_scribes v_t_books g_t_made v_p1_opinions v_p1_lines v_p1_books v_p1_told v_p1_scribes v_p1_need g_p1_turn g_p1_bent) sz) (wd_X1_learn cs a_t a_t_made a_p1 a_p1_turn a_p1_bent R0.1 R0.2.1 R0.2.2 v_p1_opinions v_p1_lines v_p1_books v_p1_told v_p1_scribes v_p1_need g_p1_turn g_p1_bent)) 0 0 (va_A (wd_X1_learn cs a_t a_t_made a_p1 a_p1_turn a_p1_bent v_t_scribes v_t_books g_t_made v_p1_opinions v_p1_lines v_p1_books v_p1_told v_p1_scribes v_p1_need g_p1_turn g_p1_bent) sz) := by
  refine Met.ofW (cc := cX1_learn) (maxL := 4) (ret := none) (by decide) rfl ?_
  intro p e s m args below meth c s₁ B hml hv
  obtain ⟨rfl, hsz, hP, hD0, hK, hN⟩ := hv
  have hx := B.exec
  have hb := B.bytes
  have hr := B.returns
  have hts := atoms_spec (ws := .code yX1_learn cX1_learn 4 none :: GW) B.pre
  have hg : ∀ w ∈ GW, w.before _ s = true := fun w h => hts w (List.mem_cons_of_mem _ h)
  have hown : s.vm.findClass RX1 = some m.cls := findClass_of_methodNamed B.named
  have hlocks := B.notSynchronized
  subst hsz
  have hD := hD0.self (sz := s.heap.size)
  generalize hAe : va_A (wd_X1_learn cs a_t a_t_made a_p1 a_p1_turn a_p1_bent v_t_scribes v_t_books g_t_made v_p1_opinions v_p1_lines v_p1_books v_p1_told v_p1_scribes v_p1_need g_p1_turn g_p1_bent) s.heap.size = A at hD ⊢
  have hA : ∀ q : Nat, s.heap.size ≤ q → A q := fun q h => by rw [← hAe]; exact Or.inr h
  have hS : va_S A s.heap s.heap [] := va_S.rf
  have hl := lv_entry ([.ref a_t, .ref a_p1]) (n := 4) (Nat.le_of_ble_eq_true rfl)
  rw [lg_entry_eq]
  generalize (lg_sl ([.ref a_t, .ref a_p1]) ++ List.replicate (4 - (lg_sl ([.ref a_t, .ref a_p1])).length) Slot.unset).toArray = ls at hl ⊢
  have hl : lv_has ls 4 [(0, .ref a_t), (1, .ref a_p1)] := hl
  obtain ⟨y, hB, hK0⟩ : ∃ y, f_X1_learn g_t_made v_p1_opinions v_p1_lines v_p1_books v_p1_scribes v_p1_need g_p1_turn g_p1_bent = some y ∧ KEnd R0 y := ⟨R0, hB, rfl⟩
  have hKT := hK
  have hK := hK0
  obtain ⟨H, hHe⟩ : ∃ H, H = s.heap := ⟨_, rfl⟩
  obtain ⟨locs, hLe⟩ : ∃ L : List Loc, L = [] := ⟨_, rfl⟩
  rw [← hHe] at hP
  have hS : va_S A s.heap H locs := by rw [hHe, hLe]; exact hS
  show W p l e rm_X1_learn s m ([.ref a_t, .ref a_p1] : List Value).toArray below meth c s.heap [] 0 0 _ _
  suffices hgo : W p l e rm_X1_learn s m ([.ref a_t, .ref a_p1] : List Value).toArray below meth c H locs 0 0 (MQ below (QcV G A (wd_X1_learn cs a_t a_t_made a_p1 a_p1_turn a_p1_bent R0.1 R0.2.1 R0.2.2 v_p1_opinions v_p1_lines v_p1_books v_p1_told v_p1_scribes v_p1_need g_p1_turn g_p1_bent)) ([.ref a_t, .ref a_p1] : List Value).toArray s 0 0 A) (F0 m 0 ls []) by rw [hHe, hLe] at hgo; exact hgo
  refine lv_aload_n hx hb dX1_learn_0 rfl (lv_at hl 0 rfl) ?_
  refine lv_aload_n hx hb dX1_learn_1 rfl (lv_at hl 1 rfl) ?_
  refine va_getN (D := G) (ci := 0) (v := .int v_p1_scribes) (C := RX0) (T := TX0) (N := 8) hx hb hg inX0 hown hKT hP 2 rfl rfl 4 (by decide) (va_Nw.use rfl (hN _ nF_X1_19_l rfl)) (fun _ h9 => h9) rfl dX1_learn_2 ?_
  refine lv_bipush (v := 6) hx hb dX1_learn_5 (by decide) ?_
  refine va_mmin hx hb (hml.trans hl.1.symm) hown (hg _ gM_X1_24) (hg _ gS_J9_min_7cf53) (hg _ gN_J9) (hg _ gC_J9_min_7cf53) (Nat.le_of_ble_eq_true rfl) (Nat.le_of_ble_eq_true rfl) (Nat.zero_le _) (Nat.zero_le _) dX1_learn_7 ?_
  refine va_put (D := G) (ci := 1) (v := .int (if (6 : Int32) < v_p1_scribes then (6 : Int32) else v_p1_scribes)) (ty := .int) (C := RX1) (T := TX1) (N := 3) hx hb hg inX1 tyX1 tyX1_ok nmX1 hown hKT hP hD hS 0 rfl rfl 1 (by decide) (hg _ gF_X1_30) (fun _ h9 => h9) rfl (by decide +kernel) rfl rfl (Nat.le_of_ble_eq_true rfl) dX1_learn_10 (fun H locs hP hD hS => ?_)
  have hP : va_P G vwCl (wd_X1_learn cs a_t a_t_made a_p1 a_p1_turn a_p1_bent (if (6 : Int32) < v_p1_scribes then (6 : Int32) else v_p1_scribes) v_t_books g_t_made v_p1_opinions v_p1_lines v_p1_books v_p1_told v_p1_scribes v_p1_need g_p1_turn g_p1_bent) H := hP
  have hD : va_D A (wd_X1_learn cs a_t a_t_made a_p1 a_p1_turn a_p1_bent (if (6 : Int32) < v_p1_scribes then (6 : Int32) else v_p1_scribes) v_t_books g_t_made v_p1_opinions v_p1_lines v_p1_books v_p1_told v_p1_scribes v_p1_need g_p1_turn g_p1_bent) := hD
  refine lv_aload_n hx hb dX1_learn_13 rfl (lv_at hl 0 rfl) ?_
  refine lv_aload_n hx hb dX1_learn_14 rfl (lv_at hl 1 rfl) ?_
  refine va_getN (D := G) (ci := 0) (v := .int v_p1_books) (C := RX0) (T := TX0) (N := 8) hx hb hg inX0 hown hKT hP 2 rfl rfl 2 (by decide) (va_Nw.use rfl (hN _ nF_X1_31_l rfl)) (fun _ h9 => h9) rfl dX1_learn_15 ?_
  refine lv_sipush (v := 625) hx hb dX1_learn_18 (by decide) ?_
  refine va_mmin hx hb (hml.trans hl.1.symm) hown (hg _ gM_X1_24) (hg _ gS_J9_min_7cf53) (hg _ gN_J9) (hg _ gC_J9_min_7cf53) (Nat.le_of_ble_eq_true rfl) (Nat.le_of_ble_eq_true rfl) (Nat.zero_le _) (Nat.zero_le _) dX1_learn_21 ?_
  refine va_put (D := G) (ci := 1) (v := .int (if (625 : Int32) < v_p1_books then (625 : Int32) else v_p1_books)) (ty := .int) (C := RX1) (T := TX1) (N := 3) hx hb hg inX1 tyX1 tyX1_ok nmX1 hown hKT hP hD hS 0 rfl rfl 2 (by decide) (hg _ gF_X1_15) (fun _ h9 => h9) rfl (by decide +kernel) rfl rfl (Nat.le_of_ble_eq_true rfl) dX1_learn_24 (fun H locs hP hD hS => ?_)
  have hP : va_P G vwCl (wd_X1_learn cs a_t a_t_made a_p1 a_p1_turn a_p1_bent (if (6 : Int32) < v_p1_scribes then (6 : Int32) else v_p1_scribes) (if (625 : Int32) < v_p1_books then (625 : Int32) else v_p1_books) g_t_made v_p1_opinions v_p1_lines v_p1_books v_p1_told v_p1_scribes v_p1_need g_p1_turn g_p1_bent) H := hP
  have hD : va_D A (wd_X1_learn cs a_t a_t_made a_p1 a_p1_turn a_p1_bent (if (6 : Int32) < v_p1_scribes then (6 : Int32) else v_p1_scribes) (if (625 : Int32) < v_p1_books then (625 : Int32) else v_p1_books) g_t_made v_p1_opinions v_p1_lines v_p1_books v_p1_told v_p1_scribes v_p1_need g_p1_turn g_p1_bent) := hD
  refine lv_iconst (v := 0) hx hb dX1_learn_27 (by decide) ?_
  refine lv_istore_n (lv' := [(2, .int (0 : Int32)), (0, .ref a_t), (1, .ref a_p1)]) hx hb dX1_learn_28 rfl hl (by decide) rfl (fun ls hl => ?_)
  refine lp_ind (Wh := fun (z1 : Int32 × (Nat → Int32)) => ∀ (H : Heap) (locs : List Loc), va_P G vwCl (wd_X1_learn cs a_t a_t_made a_p1 a_p1_turn a_p1_bent (if (6 : Int32) < v_p1_scribes then (6 : Int32) else v_p1_scribes) (if (625 : Int32) < v_p1_books then (625 : Int32) else v_p1_books) z1.2 v_p1_opinions v_p1_lines v_p1_books v_p1_told v_p1_scribes v_p1_need g_p1_turn g_p1_bent) H → va_D A (wd_X1_learn cs a_t a_t_made a_p1 a_p1_turn a_p1_bent (if (6 : Int32) < v_p1_scribes then (6 : Int32) else v_p1_scribes) (if (625 : Int32) < v_p1_books then (625 : Int32) else v_p1_books) z1.2 v_p1_opinions v_p1_lines v_p1_books v_p1_told v_p1_scribes v_p1_need g_p1_turn g_p1_bent) → va_S A s.heap H locs → ∀ (ls : Array Slot), lv_has ls 4 [(0, .ref a_t), (1, .ref a_p1), (2, .int z1.1)] → W p l e rm_X1_learn s m ([.ref a_t, .ref a_p1] : List Value).toArray below meth c H locs 0 0 (MQ below (QcV G A (wd_X1_learn cs a_t a_t_made a_p1 a_p1_turn a_p1_bent R0.1 R0.2.1 R0.2.2 v_p1_opinions v_p1_lines v_p1_books v_p1_told v_p1_scribes v_p1_need g_p1_turn g_p1_bent)) ([.ref a_t, .ref a_p1] : List Value).toArray s 0 0 A) (F0 m 29 ls [])) ?_ FU _ _ hB hK H locs hP hD hS ls (lv_sub hl [1, 2, 0] rfl)
  rintro ⟨z1_0, z1_1⟩ y hB hK H locs hP hD hS ls hl
  have hl : lv_has ls 4 [(0, .ref a_t), (1, .ref a_p1), (2, .int z1_0)] := hl
  have hP : va_P G vwCl (wd_X1_learn cs a_t a_t_made a_p1 a_p1_turn a_p1_bent (if (6 : Int32) < v_p1_scribes then (6 : Int32) else v_p1_scribes) (if (625 : Int32) < v_p1_books then (625 : Int32) else v_p1_books) z1_1 v_p1_opinions v_p1_lines v_p1_books v_p1_told v_p1_scribes v_p1_need g_p1_turn g_p1_bent) H := hP
  have hD : va_D A (wd_X1_learn cs a_t a_t_made a_p1 a_p1_turn a_p1_bent (if (6 : Int32) < v_p1_scribes then (6 : Int32) else v_p1_scribes) (if (625 : Int32) < v_p1_books then (625 : Int32) else v_p1_books) z1_1 v_p1_opinions v_p1_lines v_p1_books v_p1_told v_p1_scribes v_p1_need g_p1_turn g_p1_bent) := hD
  refine lv_iload_n hx hb dX1_learn_29 rfl (lv_at hl 2 rfl) ?_
  refine lv_aload_n hx hb dX1_learn_30 rfl (lv_at hl 0 rfl) ?_
  refine va_get (D := G) (ci := 1) (v := .int (if (6 : Int32) < v_p1_scribes then (6 : Int32) else v_p1_scribes)) (C := RX1) (T := TX1) (N := 3) hx hb hg inX1 hown hKT hP 0 rfl rfl 1 (by decide) (hg _ gF_X1_30) (fun _ h9 => h9) rfl dX1_learn_31 ?_
  refine lv_icmp_ge (tgt := 90) hx hb dX1_learn_34 (by decide) (fun c_2 => ?_) (fun c_2 => ?_)
  · have hB := ifP c_2 hB
    have hK := leafK hB hK
    have hK := elimR hK
    have hK : (if (6 : Int32) < v_p1_scribes then (6 : Int32) else v_p1_scribes, if (625 : Int32) < v_p1_books then (625 : Int32) else v_p1_books, z1_1) = R0 := hK
    subst hK
    exact W.vret hx hb hr (fun t ht hW => ⟨⟨(), rfl, trivial, by rw [ht]; exact hP, hD⟩, hS.F ht⟩) hS.2.2 dX1_learn_90
  · have hB := ifN c_2 hB
    refine lv_iconst (v := 0) hx hb dX1_learn_37 (by decide) ?_
    refine lv_istore_n (lv' := [(3, .int (0 : Int32)), (0, .ref a_t), (1, .ref a_p1), (2, .int z1_0)]) hx hb dX1_learn_38 rfl hl (by decide) rfl (fun ls hl => ?_)
    refine lp_ind (Wh := fun (z3 : Int32 × (Nat → Int32)) => ∀ (H : Heap) (locs : List Loc), va_P G vwCl (wd_X1_learn cs a_t a_t_made a_p1 a_p1_turn a_p1_bent (if (6 : Int32) < v_p1_scribes then (6 : Int32) else v_p1_scribes) (if (625 : Int32) < v_p1_books then (625 : Int32) else v_p1_books) z3.2 v_p1_opinions v_p1_lines v_p1_books v_p1_told v_p1_scribes v_p1_need g_p1_turn g_p1_bent) H → va_D A (wd_X1_learn cs a_t a_t_made a_p1 a_p1_turn a_p1_bent (if (6 : Int32) < v_p1_scribes then (6 : Int32) else v_p1_scribes) (if (625 : Int32) < v_p1_books then (625 : Int32) else v_p1_books) z3.2 v_p1_opinions v_p1_lines v_p1_books v_p1_told v_p1_scribes v_p1_need g_p1_turn g_p1_bent) → va_S A s.heap H locs → ∀ (ls : Array Slot), lv_has ls 4 [(0, .ref a_t), (1, .ref a_p1), (2, .int z1_0), (3, .int z3.1)] → W p l e rm_X1_learn s m ([.ref a_t, .ref a_p1] : List Value).toArray below meth c H locs 0 0 (MQ below (QcV G A (wd_X1_learn cs a_t a_t_made a_p1 a_p1_turn a_p1_bent R0.1 R0.2.1 R0.2.2 v_p1_opinions v_p1_lines v_p1_books v_p1_told v_p1_scribes v_p1_need g_p1_turn g_p1_bent)) ([.ref a_t, .ref a_p1] : List Value).toArray s 0 0 A) (F0 m 39 ls [])) ?_ FU _ _ hB hK H locs hP hD hS ls (lv_sub hl [1, 2, 3, 0] rfl)
    rintro ⟨z3_0, z3_1⟩ y hB hK H locs hP hD hS ls hl
    have hl : lv_has ls 4 [(0, .ref a_t), (1, .ref a_p1), (2, .int z1_0), (3, .int z3_0)] := hl
    have hP : va_P G vwCl (wd_X1_learn cs a_t a_t_made a_p1 a_p1_turn a_p1_bent (if (6 : Int32) < v_p1_scribes then (6 : Int32) else v_p1_scribes) (if (625 : Int32) < v_p1_books then (625 : Int32) else v_p1_books) z3_1 v_p1_opinions v_p1_lines v_p1_books v_p1_told v_p1_scribes v_p1_need g_p1_turn g_p1_bent) H := hP
    have hD : va_D A (wd_X1_learn cs a_t a_t_made a_p1 a_p1_turn a_p1_bent (if (6 : Int32) < v_p1_scribes then (6 : Int32) else v_p1_scribes) (if (625 : Int32) < v_p1_books then (625 : Int32) else v_p1_books) z3_1 v_p1_opinions v_p1_lines v_p1_books v_p1_told v_p1_scribes v_p1_need g_p1_turn g_p1_bent) := hD
    refine lv_iload_n hx hb dX1_learn_39 rfl (lv_at hl 3 rfl) ?_
    refine lv_aload_n hx hb dX1_learn_40 rfl (lv_at hl 0 rfl) ?_
    refine va_get (D := G) (ci := 1) (v := .int (if (625 : Int32) < v_p1_books then (625 : Int32) else v_p1_books)) (C := RX1) (T := TX1) (N := 3) hx hb hg inX1 hown hKT hP 0 rfl rfl 2 (by decide) (hg _ gF_X1_15) (fun _ h9 => h9) rfl dX1_learn_41 ?_
    refine lv_icmp_ge (tgt := 84) hx hb dX1_learn_44 (by decide) (fun c_4 => ?_) (fun c_4 => ?_)
    · have hB := ifP c_4 hB
      refine lv_iinc (v := z1_0 + (1 : Int32)) (lv' := [(2, .int (z1_0 + (1 : Int32))), (0, .ref a_t), (1, .ref a_p1), (3, .int z3_0)]) hx hb dX1_learn_84 hl (k := 2) rfl (inc_ok (by decide)) (by decide) rfl (fun ls hl => ?_)
      refine lv_goto (tgt := 29) hx hb dX1_learn_87 (by decide) ?_
      have hK := leafK hB hK
      have hK := elimR hK
      have hK := elimL hK
      exact hK H locs hP hD hS ls (lv_sub hl [1, 2, 0] rfl)
    · have hB := ifN c_4 hB
      refine lv_aload_n hx hb dX1_learn_47 rfl (lv_at hl 0 rfl) ?_
      refine va_get (D := G) (ci := 1) (v := .ref a_t_made) (C := RX1) (T := TX1) (N := 3) hx hb hg inX1 hown hKT hP 0 rfl rfl 0 (by decide) (hg _ gF_X1_9) (fun _ h9 => h9) rfl dX1_learn_48 ?_
      refine lv_iload_n hx hb dX1_learn_51 rfl (lv_at hl 2 rfl) ?_
      refine lv_sipush (v := 625) hx hb dX1_learn_52 (by decide) ?_
      refine lv_imul hx hb dX1_learn_55 ?_
      refine lv_iload_n hx hb dX1_learn_56 rfl (lv_at hl 3 rfl) ?_
      refine lv_iadd hx hb dX1_learn_57 ?_
      refine lv_aload_n hx hb dX1_learn_58 rfl (lv_at hl 1 rfl) ?_
      refine lv_iload_n hx hb dX1_learn_59 rfl (lv_at hl 2 rfl) ?_
      refine lv_iload_n hx hb dX1_learn_60 rfl (lv_at hl 3 rfl) ?_
      obtain ⟨q5, hq5, hB⟩ := bnd hB
      refine kr_VN (WC := wd_X0_isConvinced cs a_p1 a_p1_turn a_p1_bent v_p1_opinions v_p1_lines v_p1_books v_p1_told v_p1_scribes v_p1_need g_p1_turn g_p1_bent) (As := [.int z1_0, .int z3_0]) (rest := [.int ((z1_0 * (625 : Int32)) + z3_0), .ref a_t_made]) (r0 := q5) ⟨hx, hb, hml, hown, hg⟩ (k_X0_isConvinced l G cs a_p1 a_p1_turn a_p1_bent v_p1_opinions v_p1_lines v_p1_books v_p1_told v_p1_scribes v_p1_need g_p1_turn g_p1_bent z1_0 z3_0 q5 hq5) nM_X1_32_l mI_X0_isConvinced (rmk rfl) hP hKT hN 2 rfl rfl [2, 3, 4] rfl rfl hl.1 rfl (Nat.le_of_ble_eq_true rfl) dX1_learn_61 ?_
      refine lv_if_eq (tgt := 71) hx hb dX1_learn_64 (by decide) (fun c_6 => ?_) (fun c_6 => ?_)
      · have hB := ifP c_6 hB
        refine lv_aload_n hx hb dX1_learn_71 rfl (lv_at hl 1 rfl) ?_
        refine lv_iload_n hx hb dX1_learn_72 rfl (lv_at hl 2 rfl) ?_
        refine lv_iload_n hx hb dX1_learn_73 rfl (lv_at hl 3 rfl) ?_
        obtain ⟨q7, hq7, hB⟩ := bnd hB
        refine kr_VN (WC := wd_X0_becomes cs a_p1 a_p1_turn a_p1_bent v_p1_opinions v_p1_lines v_p1_books v_p1_told v_p1_scribes v_p1_need g_p1_turn g_p1_bent) (As := [.int z1_0, .int z3_0]) (rest := [.int ((z1_0 * (625 : Int32)) + z3_0), .ref a_t_made]) (r0 := q7) ⟨hx, hb, hml, hown, hg⟩ (k_X0_becomes l G cs a_p1 a_p1_turn a_p1_bent v_p1_opinions v_p1_lines v_p1_books v_p1_told v_p1_scribes v_p1_need g_p1_turn g_p1_bent z1_0 z3_0 q7 hq7) nM_X1_36_l mI_X0_becomes (rmk rfl) hP hKT hN 2 rfl rfl [2, 3, 4] rfl rfl hl.1 rfl (Nat.le_of_ble_eq_true rfl) dX1_learn_74 ?_
        obtain ⟨h_8, hB⟩ := ifS hB
        refine va_iast hx hb hKT hP hD hS 1 0 rfl rfl h_8 dX1_learn_77 (fun H locs hP hD hS => ?_)
        have hP : va_P G vwCl (wd_X1_learn cs a_t a_t_made a_p1 a_p1_turn a_p1_bent (if (6 : Int32) < v_p1_scribes then (6 : Int32) else v_p1_scribes) (if (625 : Int32) < v_p1_books then (625 : Int32) else v_p1_books) (upd z3_1 ((z1_0 * (625 : Int32)) + z3_0).toNatClampNeg q7) v_p1_opinions v_p1_lines v_p1_books v_p1_told v_p1_scribes v_p1_need g_p1_turn g_p1_bent) H := hP
        have hD : va_D A (wd_X1_learn cs a_t a_t_made a_p1 a_p1_turn a_p1_bent (if (6 : Int32) < v_p1_scribes then (6 : Int32) else v_p1_scribes) (if (625 : Int32) < v_p1_books then (625 : Int32) else v_p1_books) (upd z3_1 ((z1_0 * (625 : Int32)) + z3_0).toNatClampNeg q7) v_p1_opinions v_p1_lines v_p1_books v_p1_told v_p1_scribes v_p1_need g_p1_turn g_p1_bent) := hD
        refine lv_iinc (v := z3_0 + (1 : Int32)) (lv' := [(3, .int (z3_0 + (1 : Int32))), (0, .ref a_t), (1, .ref a_p1), (2, .int z1_0)]) hx hb dX1_learn_78 hl (k := 3) rfl (inc_ok (by decide)) (by decide) rfl (fun ls hl => ?_)
        refine lv_goto (tgt := 39) hx hb dX1_learn_81 (by decide) ?_
        have hK := leafK hB hK
        have hK := elimL hK
        exact hK H locs hP hD hS ls (lv_sub hl [1, 2, 3, 0] rfl)
      · have hB := ifN c_6 hB
        refine lv_iconst (v := -1) hx hb dX1_learn_67 (by decide) ?_
        refine lv_goto (tgt := 77) hx hb dX1_learn_68 (by decide) ?_
        obtain ⟨h_9, hB⟩ := ifS hB
        refine va_iast hx hb hKT hP hD hS 1 0 rfl rfl h_9 dX1_learn_77 (fun H locs hP hD hS => ?_)
        have hP : va_P G vwCl (wd_X1_learn cs a_t a_t_made a_p1 a_p1_turn a_p1_bent (if (6 : Int32) < v_p1_scribes then (6 : Int32) else v_p1_scribes) (if (625 : Int32) < v_p1_books then (625 : Int32) else v_p1_books) (upd z3_1 ((z1_0 * (625 : Int32)) + z3_0).toNatClampNeg (-1 : Int32)) v_p1_opinions v_p1_lines v_p1_books v_p1_told v_p1_scribes v_p1_need g_p1_turn g_p1_bent) H := hP
        have hD : va_D A (wd_X1_learn cs a_t a_t_made a_p1 a_p1_turn a_p1_bent (if (6 : Int32) < v_p1_scribes then (6 : Int32) else v_p1_scribes) (if (625 : Int32) < v_p1_books then (625 : Int32) else v_p1_books) (upd z3_1 ((z1_0 * (625 : Int32)) + z3_0).toNatClampNeg (-1 : Int32)) v_p1_opinions v_p1_lines v_p1_books v_p1_told v_p1_scribes v_p1_need g_p1_turn g_p1_bent) := hD
        refine lv_iinc (v := z3_0 + (1 : Int32)) (lv' := [(3, .int (z3_0 + (1 : Int32))), (0, .ref a_t), (1, .ref a_p1), (2, .int z1_0)]) hx hb dX1_learn_78 hl (k := 3) rfl (inc_ok (by decide)) (by decide) rfl (fun ls hl => ?_)
        refine lv_goto (tgt := 39) hx hb dX1_learn_81 (by decide) ?_
        have hK := leafK hB hK
        have hK := elimL hK
        exact hK H locs hP hD hS ls (lv_sub hl [1, 2, 3, 0] rfl)
def wd_X1_copyBy (cs : Nat → ClassId) (a_t a_t_made : Nat) (v_t_scribes : Int32) (v_t_books : Int32) (g_t_made : Nat → Int32) : va_W := [(a_t, .inr (1, [.ref a_t_made, .int v_t_scribes, .int v_t_books])), (a_t_made, .inl (cs 0, 3750, .inl g_t_made))]
def rm_X1_copyBy : Room := { frames := 0, cells := 0, slots := 0, locals := 0 }
theorem mI_X1_copyBy : MI yX1_copyBy RX1 cX1_copyBy 3 (some .int) 2 := ⟨gI_X1_copyBy, gE_X1_copyBy, gN_X1, gC_X1_copyBy, by decide +kernel⟩
set_option maxHeartbeats 4000000 in
set_option maxRecDepth 100000 in
theorem k_X1_copyBy (l : Launch) (G : va_G) (cs : Nat → ClassId) (a_t a_t_made : Nat) (v_t_scribes : Int32) (v_t_books : Int32) (g_t_made : Nat → Int32) (p1 p2 : Int32) (R0 : Int32) (hB : f_X1_copyBy v_t_scribes v_t_books g_t_made p1 p2 = some R0) : Met l yX1_copyBy (.code yX1_copyBy cX1_copyBy 3 (some .int) :: GW) rm_X1_copyBy (PcR G cs [.ref a_t, .int p1, .int p2] (wd_X1_copyBy cs a_t a_t_made v_t_scribes v_t_books g_t_made)) (vp_Si (fun r => r = R0)) 0 0 (fun _ => False) := by
  refine Met.ofW (cc := cX1_copyBy) (maxL := 3) (ret := (some .int)) (by decide) rfl ?_
  intro p e s m args below meth c s₁ B hml hv
  obtain ⟨rfl, hP, hK, hN⟩ := hv
  have hx := B.exec
  have hb := B.bytes
  have hr := B.returns
  have hts := atoms_spec (ws := .code yX1_copyBy cX1_copyBy 3 (some .int) :: GW) B.pre
  have hg : ∀ w ∈ GW, w.before _ s = true := fun w h => hts w (List.mem_cons_of_mem _ h)
  have hown : s.vm.findClass RX1 = some m.cls := findClass_of_methodNamed B.named
  have hlocks := B.notSynchronized
  have hl := lv_entry ([.ref a_t, .int p1, .int p2]) (n := 3) (Nat.le_of_ble_eq_true rfl)
  rw [lg_entry_eq]
  generalize (lg_sl ([.ref a_t, .int p1, .int p2]) ++ List.replicate (3 - (lg_sl ([.ref a_t, .int p1, .int p2])).length) Slot.unset).toArray = ls at hl ⊢
  have hl : lv_has ls 3 [(0, .ref a_t), (1, .int p1), (2, .int p2)] := hl
  obtain ⟨y, hB, hK0⟩ : ∃ y, f_X1_copyBy v_t_scribes v_t_books g_t_made p1 p2 = some y ∧ KEnd R0 y := ⟨R0, hB, rfl⟩
  have hKT := hK
  have hK := hK0
  show W p l e rm_X1_copyBy s m ([.ref a_t, .int p1, .int p2] : List Value).toArray below meth c s.heap [] 0 0 (MQ below (vp_Si (fun r => r = R0)) ([.ref a_t, .int p1, .int p2] : List Value).toArray s 0 0 (fun _ => False)) (F0 m 0 ls [])
  refine lv_iload_n hx hb dX1_copyBy_0 rfl (lv_at hl 1 rfl) ?_
  refine lv_if_lt (tgt := 39) hx hb dX1_copyBy_1 (by decide) (fun c_1 => ?_) (fun c_1 => ?_)
  · have hB := ifP c_1 hB
    refine lv_iconst (v := -1) hx hb dX1_copyBy_39 (by decide) ?_
    have hK := leafK hB hK
    have hK : (-1 : Int32) = R0 := hK
    subst hK
    exact W.iret (v := (-1 : Int32)) hx hb hr (fun t ht hW => ⟨_, rfl, rfl, ht⟩) (fun _ h => by cases h) dX1_copyBy_40
  · have hB := ifN c_1 hB
    refine lv_iload_n hx hb dX1_copyBy_4 rfl (lv_at hl 1 rfl) ?_
    refine lv_aload_n hx hb dX1_copyBy_5 rfl (lv_at hl 0 rfl) ?_
    refine va_get (D := G) (ci := 1) (v := .int v_t_scribes) (C := RX1) (T := TX1) (N := 3) hx hb hg inX1 hown hKT hP 0 rfl rfl 1 (by decide) (hg _ gF_X1_30) (fun _ h9 => h9) rfl dX1_copyBy_6 ?_
    refine lv_icmp_ge (tgt := 39) hx hb dX1_copyBy_9 (by decide) (fun c_2 => ?_) (fun c_2 => ?_)
    · have hB := ifP c_2 hB
      refine lv_iconst (v := -1) hx hb dX1_copyBy_39 (by decide) ?_
      have hK := leafK hB hK
      have hK : (-1 : Int32) = R0 := hK
      subst hK
      exact W.iret (v := (-1 : Int32)) hx hb hr (fun t ht hW => ⟨_, rfl, rfl, ht⟩) (fun _ h => by cases h) dX1_copyBy_40
    · have hB := ifN c_2 hB
      refine lv_iload_n hx hb dX1_copyBy_12 rfl (lv_at hl 2 rfl) ?_
      refine lv_if_lt (tgt := 39) hx hb dX1_copyBy_13 (by decide) (fun c_3 => ?_) (fun c_3 => ?_)
      · have hB := ifP c_3 hB
        refine lv_iconst (v := -1) hx hb dX1_copyBy_39 (by decide) ?_
        have hK := leafK hB hK
        have hK : (-1 : Int32) = R0 := hK
        subst hK
        exact W.iret (v := (-1 : Int32)) hx hb hr (fun t ht hW => ⟨_, rfl, rfl, ht⟩) (fun _ h => by cases h) dX1_copyBy_40
      · have hB := ifN c_3 hB
        refine lv_iload_n hx hb dX1_copyBy_16 rfl (lv_at hl 2 rfl) ?_
        refine lv_aload_n hx hb dX1_copyBy_17 rfl (lv_at hl 0 rfl) ?_
        refine va_get (D := G) (ci := 1) (v := .int v_t_books) (C := RX1) (T := TX1) (N := 3) hx hb hg inX1 hown hKT hP 0 rfl rfl 2 (by decide) (hg _ gF_X1_15) (fun _ h9 => h9) rfl dX1_copyBy_18 ?_
        refine lv_icmp_ge (tgt := 39) hx hb dX1_copyBy_21 (by decide) (fun c_4 => ?_) (fun c_4 => ?_)
        · have hB := ifP c_4 hB
          refine lv_iconst (v := -1) hx hb dX1_copyBy_39 (by decide) ?_
          have hK := leafK hB hK
          have hK : (-1 : Int32) = R0 := hK
          subst hK
          exact W.iret (v := (-1 : Int32)) hx hb hr (fun t ht hW => ⟨_, rfl, rfl, ht⟩) (fun _ h => by cases h) dX1_copyBy_40
        · have hB := ifN c_4 hB
          refine lv_aload_n hx hb dX1_copyBy_24 rfl (lv_at hl 0 rfl) ?_
          refine va_get (D := G) (ci := 1) (v := .ref a_t_made) (C := RX1) (T := TX1) (N := 3) hx hb hg inX1 hown hKT hP 0 rfl rfl 0 (by decide) (hg _ gF_X1_9) (fun _ h9 => h9) rfl dX1_copyBy_25 ?_
          refine lv_iload_n hx hb dX1_copyBy_28 rfl (lv_at hl 1 rfl) ?_
          refine lv_sipush (v := 625) hx hb dX1_copyBy_29 (by decide) ?_
          refine lv_imul hx hb dX1_copyBy_32 ?_
          refine lv_iload_n hx hb dX1_copyBy_33 rfl (lv_at hl 2 rfl) ?_
          refine lv_iadd hx hb dX1_copyBy_34 ?_
          obtain ⟨h_5, hB⟩ := ifS hB
          refine va_iald hx hb hKT hP 1 0 rfl rfl h_5 dX1_copyBy_35 ?_
          refine lv_goto (tgt := 40) hx hb dX1_copyBy_36 (by decide) ?_
          have hK := leafK hB hK
          have hK : (g_t_made ((p1 * (625 : Int32)) + p2).toNatClampNeg) = R0 := hK
          subst hK
          exact W.iret (v := g_t_made ((p1 * (625 : Int32)) + p2).toNatClampNeg) hx hb hr (fun t ht hW => ⟨_, rfl, rfl, ht⟩) (fun _ h => by cases h) dX1_copyBy_40
