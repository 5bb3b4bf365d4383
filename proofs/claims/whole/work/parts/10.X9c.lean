def wd_X9_put (cs : Nat → ClassId) (a_t a_t_text a_t_opinions a_t_lines a_t_draftBook a_t_scribes a_t_turn a_t_bent a_t_need a_t_now a_t_isKept a_t_far a_t_marginOf a_t_marginSays : Nat) (v_t_trace : Int64) (v_t_typed : Int32) (v_t_needTold : Int32) (v_t_at : Int32) (v_t_start : Int32) (v_t_sort : Int32) (v_t_value : Int32) (v_t_fault : Int32) (v_t_target : Int32) (v_t_went : Int32) (v_t_ender : Int32) (v_t_had : Int32) (v_t_margins : Int32) (g_t_opinions : Nat → Int32) (g_t_lines : Nat → Int32) : va_W := [(a_t, .inr (9, [.long v_t_trace, .ref a_t_text, .int v_t_typed, .ref a_t_opinions, .ref a_t_lines, .ref a_t_draftBook, .ref a_t_scribes, .ref a_t_turn, .ref a_t_bent, .ref a_t_need, .int v_t_needTold, .int v_t_at, .int v_t_start, .int v_t_sort, .int v_t_value, .int v_t_fault, .ref a_t_now, .ref a_t_isKept, .int v_t_target, .int v_t_went, .int v_t_ender, .int v_t_had, .ref a_t_far, .ref a_t_marginOf, .ref a_t_marginSays, .int v_t_margins])), (a_t_opinions, .inl (cs 0, 2, .inl g_t_opinions)), (a_t_lines, .inl (cs 0, 2, .inl g_t_lines))]
def rm_X9_put : Room := { frames := 1, cells := 0, slots := 0, locals := 24 }
theorem mI_X9_put : MI yX9_put RX9 cX9_put 6 (some .int) 3 := ⟨gI_X9_put, gE_X9_put, gN_X9, gC_X9_put, by decide +kernel⟩
set_option maxHeartbeats 4000000 in
set_option maxRecDepth 100000 in
theorem k_X9_put (l : Launch) (G : va_G) (cs : Nat → ClassId) (a_t a_t_text a_t_opinions a_t_lines a_t_draftBook a_t_scribes a_t_turn a_t_bent a_t_need a_t_now a_t_isKept a_t_far a_t_marginOf a_t_marginSays : Nat) (v_t_trace : Int64) (v_t_typed : Int32) (v_t_needTold : Int32) (v_t_at : Int32) (v_t_start : Int32) (v_t_sort : Int32) (v_t_value : Int32) (v_t_fault : Int32) (v_t_target : Int32) (v_t_went : Int32) (v_t_ender : Int32) (v_t_had : Int32) (v_t_margins : Int32) (g_t_opinions : Nat → Int32) (g_t_lines : Nat → Int32) (p1 p2 p3 : Int32) (R0 : Int32) (hB : f_X9_put g_t_opinions g_t_lines p1 p2 p3 = some R0) : Met l yX9_put (.code yX9_put cX9_put 6 (some .int) :: GW) rm_X9_put (PcR G cs [.ref a_t, .int p1, .int p2, .int p3] (wd_X9_put cs a_t a_t_text a_t_opinions a_t_lines a_t_draftBook a_t_scribes a_t_turn a_t_bent a_t_need a_t_now a_t_isKept a_t_far a_t_marginOf a_t_marginSays v_t_trace v_t_typed v_t_needTold v_t_at v_t_start v_t_sort v_t_value v_t_fault v_t_target v_t_went v_t_ender v_t_had v_t_margins g_t_opinions g_t_lines)) (vp_Si (fun r => r = R0)) 0 0 (fun _ => False) := by
  refine Met.ofW (cc := cX9_put) (maxL := 6) (ret := (some .int)) (by decide) rfl ?_
  intro p e s m args below meth c s₁ B hml hv
  obtain ⟨rfl, hP, hK, hN⟩ := hv
  have hx := B.exec
  have hb := B.bytes
  have hr := B.returns
  have hts := atoms_spec (ws := .code yX9_put cX9_put 6 (some .int) :: GW) B.pre
  have hg : ∀ w ∈ GW, w.before _ s = true := fun w h => hts w (List.mem_cons_of_mem _ h)
  have hown : s.vm.findClass RX9 = some m.cls := findClass_of_methodNamed B.named
  have hlocks := B.notSynchronized
  have hl := lv_entry ([.ref a_t, .int p1, .int p2, .int p3]) (n := 6) (Nat.le_of_ble_eq_true rfl)
  rw [lg_entry_eq]
  generalize (lg_sl ([.ref a_t, .int p1, .int p2, .int p3]) ++ List.replicate (6 - (lg_sl ([.ref a_t, .int p1, .int p2, .int p3])).length) Slot.unset).toArray = ls at hl ⊢
  have hl : lv_has ls 6 [(0, .ref a_t), (1, .int p1), (2, .int p2), (3, .int p3)] := hl
  obtain ⟨y, hB, hK0⟩ : ∃ y, f_X9_put g_t_opinions g_t_lines p1 p2 p3 = some y ∧ KEnd R0 y := ⟨R0, hB, rfl⟩
  have hKT := hK
  have hK := hK0
  show W p l e rm_X9_put s m ([.ref a_t, .int p1, .int p2, .int p3] : List Value).toArray below meth c s.heap [] 0 0 (MQ below (vp_Si (fun r => r = R0)) ([.ref a_t, .int p1, .int p2, .int p3] : List Value).toArray s 0 0 (fun _ => False)) (F0 m 0 ls [])
  refine lv_iconst (v := 0) hx hb dX9_put_0 (by decide) ?_
  refine lv_istore (lv' := [(4, .int (0 : Int32)), (0, .ref a_t), (1, .int p1), (2, .int p2), (3, .int p3)]) hx hb dX9_put_1 hl (by decide) rfl (fun ls hl => ?_)
  refine lv_iconst (v := 0) hx hb dX9_put_3 (by decide) ?_
  refine lv_istore (lv' := [(5, .int (0 : Int32)), (4, .int (0 : Int32)), (0, .ref a_t), (1, .int p1), (2, .int p2), (3, .int p3)]) hx hb dX9_put_4 hl (by decide) rfl (fun ls hl => ?_)
  refine lp_ind (Wh := fun (z1 : Int32 × Int32) => ∀ (ls : Array Slot), lv_has ls 6 [(0, .ref a_t), (1, .int p1), (2, .int p2), (3, .int p3), (4, .int z1.1), (5, .int z1.2)] → W p l e rm_X9_put s m ([.ref a_t, .int p1, .int p2, .int p3] : List Value).toArray below meth c s.heap [] 0 0 (MQ below (vp_Si (fun r => r = R0)) ([.ref a_t, .int p1, .int p2, .int p3] : List Value).toArray s 0 0 (fun _ => False)) (F0 m 6 ls [])) ?_ FU _ _ hB hK ls (lv_sub hl [2, 3, 4, 5, 1, 0] rfl)
  rintro ⟨z1_0, z1_1⟩ y hB hK ls hl
  have hl : lv_has ls 6 [(0, .ref a_t), (1, .int p1), (2, .int p2), (3, .int p3), (4, .int z1_0), (5, .int z1_1)] := hl
  refine lv_iload hx hb dX9_put_6 (lv_at hl 5 rfl) ?_
  refine lv_aload_n hx hb dX9_put_8 rfl (lv_at hl 0 rfl) ?_
  refine va_get (D := G) (ci := 9) (v := .ref a_t_lines) (C := RX9) (T := TX9) (N := 26) hx hb hg inX9 hown hKT hP 0 rfl rfl 4 (by decide) (hg _ gF_X9_17) (fun _ h9 => h9) rfl dX9_put_9 ?_
  refine lv_iconst (v := 0) hx hb dX9_put_12 (by decide) ?_
  refine va_iald hx hb hKT hP 2 0 rfl rfl (vinC (by decide)) dX9_put_13 ?_
  refine lv_icmp_ge (tgt := 52) hx hb dX9_put_14 (by decide) (fun c_2 => ?_) (fun c_2 => ?_)
  · have hB := ifP c_2 hB
    refine lv_iload hx hb dX9_put_52 (lv_at hl 4 rfl) ?_
    have hK := leafK hB hK
    have hK := elimR hK
    have hK : z1_0 = R0 := hK
    subst hK
    exact W.iret (v := z1_0) hx hb hr (fun t ht hW => ⟨_, rfl, rfl, ht⟩) (fun _ h => by cases h) dX9_put_54
  · have hB := ifN c_2 hB
    refine lv_iload hx hb dX9_put_17 (lv_at hl 4 rfl) ?_
    refine lv_aload_n hx hb dX9_put_19 rfl (lv_at hl 0 rfl) ?_
    refine va_get (D := G) (ci := 9) (v := .ref a_t_opinions) (C := RX9) (T := TX9) (N := 26) hx hb hg inX9 hown hKT hP 0 rfl rfl 3 (by decide) (hg _ gF_X9_13) (fun _ h9 => h9) rfl dX9_put_20 ?_
    refine lv_iconst (v := 0) hx hb dX9_put_23 (by decide) ?_
    refine va_iald hx hb hKT hP 1 0 rfl rfl (vinC (by decide)) dX9_put_24 ?_
    refine lv_imul hx hb dX9_put_25 ?_
    refine lv_iload hx hb dX9_put_26 (lv_at hl 5 rfl) ?_
    refine lv_iload_n hx hb dX9_put_28 rfl (lv_at hl 2 rfl) ?_
    refine lv_icmp_ne (tgt := 36) hx hb dX9_put_29 (by decide) (fun c_3 => ?_) (fun c_3 => ?_)
    · have hB := ifN c_3 hB
      refine lv_aload_n hx hb dX9_put_36 rfl (lv_at hl 0 rfl) ?_
      refine lv_iload_n hx hb dX9_put_37 rfl (lv_at hl 1 rfl) ?_
      refine lv_iload hx hb dX9_put_38 (lv_at hl 5 rfl) ?_
      obtain ⟨q4, hq4, hB⟩ := bnd hB
      refine kr_V (WC := wd_X9_lineOf cs a_t a_t_text a_t_opinions a_t_lines a_t_draftBook a_t_scribes a_t_turn a_t_bent a_t_need a_t_now a_t_isKept a_t_far a_t_marginOf a_t_marginSays v_t_trace v_t_typed v_t_needTold v_t_at v_t_start v_t_sort v_t_value v_t_fault v_t_target v_t_went v_t_ender v_t_had v_t_margins g_t_opinions g_t_lines) (As := [.int p1, .int z1_1]) (rest := [.int (z1_0 * (g_t_opinions (0 : Int32).toNatClampNeg))]) (r0 := q4) ⟨hx, hb, hml, hown, hg⟩ (k_X9_lineOf l G cs a_t a_t_text a_t_opinions a_t_lines a_t_draftBook a_t_scribes a_t_turn a_t_bent a_t_need a_t_now a_t_isKept a_t_far a_t_marginOf a_t_marginSays v_t_trace v_t_typed v_t_needTold v_t_at v_t_start v_t_sort v_t_value v_t_fault v_t_target v_t_went v_t_ender v_t_had v_t_margins g_t_opinions g_t_lines p1 z1_1 q4 hq4) gM_X9_113 mI_X9_lineOf (rmk rfl) hP hKT hN 0 rfl rfl [0, 1, 2] rfl rfl hl.1 rfl (Nat.le_of_ble_eq_true rfl) dX9_put_40 ?_
      refine lv_iadd hx hb dX9_put_43 ?_
      refine lv_istore (lv' := [(4, .int ((z1_0 * (g_t_opinions (0 : Int32).toNatClampNeg)) + q4)), (0, .ref a_t), (1, .int p1), (2, .int p2), (3, .int p3), (5, .int z1_1)]) hx hb dX9_put_44 hl (by decide) rfl (fun ls hl => ?_)
      refine lv_iinc (v := z1_1 + (1 : Int32)) (lv' := [(5, .int (z1_1 + (1 : Int32))), (4, .int ((z1_0 * (g_t_opinions (0 : Int32).toNatClampNeg)) + q4)), (0, .ref a_t), (1, .int p1), (2, .int p2), (3, .int p3)]) hx hb dX9_put_46 hl (k := 5) rfl (inc_ok (by decide)) (by decide) rfl (fun ls hl => ?_)
      refine lv_goto (tgt := 6) hx hb dX9_put_49 (by decide) ?_
      have hK := leafK hB hK
      have hK := elimL hK
      exact hK ls (lv_sub hl [2, 3, 4, 5, 1, 0] rfl)
    · have hB := ifP c_3 hB
      refine lv_iload_n hx hb dX9_put_32 rfl (lv_at hl 3 rfl) ?_
      refine lv_goto (tgt := 43) hx hb dX9_put_33 (by decide) ?_
      refine lv_iadd hx hb dX9_put_43 ?_
      refine lv_istore (lv' := [(4, .int ((z1_0 * (g_t_opinions (0 : Int32).toNatClampNeg)) + p3)), (0, .ref a_t), (1, .int p1), (2, .int p2), (3, .int p3), (5, .int z1_1)]) hx hb dX9_put_44 hl (by decide) rfl (fun ls hl => ?_)
      refine lv_iinc (v := z1_1 + (1 : Int32)) (lv' := [(5, .int (z1_1 + (1 : Int32))), (4, .int ((z1_0 * (g_t_opinions (0 : Int32).toNatClampNeg)) + p3)), (0, .ref a_t), (1, .int p1), (2, .int p2), (3, .int p3)]) hx hb dX9_put_46 hl (k := 5) rfl (inc_ok (by decide)) (by decide) rfl (fun ls hl => ?_)
      refine lv_goto (tgt := 6) hx hb dX9_put_49 (by decide) ?_
      have hK := leafK hB hK
      have hK := elimL hK
      exact hK ls (lv_sub hl [2, 3, 4, 5, 1, 0] rfl)
def wd_X9_errs (cs : Nat → ClassId) (a_t a_t_text a_t_opinions a_t_lines a_t_draftBook a_t_scribes a_t_turn a_t_bent a_t_need a_t_now a_t_isKept a_t_far a_t_marginOf a_t_marginSays : Nat) (v_t_trace : Int64) (v_t_typed : Int32) (v_t_needTold : Int32) (v_t_at : Int32) (v_t_start : Int32) (v_t_sort : Int32) (v_t_value : Int32) (v_t_fault : Int32) (v_t_target : Int32) (v_t_went : Int32) (v_t_ender : Int32) (v_t_had : Int32) (v_t_margins : Int32) (g_t_opinions : Nat → Int32) (g_t_lines : Nat → Int32) (g_t_now : Nat → Int32) : va_W := [(a_t, .inr (9, [.long v_t_trace, .ref a_t_text, .int v_t_typed, .ref a_t_opinions, .ref a_t_lines, .ref a_t_draftBook, .ref a_t_scribes, .ref a_t_turn, .ref a_t_bent, .ref a_t_need, .int v_t_needTold, .int v_t_at, .int v_t_start, .int v_t_sort, .int v_t_value, .int v_t_fault, .ref a_t_now, .ref a_t_isKept, .int v_t_target, .int v_t_went, .int v_t_ender, .int v_t_had, .ref a_t_far, .ref a_t_marginOf, .ref a_t_marginSays, .int v_t_margins])), (a_t_opinions, .inl (cs 0, 2, .inl g_t_opinions)), (a_t_lines, .inl (cs 0, 2, .inl g_t_lines)), (a_t_now, .inl (cs 0, 300, .inl g_t_now))]
def rm_X9_errs : Room := { frames := 2, cells := 0, slots := 0, locals := 49 }
theorem mI_X9_errs : MI yX9_errs RX9 cX9_errs 4 (some .int) 2 := ⟨gI_X9_errs, gE_X9_errs, gN_X9, gC_X9_errs, by decide +kernel⟩
set_option maxHeartbeats 4000000 in
set_option maxRecDepth 100000 in
theorem k_X9_errs (l : Launch) (G : va_G) (cs : Nat → ClassId) (a_t a_t_text a_t_opinions a_t_lines a_t_draftBook a_t_scribes a_t_turn a_t_bent a_t_need a_t_now a_t_isKept a_t_far a_t_marginOf a_t_marginSays : Nat) (v_t_trace : Int64) (v_t_typed : Int32) (v_t_needTold : Int32) (v_t_at : Int32) (v_t_start : Int32) (v_t_sort : Int32) (v_t_value : Int32) (v_t_fault : Int32) (v_t_target : Int32) (v_t_went : Int32) (v_t_ender : Int32) (v_t_had : Int32) (v_t_margins : Int32) (g_t_opinions : Nat → Int32) (g_t_lines : Nat → Int32) (g_t_now : Nat → Int32) (p1 p2 : Int32) (sz : Nat) (R0 : Int32 × (Nat → Int32)) (hB : f_X9_errs g_t_opinions g_t_lines g_t_now p1 p2 = some R0) : Met l yX9_errs (.code yX9_errs cX9_errs 4 (some .int) :: GW) rm_X9_errs (PcW G cs [.ref a_t, .int p1, .int p2] (wd_X9_errs cs a_t a_t_text a_t_opinions a_t_lines a_t_draftBook a_t_scribes a_t_turn a_t_bent a_t_need a_t_now a_t_isKept a_t_far a_t_marginOf a_t_marginSays v_t_trace v_t_typed v_t_needTold v_t_at v_t_start v_t_sort v_t_value v_t_fault v_t_target v_t_went v_t_ender v_t_had v_t_margins g_t_opinions g_t_lines g_t_now) sz) (QcI G (va_A (wd_X9_errs cs a_t a_t_text a_t_opinions a_t_lines a_t_draftBook a_t_scribes a_t_turn a_t_bent a_t_need a_t_now a_t_isKept a_t_far a_t_marginOf a_t_marginSays v_t_trace v_t_typed v_t_needTold v_t_at v_t_start v_t_sort v_t_value v_t_fault v_t_target v_t_went v_t_ender v_t_had v_t_margins g_t_opinions g_t_lines g_t_now) sz) (wd_X9_errs cs a_t a_t_text a_t_opinions a_t_lines a_t_draftBook a_t_scribes a_t_turn a_t_bent a_t_need a_t_now a_t_isKept a_t_far a_t_marginOf a_t_marginSays v_t_trace v_t_typed v_t_needTold v_t_at v_t_start v_t_sort v_t_value v_t_fault v_t_target v_t_went v_t_ender v_t_had v_t_margins g_t_opinions g_t_lines R0.2) R0.1) 0 0 (va_A (wd_X9_errs cs a_t a_t_text a_t_opinions a_t_lines a_t_draftBook a_t_scribes a_t_turn a_t_bent a_t_need a_t_now a_t_isKept a_t_far a_t_marginOf a_t_marginSays v_t_trace v_t_typed v_t_needTold v_t_at v_t_start v_t_sort v_t_value v_t_fault v_t_target v_t_went v_t_ender v_t_had v_t_margins g_t_opinions g_t_lines g_t_now) sz) := by
  refine Met.ofW (cc := cX9_errs) (maxL := 4) (ret := (some .int)) (by decide) rfl ?_
  intro p e s m args below meth c s₁ B hml hv
  obtain ⟨rfl, hsz, hP, hD0, hK, hN⟩ := hv
  have hx := B.exec
  have hb := B.bytes
  have hr := B.returns
  have hts := atoms_spec (ws := .code yX9_errs cX9_errs 4 (some .int) :: GW) B.pre
  have hg : ∀ w ∈ GW, w.before _ s = true := fun w h => hts w (List.mem_cons_of_mem _ h)
  have hown : s.vm.findClass RX9 = some m.cls := findClass_of_methodNamed B.named
  have hlocks := B.notSynchronized
  subst hsz
  have hD := hD0.self (sz := s.heap.size)
  generalize hAe : va_A (wd_X9_errs cs a_t a_t_text a_t_opinions a_t_lines a_t_draftBook a_t_scribes a_t_turn a_t_bent a_t_need a_t_now a_t_isKept a_t_far a_t_marginOf a_t_marginSays v_t_trace v_t_typed v_t_needTold v_t_at v_t_start v_t_sort v_t_value v_t_fault v_t_target v_t_went v_t_ender v_t_had v_t_margins g_t_opinions g_t_lines g_t_now) s.heap.size = A at hD ⊢
  have hA : ∀ q : Nat, s.heap.size ≤ q → A q := fun q h => by rw [← hAe]; exact Or.inr h
  have hS : va_S A s.heap s.heap [] := va_S.rf
  have hl := lv_entry ([.ref a_t, .int p1, .int p2]) (n := 4) (Nat.le_of_ble_eq_true rfl)
  rw [lg_entry_eq]
  generalize (lg_sl ([.ref a_t, .int p1, .int p2]) ++ List.replicate (4 - (lg_sl ([.ref a_t, .int p1, .int p2])).length) Slot.unset).toArray = ls at hl ⊢
  have hl : lv_has ls 4 [(0, .ref a_t), (1, .int p1), (2, .int p2)] := hl
  obtain ⟨y, hB, hK0⟩ : ∃ y, f_X9_errs g_t_opinions g_t_lines g_t_now p1 p2 = some y ∧ KEnd R0 y := ⟨R0, hB, rfl⟩
  have hKT := hK
  have hK := hK0
  obtain ⟨H, hHe⟩ : ∃ H, H = s.heap := ⟨_, rfl⟩
  obtain ⟨locs, hLe⟩ : ∃ L : List Loc, L = [] := ⟨_, rfl⟩
  rw [← hHe] at hP
  have hS : va_S A s.heap H locs := by rw [hHe, hLe]; exact hS
  show W p l e rm_X9_errs s m ([.ref a_t, .int p1, .int p2] : List Value).toArray below meth c s.heap [] 0 0 _ _
  suffices hgo : W p l e rm_X9_errs s m ([.ref a_t, .int p1, .int p2] : List Value).toArray below meth c H locs 0 0 (MQ below (QcI G A (wd_X9_errs cs a_t a_t_text a_t_opinions a_t_lines a_t_draftBook a_t_scribes a_t_turn a_t_bent a_t_need a_t_now a_t_isKept a_t_far a_t_marginOf a_t_marginSays v_t_trace v_t_typed v_t_needTold v_t_at v_t_start v_t_sort v_t_value v_t_fault v_t_target v_t_went v_t_ender v_t_had v_t_margins g_t_opinions g_t_lines R0.2) R0.1) ([.ref a_t, .int p1, .int p2] : List Value).toArray s 0 0 A) (F0 m 0 ls []) by rw [hHe, hLe] at hgo; exact hgo
  refine lv_aload_n hx hb dX9_errs_0 rfl (lv_at hl 0 rfl) ?_
  refine lv_iload_n hx hb dX9_errs_1 rfl (lv_at hl 1 rfl) ?_
  obtain ⟨q1, hq1, hB⟩ := bnd hB
  refine kr_V (WC := wd_X9_isLine cs a_t a_t_text a_t_opinions a_t_lines a_t_draftBook a_t_scribes a_t_turn a_t_bent a_t_need a_t_now a_t_isKept a_t_far a_t_marginOf a_t_marginSays v_t_trace v_t_typed v_t_needTold v_t_at v_t_start v_t_sort v_t_value v_t_fault v_t_target v_t_went v_t_ender v_t_had v_t_margins g_t_lines) (As := [.int p1]) (rest := []) (r0 := q1) ⟨hx, hb, hml, hown, hg⟩ (k_X9_isLine l G cs a_t a_t_text a_t_opinions a_t_lines a_t_draftBook a_t_scribes a_t_turn a_t_bent a_t_need a_t_now a_t_isKept a_t_far a_t_marginOf a_t_marginSays v_t_trace v_t_typed v_t_needTold v_t_at v_t_start v_t_sort v_t_value v_t_fault v_t_target v_t_went v_t_ender v_t_had v_t_margins g_t_lines p1 q1 hq1) gM_X9_129 mI_X9_isLine (rmk rfl) hP hKT hN 0 rfl rfl [0, 2] rfl rfl hl.1 rfl (Nat.le_of_ble_eq_true rfl) dX9_errs_2 ?_
  refine lv_if_eq (tgt := 16) hx hb dX9_errs_5 (by decide) (fun c_2 => ?_) (fun c_2 => ?_)
  · have hB := ifP c_2 hB
    refine lv_iconst (v := -1) hx hb dX9_errs_16 (by decide) ?_
    have hK := leafK hB hK
    have hK : ((-1 : Int32), g_t_now) = R0 := hK
    subst hK
    exact W.iret (v := (-1 : Int32)) hx hb hr (fun t ht hW => ⟨⟨_, (), rfl, rfl, by rw [ht]; exact hP, hD⟩, hS.F ht⟩) hS.2.2 dX9_errs_17
  · have hB := ifN c_2 hB
    refine lv_aload_n hx hb dX9_errs_8 rfl (lv_at hl 0 rfl) ?_
    refine lv_iload_n hx hb dX9_errs_9 rfl (lv_at hl 2 rfl) ?_
    obtain ⟨q3, hq3, hB⟩ := bnd hB
    refine kr_V (WC := wd_X9_isOpinion cs a_t a_t_text a_t_opinions a_t_lines a_t_draftBook a_t_scribes a_t_turn a_t_bent a_t_need a_t_now a_t_isKept a_t_far a_t_marginOf a_t_marginSays v_t_trace v_t_typed v_t_needTold v_t_at v_t_start v_t_sort v_t_value v_t_fault v_t_target v_t_went v_t_ender v_t_had v_t_margins g_t_opinions) (As := [.int p2]) (rest := []) (r0 := q3) ⟨hx, hb, hml, hown, hg⟩ (k_X9_isOpinion l G cs a_t a_t_text a_t_opinions a_t_lines a_t_draftBook a_t_scribes a_t_turn a_t_bent a_t_need a_t_now a_t_isKept a_t_far a_t_marginOf a_t_marginSays v_t_trace v_t_typed v_t_needTold v_t_at v_t_start v_t_sort v_t_value v_t_fault v_t_target v_t_went v_t_ender v_t_had v_t_margins g_t_opinions p2 q3 hq3) gM_X9_142 mI_X9_isOpinion (rmk rfl) hP hKT hN 0 rfl rfl [0, 1] rfl rfl hl.1 rfl (Nat.le_of_ble_eq_true rfl) dX9_errs_10 ?_
    refine lv_if_ne (tgt := 18) hx hb dX9_errs_13 (by decide) (fun c_4 => ?_) (fun c_4 => ?_)
    · have hB := ifN c_4 hB
      refine lv_aload_n hx hb dX9_errs_18 rfl (lv_at hl 0 rfl) ?_
      refine lv_aload_n hx hb dX9_errs_19 rfl (lv_at hl 0 rfl) ?_
      refine va_get (D := G) (ci := 9) (v := .ref a_t_now) (C := RX9) (T := TX9) (N := 26) hx hb hg inX9 hown hKT hP 0 rfl rfl 16 (by decide) (hg _ gF_X9_35) (fun _ h9 => h9) rfl dX9_errs_20 ?_
      refine lv_iconst (v := 0) hx hb dX9_errs_23 (by decide) ?_
      refine va_iald hx hb hKT hP 3 0 rfl rfl (vinC (by decide)) dX9_errs_24 ?_
      refine lv_iload_n hx hb dX9_errs_25 rfl (lv_at hl 1 rfl) ?_
      obtain ⟨q5, hq5, hB⟩ := bnd hB
      refine kr_V (WC := wd_X9_lineOf cs a_t a_t_text a_t_opinions a_t_lines a_t_draftBook a_t_scribes a_t_turn a_t_bent a_t_need a_t_now a_t_isKept a_t_far a_t_marginOf a_t_marginSays v_t_trace v_t_typed v_t_needTold v_t_at v_t_start v_t_sort v_t_value v_t_fault v_t_target v_t_went v_t_ender v_t_had v_t_margins g_t_opinions g_t_lines) (As := [.int (g_t_now (0 : Int32).toNatClampNeg), .int p1]) (rest := []) (r0 := q5) ⟨hx, hb, hml, hown, hg⟩ (k_X9_lineOf l G cs a_t a_t_text a_t_opinions a_t_lines a_t_draftBook a_t_scribes a_t_turn a_t_bent a_t_need a_t_now a_t_isKept a_t_far a_t_marginOf a_t_marginSays v_t_trace v_t_typed v_t_needTold v_t_at v_t_start v_t_sort v_t_value v_t_fault v_t_target v_t_went v_t_ender v_t_had v_t_margins g_t_opinions g_t_lines (g_t_now (0 : Int32).toNatClampNeg) p1 q5 hq5) gM_X9_113 mI_X9_lineOf (rmk rfl) hP hKT hN 0 rfl rfl [0, 1, 2] rfl rfl hl.1 rfl (Nat.le_of_ble_eq_true rfl) dX9_errs_26 ?_
      refine lv_istore_n (lv' := [(3, .int q5), (0, .ref a_t), (1, .int p1), (2, .int p2)]) hx hb dX9_errs_29 rfl hl (by decide) rfl (fun ls hl => ?_)
      refine lv_iload_n hx hb dX9_errs_30 rfl (lv_at hl 0 rfl) ?_
      refine lv_iload_n hx hb dX9_errs_31 rfl (lv_at hl 3 rfl) ?_
      refine lv_icmp_ne (tgt := 38) hx hb dX9_errs_32 (by decide) (fun c_6 => ?_) (fun c_6 => ?_)
      · have hB := ifN c_6 hB
        refine lv_aload_n hx hb dX9_errs_38 rfl (lv_at hl 1 rfl) ?_
        obtain ⟨q7, hq7, hB⟩ := bnd hB
        refine kw_v (WC := wd_X9_know cs a_t a_t_text a_t_opinions a_t_lines a_t_draftBook a_t_scribes a_t_turn a_t_bent a_t_need a_t_now a_t_isKept a_t_far a_t_marginOf a_t_marginSays v_t_trace v_t_typed v_t_needTold v_t_at v_t_start v_t_sort v_t_value v_t_fault v_t_target v_t_went v_t_ender v_t_had v_t_margins g_t_now) (W1 := wd_X9_know cs a_t a_t_text a_t_opinions a_t_lines a_t_draftBook a_t_scribes a_t_turn a_t_bent a_t_need a_t_now a_t_isKept a_t_far a_t_marginOf a_t_marginSays v_t_trace v_t_typed v_t_needTold v_t_at v_t_start v_t_sort v_t_value v_t_fault v_t_target v_t_went v_t_ender v_t_had v_t_margins q7) (W2 := wd_X9_errs cs a_t a_t_text a_t_opinions a_t_lines a_t_draftBook a_t_scribes a_t_turn a_t_bent a_t_need a_t_now a_t_isKept a_t_far a_t_marginOf a_t_marginSays v_t_trace v_t_typed v_t_needTold v_t_at v_t_start v_t_sort v_t_value v_t_fault v_t_target v_t_went v_t_ender v_t_had v_t_margins g_t_opinions g_t_lines q7) (rw_V (As := []) (rest := []) ⟨hx, hb, hml, hown, hg⟩ (k_X9_know l G cs a_t a_t_text a_t_opinions a_t_lines a_t_draftBook a_t_scribes a_t_turn a_t_bent a_t_need a_t_now a_t_isKept a_t_far a_t_marginOf a_t_marginSays v_t_trace v_t_typed v_t_needTold v_t_at v_t_start v_t_sort v_t_value v_t_fault v_t_target v_t_went v_t_ender v_t_had v_t_margins g_t_now H.size q7 hq7) gM_X9_145 mI_X9_know (rmk rfl) hP hD hKT hN 0 rfl rfl [0, 3] rfl rfl rfl hl.1 rfl (Nat.le_of_ble_eq_true rfl) dX9_errs_39) hP hD hS hA [0, 3] [1, 2] [2, 0, 1, 3] ⟨rfl, rfl, rfl, rfl, rfl, rfl, rfl⟩ (fun H locs hP hD hS => ?_)
        refine lv_aload_n hx hb dX9_errs_42 rfl (lv_at hl 1 rfl) ?_
        refine va_get (D := G) (ci := 9) (v := .ref a_t_now) (C := RX9) (T := TX9) (N := 26) hx hb hg inX9 hown hKT hP 0 rfl rfl 16 (by decide) (hg _ gF_X9_35) (fun _ h9 => h9) rfl dX9_errs_43 ?_
        refine lv_iconst (v := 0) hx hb dX9_errs_46 (by decide) ?_
        refine lv_aload_n hx hb dX9_errs_47 rfl (lv_at hl 1 rfl) ?_
        refine lv_aload_n hx hb dX9_errs_48 rfl (lv_at hl 1 rfl) ?_
        refine va_get (D := G) (ci := 9) (v := .ref a_t_now) (C := RX9) (T := TX9) (N := 26) hx hb hg inX9 hown hKT hP 0 rfl rfl 16 (by decide) (hg _ gF_X9_35) (fun _ h9 => h9) rfl dX9_errs_49 ?_
        refine lv_iconst (v := 0) hx hb dX9_errs_52 (by decide) ?_
        refine va_iald hx hb hKT hP 3 0 rfl rfl (vinC (by decide)) dX9_errs_53 ?_
        refine lv_iload_n hx hb dX9_errs_54 rfl (lv_at hl 2 rfl) ?_
        refine lv_iload_n hx hb dX9_errs_55 rfl (lv_at hl 3 rfl) ?_
        obtain ⟨q8, hq8, hB⟩ := bnd hB
        refine kr_V (WC := wd_X9_put cs a_t a_t_text a_t_opinions a_t_lines a_t_draftBook a_t_scribes a_t_turn a_t_bent a_t_need a_t_now a_t_isKept a_t_far a_t_marginOf a_t_marginSays v_t_trace v_t_typed v_t_needTold v_t_at v_t_start v_t_sort v_t_value v_t_fault v_t_target v_t_went v_t_ender v_t_had v_t_margins g_t_opinions g_t_lines) (As := [.int (q7 (0 : Int32).toNatClampNeg), .int p1, .int p2]) (rest := [.int (0 : Int32), .ref a_t_now]) (r0 := q8) ⟨hx, hb, hml, hown, hg⟩ (k_X9_put l G cs a_t a_t_text a_t_opinions a_t_lines a_t_draftBook a_t_scribes a_t_turn a_t_bent a_t_need a_t_now a_t_isKept a_t_far a_t_marginOf a_t_marginSays v_t_trace v_t_typed v_t_needTold v_t_at v_t_start v_t_sort v_t_value v_t_fault v_t_target v_t_went v_t_ender v_t_had v_t_margins g_t_opinions g_t_lines (q7 (0 : Int32).toNatClampNeg) p1 p2 q8 hq8) gM_X9_148 mI_X9_put (rmk rfl) hP hKT hN 0 rfl rfl [0, 1, 2] rfl rfl hl.1 rfl (Nat.le_of_ble_eq_true rfl) dX9_errs_56 ?_
        refine va_iast hx hb hKT hP hD hS 3 0 rfl rfl (vinC (by decide)) dX9_errs_59 (fun H locs hP hD hS => ?_)
        have hP : va_P G vwCl (wd_X9_errs cs a_t a_t_text a_t_opinions a_t_lines a_t_draftBook a_t_scribes a_t_turn a_t_bent a_t_need a_t_now a_t_isKept a_t_far a_t_marginOf a_t_marginSays v_t_trace v_t_typed v_t_needTold v_t_at v_t_start v_t_sort v_t_value v_t_fault v_t_target v_t_went v_t_ender v_t_had v_t_margins g_t_opinions g_t_lines (upd q7 (0 : Int32).toNatClampNeg q8)) H := hP
        have hD : va_D A (wd_X9_errs cs a_t a_t_text a_t_opinions a_t_lines a_t_draftBook a_t_scribes a_t_turn a_t_bent a_t_need a_t_now a_t_isKept a_t_far a_t_marginOf a_t_marginSays v_t_trace v_t_typed v_t_needTold v_t_at v_t_start v_t_sort v_t_value v_t_fault v_t_target v_t_went v_t_ender v_t_had v_t_margins g_t_opinions g_t_lines (upd q7 (0 : Int32).toNatClampNeg q8)) := hD
        refine lv_iload_n hx hb dX9_errs_60 rfl (lv_at hl 0 rfl) ?_
        have hK := leafK hB hK
        have hK : (q5, upd q7 (0 : Int32).toNatClampNeg q8) = R0 := hK
        subst hK
        exact W.iret (v := q5) hx hb hr (fun t ht hW => ⟨⟨_, (), rfl, rfl, by rw [ht]; exact hP, hD⟩, hS.F ht⟩) hS.2.2 dX9_errs_61
      · have hB := ifP c_6 hB
        refine lv_bipush (v := -2) hx hb dX9_errs_35 (by decide) ?_
        have hK := leafK hB hK
        have hK : ((-2 : Int32), g_t_now) = R0 := hK
        subst hK
        exact W.iret (v := (-2 : Int32)) hx hb hr (fun t ht hW => ⟨⟨_, (), rfl, rfl, by rw [ht]; exact hP, hD⟩, hS.F ht⟩) hS.2.2 dX9_errs_37
    · have hB := ifP c_4 hB
      refine lv_iconst (v := -1) hx hb dX9_errs_16 (by decide) ?_
      have hK := leafK hB hK
      have hK : ((-1 : Int32), g_t_now) = R0 := hK
      subst hK
      exact W.iret (v := (-1 : Int32)) hx hb hr (fun t ht hW => ⟨⟨_, (), rfl, rfl, by rw [ht]; exact hP, hD⟩, hS.F ht⟩) hS.2.2 dX9_errs_17
def wd_X9_releases (cs : Nat → ClassId) (a_t a_t_text a_t_opinions a_t_lines a_t_draftBook a_t_scribes a_t_turn a_t_bent a_t_need a_t_now a_t_isKept a_t_far a_t_marginOf a_t_marginSays : Nat) (v_t_trace : Int64) (v_t_typed : Int32) (v_t_needTold : Int32) (v_t_at : Int32) (v_t_start : Int32) (v_t_sort : Int32) (v_t_value : Int32) (v_t_fault : Int32) (v_t_target : Int32) (v_t_went : Int32) (v_t_ender : Int32) (v_t_had : Int32) (v_t_margins : Int32) (g_t_scribes : Nat → Int32) (g_t_now : Nat → Int32) : va_W := [(a_t, .inr (9, [.long v_t_trace, .ref a_t_text, .int v_t_typed, .ref a_t_opinions, .ref a_t_lines, .ref a_t_draftBook, .ref a_t_scribes, .ref a_t_turn, .ref a_t_bent, .ref a_t_need, .int v_t_needTold, .int v_t_at, .int v_t_start, .int v_t_sort, .int v_t_value, .int v_t_fault, .ref a_t_now, .ref a_t_isKept, .int v_t_target, .int v_t_went, .int v_t_ender, .int v_t_had, .ref a_t_far, .ref a_t_marginOf, .ref a_t_marginSays, .int v_t_margins])), (a_t_scribes, .inl (cs 0, 2, .inl g_t_scribes)), (a_t_now, .inl (cs 0, 300, .inl g_t_now))]
def rm_X9_releases : Room := { frames := 2, cells := 0, slots := 0, locals := 43 }
theorem mI_X9_releases : MI yX9_releases RX9 cX9_releases 3 (some .int) 2 := ⟨gI_X9_releases, gE_X9_releases, gN_X9, gC_X9_releases, by decide +kernel⟩
set_option maxHeartbeats 4000000 in
set_option maxRecDepth 100000 in
theorem k_X9_releases (l : Launch) (G : va_G) (cs : Nat → ClassId) (a_t a_t_text a_t_opinions a_t_lines a_t_draftBook a_t_scribes a_t_turn a_t_bent a_t_need a_t_now a_t_isKept a_t_far a_t_marginOf a_t_marginSays : Nat) (v_t_trace : Int64) (v_t_typed : Int32) (v_t_needTold : Int32) (v_t_at : Int32) (v_t_start : Int32) (v_t_sort : Int32) (v_t_value : Int32) (v_t_fault : Int32) (v_t_target : Int32) (v_t_went : Int32) (v_t_ender : Int32) (v_t_had : Int32) (v_t_margins : Int32) (g_t_scribes : Nat → Int32) (g_t_now : Nat → Int32) (p1 p2 : Int32) (sz : Nat) (R0 : Int32 × (Nat → Int32)) (hB : f_X9_releases g_t_scribes g_t_now p1 p2 = some R0) : Met l yX9_releases (.code yX9_releases cX9_releases 3 (some .int) :: GW) rm_X9_releases (PcW G cs [.ref a_t, .int p1, .int p2] (wd_X9_releases cs a_t a_t_text a_t_opinions a_t_lines a_t_draftBook a_t_scribes a_t_turn a_t_bent a_t_need a_t_now a_t_isKept a_t_far a_t_marginOf a_t_marginSays v_t_trace v_t_typed v_t_needTold v_t_at v_t_start v_t_sort v_t_value v_t_fault v_t_target v_t_went v_t_ender v_t_had v_t_margins g_t_scribes g_t_now) sz) (QcI G (va_A (wd_X9_releases cs a_t a_t_text a_t_opinions a_t_lines a_t_draftBook a_t_scribes a_t_turn a_t_bent a_t_need a_t_now a_t_isKept a_t_far a_t_marginOf a_t_marginSays v_t_trace v_t_typed v_t_needTold v_t_at v_t_start v_t_sort v_t_value v_t_fault v_t_target v_t_went v_t_ender v_t_had v_t_margins g_t_scribes g_t_now) sz) (wd_X9_releases cs a_t a_t_text a_t_opinions a_t_lines a_t_draftBook a_t_scribes a_t_turn a_t_bent a_t_need a_t_now a_t_isKept a_t_far a_t_marginOf a_t_marginSays v_t_trace v_t_typed v_t_needTold v_t_at v_t_start v_t_sort v_t_value v_t_fault v_t_target v_t_went v_t_ender v_t_had v_t_margins g_t_scribes R0.2) R0.1) 0 0 (va_A (wd_X9_releases cs a_t a_t_text a_t_opinions a_t_lines a_t_draftBook a_t_scribes a_t_turn a_t_bent a_t_need a_t_now a_t_isKept a_t_far a_t_marginOf a_t_marginSays v_t_trace v_t_typed v_t_needTold v_t_at v_t_start v_t_sort v_t_value v_t_fault v_t_target v_t_went v_t_ender v_t_had v_t_margins g_t_scribes g_t_now) sz) := by
  refine Met.ofW (cc := cX9_releases) (maxL := 3) (ret := (some .int)) (by decide) rfl ?_
  intro p e s m args below meth c s₁ B hml hv
  obtain ⟨rfl, hsz, hP, hD0, hK, hN⟩ := hv
  have hx := B.exec
  have hb := B.bytes
  have hr := B.returns
  have hts := atoms_spec (ws := .code yX9_releases cX9_releases 3 (some .int) :: GW) B.pre
  have hg : ∀ w ∈ GW, w.before _ s = true := fun w h => hts w (List.mem_cons_of_mem _ h)
  have hown : s.vm.findClass RX9 = some m.cls := findClass_of_methodNamed B.named
  have hlocks := B.notSynchronized
  subst hsz
  have hD := hD0.self (sz := s.heap.size)
  generalize hAe : va_A (wd_X9_releases cs a_t a_t_text a_t_opinions a_t_lines a_t_draftBook a_t_scribes a_t_turn a_t_bent a_t_need a_t_now a_t_isKept a_t_far a_t_marginOf a_t_marginSays v_t_trace v_t_typed v_t_needTold v_t_at v_t_start v_t_sort v_t_value v_t_fault v_t_target v_t_went v_t_ender v_t_had v_t_margins g_t_scribes g_t_now) s.heap.size = A at hD ⊢
  have hA : ∀ q : Nat, s.heap.size ≤ q → A q := fun q h => by rw [← hAe]; exact Or.inr h
  have hS : va_S A s.heap s.heap [] := va_S.rf
  have hl := lv_entry ([.ref a_t, .int p1, .int p2]) (n := 3) (Nat.le_of_ble_eq_true rfl)
  rw [lg_entry_eq]
  generalize (lg_sl ([.ref a_t, .int p1, .int p2]) ++ List.replicate (3 - (lg_sl ([.ref a_t, .int p1, .int p2])).length) Slot.unset).toArray = ls at hl ⊢
  have hl : lv_has ls 3 [(0, .ref a_t), (1, .int p1), (2, .int p2)] := hl
  obtain ⟨y, hB, hK0⟩ : ∃ y, f_X9_releases g_t_scribes g_t_now p1 p2 = some y ∧ KEnd R0 y := ⟨R0, hB, rfl⟩
  have hKT := hK
  have hK := hK0
  obtain ⟨H, hHe⟩ : ∃ H, H = s.heap := ⟨_, rfl⟩
  obtain ⟨locs, hLe⟩ : ∃ L : List Loc, L = [] := ⟨_, rfl⟩
  rw [← hHe] at hP
  have hS : va_S A s.heap H locs := by rw [hHe, hLe]; exact hS
  show W p l e rm_X9_releases s m ([.ref a_t, .int p1, .int p2] : List Value).toArray below meth c s.heap [] 0 0 _ _
  suffices hgo : W p l e rm_X9_releases s m ([.ref a_t, .int p1, .int p2] : List Value).toArray below meth c H locs 0 0 (MQ below (QcI G A (wd_X9_releases cs a_t a_t_text a_t_opinions a_t_lines a_t_draftBook a_t_scribes a_t_turn a_t_bent a_t_need a_t_now a_t_isKept a_t_far a_t_marginOf a_t_marginSays v_t_trace v_t_typed v_t_needTold v_t_at v_t_start v_t_sort v_t_value v_t_fault v_t_target v_t_went v_t_ender v_t_had v_t_margins g_t_scribes R0.2) R0.1) ([.ref a_t, .int p1, .int p2] : List Value).toArray s 0 0 A) (F0 m 0 ls []) by rw [hHe, hLe] at hgo; exact hgo
  refine lv_aload_n hx hb dX9_releases_0 rfl (lv_at hl 0 rfl) ?_
  refine lv_iload_n hx hb dX9_releases_1 rfl (lv_at hl 1 rfl) ?_
  obtain ⟨q1, hq1, hB⟩ := bnd hB
  refine kr_V (WC := wd_X9_isScribe cs a_t a_t_text a_t_opinions a_t_lines a_t_draftBook a_t_scribes a_t_turn a_t_bent a_t_need a_t_now a_t_isKept a_t_far a_t_marginOf a_t_marginSays v_t_trace v_t_typed v_t_needTold v_t_at v_t_start v_t_sort v_t_value v_t_fault v_t_target v_t_went v_t_ender v_t_had v_t_margins g_t_scribes) (As := [.int p1]) (rest := []) (r0 := q1) ⟨hx, hb, hml, hown, hg⟩ (k_X9_isScribe l G cs a_t a_t_text a_t_opinions a_t_lines a_t_draftBook a_t_scribes a_t_turn a_t_bent a_t_need a_t_now a_t_isKept a_t_far a_t_marginOf a_t_marginSays v_t_trace v_t_typed v_t_needTold v_t_at v_t_start v_t_sort v_t_value v_t_fault v_t_target v_t_went v_t_ender v_t_had v_t_margins g_t_scribes p1 q1 hq1) gM_X9_133 mI_X9_isScribe (rmk rfl) hP hKT hN 0 rfl rfl [0, 1] rfl rfl hl.1 rfl (Nat.le_of_ble_eq_true rfl) dX9_releases_2 ?_
  refine lv_if_eq (tgt := 17) hx hb dX9_releases_5 (by decide) (fun c_2 => ?_) (fun c_2 => ?_)
  · have hB := ifP c_2 hB
    refine lv_iconst (v := -1) hx hb dX9_releases_17 (by decide) ?_
    have hK := leafK hB hK
    have hK : ((-1 : Int32), g_t_now) = R0 := hK
    subst hK
    exact W.iret (v := (-1 : Int32)) hx hb hr (fun t ht hW => ⟨⟨_, (), rfl, rfl, by rw [ht]; exact hP, hD⟩, hS.F ht⟩) hS.2.2 dX9_releases_18
  · have hB := ifN c_2 hB
    refine lv_iload_n hx hb dX9_releases_8 rfl (lv_at hl 2 rfl) ?_
    refine lv_iconst (v := 0) hx hb dX9_releases_9 (by decide) ?_
    refine lv_iconst (v := 1) hx hb dX9_releases_10 (by decide) ?_
    obtain ⟨q3, hq3, hB⟩ := bnd hB
    refine kr_S (WC := wd_X9_in cs ) (As := [.int p2, .int (0 : Int32), .int (1 : Int32)]) (rest := []) (r0 := q3) ⟨hx, hb, hml, hown, hg⟩ (k_X9_in l G cs p2 (0 : Int32) (1 : Int32) q3 hq3) gM_X9_57 mS_X9_in (rmk rfl) hP hKT hN [] rfl rfl hl.1 rfl (Nat.le_of_ble_eq_true rfl) dX9_releases_11 ?_
    refine lv_if_ne (tgt := 19) hx hb dX9_releases_14 (by decide) (fun c_4 => ?_) (fun c_4 => ?_)
    · have hB := ifN c_4 hB
      refine lv_aload_n hx hb dX9_releases_19 rfl (lv_at hl 0 rfl) ?_
      refine va_get (D := G) (ci := 9) (v := .ref a_t_now) (C := RX9) (T := TX9) (N := 26) hx hb hg inX9 hown hKT hP 0 rfl rfl 16 (by decide) (hg _ gF_X9_35) (fun _ h9 => h9) rfl dX9_releases_20 ?_
      refine lv_bipush (v := 8) hx hb dX9_releases_23 (by decide) ?_
      refine va_iald hx hb hKT hP 2 0 rfl rfl (vinC (by decide)) dX9_releases_25 ?_
      refine lv_iload_n hx hb dX9_releases_26 rfl (lv_at hl 1 rfl) ?_
      refine lj_ishr hx hb dX9_releases_27 ?_
      refine lv_iconst (v := 1) hx hb dX9_releases_28 (by decide) ?_
      refine lv_iand hx hb dX9_releases_29 ?_
      refine lv_iload_n hx hb dX9_releases_30 rfl (lv_at hl 2 rfl) ?_
      refine lv_icmp_ne (tgt := 37) hx hb dX9_releases_31 (by decide) (fun c_5 => ?_) (fun c_5 => ?_)
      · have hB := ifN c_5 hB
        refine lv_aload_n hx hb dX9_releases_37 rfl (lv_at hl 0 rfl) ?_
        obtain ⟨q6, hq6, hB⟩ := bnd hB
        refine kw_v (WC := wd_X9_know cs a_t a_t_text a_t_opinions a_t_lines a_t_draftBook a_t_scribes a_t_turn a_t_bent a_t_need a_t_now a_t_isKept a_t_far a_t_marginOf a_t_marginSays v_t_trace v_t_typed v_t_needTold v_t_at v_t_start v_t_sort v_t_value v_t_fault v_t_target v_t_went v_t_ender v_t_had v_t_margins g_t_now) (W1 := wd_X9_know cs a_t a_t_text a_t_opinions a_t_lines a_t_draftBook a_t_scribes a_t_turn a_t_bent a_t_need a_t_now a_t_isKept a_t_far a_t_marginOf a_t_marginSays v_t_trace v_t_typed v_t_needTold v_t_at v_t_start v_t_sort v_t_value v_t_fault v_t_target v_t_went v_t_ender v_t_had v_t_margins q6) (W2 := wd_X9_releases cs a_t a_t_text a_t_opinions a_t_lines a_t_draftBook a_t_scribes a_t_turn a_t_bent a_t_need a_t_now a_t_isKept a_t_far a_t_marginOf a_t_marginSays v_t_trace v_t_typed v_t_needTold v_t_at v_t_start v_t_sort v_t_value v_t_fault v_t_target v_t_went v_t_ender v_t_had v_t_margins g_t_scribes q6) (rw_V (As := []) (rest := []) ⟨hx, hb, hml, hown, hg⟩ (k_X9_know l G cs a_t a_t_text a_t_opinions a_t_lines a_t_draftBook a_t_scribes a_t_turn a_t_bent a_t_need a_t_now a_t_isKept a_t_far a_t_marginOf a_t_marginSays v_t_trace v_t_typed v_t_needTold v_t_at v_t_start v_t_sort v_t_value v_t_fault v_t_target v_t_went v_t_ender v_t_had v_t_margins g_t_now H.size q6 hq6) gM_X9_145 mI_X9_know (rmk rfl) hP hD hKT hN 0 rfl rfl [0, 2] rfl rfl rfl hl.1 rfl (Nat.le_of_ble_eq_true rfl) dX9_releases_38) hP hD hS hA [0, 2] [1] [1, 0, 2] ⟨rfl, rfl, rfl, rfl, rfl, rfl, rfl⟩ (fun H locs hP hD hS => ?_)
        refine lv_aload_n hx hb dX9_releases_41 rfl (lv_at hl 0 rfl) ?_
        refine va_get (D := G) (ci := 9) (v := .ref a_t_now) (C := RX9) (T := TX9) (N := 26) hx hb hg inX9 hown hKT hP 0 rfl rfl 16 (by decide) (hg _ gF_X9_35) (fun _ h9 => h9) rfl dX9_releases_42 ?_
        refine lv_bipush (v := 8) hx hb dX9_releases_45 (by decide) ?_
        refine lv_dup2_11 hx hb dX9_releases_47 rfl rfl ?_
        refine va_iald hx hb hKT hP 2 0 rfl rfl (vinC (by decide)) dX9_releases_48 ?_
        refine lv_iconst (v := 1) hx hb dX9_releases_49 (by decide) ?_
        refine lv_iload_n hx hb dX9_releases_50 rfl (lv_at hl 1 rfl) ?_
        refine lj_ishl hx hb dX9_releases_51 ?_
        refine lv_ixor hx hb dX9_releases_52 ?_
        refine va_iast hx hb hKT hP hD hS 2 0 rfl rfl (vinC (by decide)) dX9_releases_53 (fun H locs hP hD hS => ?_)
        have hP : va_P G vwCl (wd_X9_releases cs a_t a_t_text a_t_opinions a_t_lines a_t_draftBook a_t_scribes a_t_turn a_t_bent a_t_need a_t_now a_t_isKept a_t_far a_t_marginOf a_t_marginSays v_t_trace v_t_typed v_t_needTold v_t_at v_t_start v_t_sort v_t_value v_t_fault v_t_target v_t_went v_t_ender v_t_had v_t_margins g_t_scribes (upd q6 (8 : Int32).toNatClampNeg ((q6 (8 : Int32).toNatClampNeg) ^^^ (jshl (1 : Int32) p1)))) H := hP
        have hD : va_D A (wd_X9_releases cs a_t a_t_text a_t_opinions a_t_lines a_t_draftBook a_t_scribes a_t_turn a_t_bent a_t_need a_t_now a_t_isKept a_t_far a_t_marginOf a_t_marginSays v_t_trace v_t_typed v_t_needTold v_t_at v_t_start v_t_sort v_t_value v_t_fault v_t_target v_t_went v_t_ender v_t_had v_t_margins g_t_scribes (upd q6 (8 : Int32).toNatClampNeg ((q6 (8 : Int32).toNatClampNeg) ^^^ (jshl (1 : Int32) p1)))) := hD
        refine lv_aload_n hx hb dX9_releases_54 rfl (lv_at hl 0 rfl) ?_
        refine va_get (D := G) (ci := 9) (v := .ref a_t_now) (C := RX9) (T := TX9) (N := 26) hx hb hg inX9 hown hKT hP 0 rfl rfl 16 (by decide) (hg _ gF_X9_35) (fun _ h9 => h9) rfl dX9_releases_55 ?_
        refine lv_bipush (v := 8) hx hb dX9_releases_58 (by decide) ?_
        refine va_iald hx hb hKT hP 2 0 rfl rfl (vinC (by decide)) dX9_releases_60 ?_
        obtain ⟨q7, hq7, hB⟩ := bnd hB
        refine kr_S (WC := wd_X9_manyOf cs ) (As := [.int ((upd q6 (8 : Int32).toNatClampNeg ((q6 (8 : Int32).toNatClampNeg) ^^^ (jshl (1 : Int32) p1))) (8 : Int32).toNatClampNeg)]) (rest := []) (r0 := q7) ⟨hx, hb, hml, hown, hg⟩ (k_X9_manyOf l G cs ((upd q6 (8 : Int32).toNatClampNeg ((q6 (8 : Int32).toNatClampNeg) ^^^ (jshl (1 : Int32) p1))) (8 : Int32).toNatClampNeg) q7 hq7) gM_X9_122 mS_X9_manyOf (rmk rfl) hP hKT hN [] rfl rfl hl.1 rfl (Nat.le_of_ble_eq_true rfl) dX9_releases_61 ?_
        have hK := leafK hB hK
        have hK : (q7, upd q6 (8 : Int32).toNatClampNeg ((q6 (8 : Int32).toNatClampNeg) ^^^ (jshl (1 : Int32) p1))) = R0 := hK
        subst hK
        exact W.iret (v := q7) hx hb hr (fun t ht hW => ⟨⟨_, (), rfl, rfl, by rw [ht]; exact hP, hD⟩, hS.F ht⟩) hS.2.2 dX9_releases_64
      · have hB := ifP c_5 hB
        refine lv_bipush (v := -2) hx hb dX9_releases_34 (by decide) ?_
        have hK := leafK hB hK
        have hK : ((-2 : Int32), g_t_now) = R0 := hK
        subst hK
        exact W.iret (v := (-2 : Int32)) hx hb hr (fun t ht hW => ⟨⟨_, (), rfl, rfl, by rw [ht]; exact hP, hD⟩, hS.F ht⟩) hS.2.2 dX9_releases_36
    · have hB := ifP c_4 hB
      refine lv_iconst (v := -1) hx hb dX9_releases_17 (by decide) ?_
      have hK := leafK hB hK
      have hK : ((-1 : Int32), g_t_now) = R0 := hK
      subst hK
      exact W.iret (v := (-1 : Int32)) hx hb hr (fun t ht hW => ⟨⟨_, (), rfl, rfl, by rw [ht]; exact hP, hD⟩, hS.F ht⟩) hS.2.2 dX9_releases_18
def wd_X9_aims (cs : Nat → ClassId) (a_t a_t_text a_t_opinions a_t_lines a_t_draftBook a_t_scribes a_t_turn a_t_bent a_t_need a_t_now a_t_isKept a_t_far a_t_marginOf a_t_marginSays : Nat) (v_t_trace : Int64) (v_t_typed : Int32) (v_t_needTold : Int32) (v_t_at : Int32) (v_t_start : Int32) (v_t_sort : Int32) (v_t_value : Int32) (v_t_fault : Int32) (v_t_target : Int32) (v_t_went : Int32) (v_t_ender : Int32) (v_t_had : Int32) (v_t_margins : Int32) (g_t_opinions : Nat → Int32) (g_t_lines : Nat → Int32) : va_W := [(a_t, .inr (9, [.long v_t_trace, .ref a_t_text, .int v_t_typed, .ref a_t_opinions, .ref a_t_lines, .ref a_t_draftBook, .ref a_t_scribes, .ref a_t_turn, .ref a_t_bent, .ref a_t_need, .int v_t_needTold, .int v_t_at, .int v_t_start, .int v_t_sort, .int v_t_value, .int v_t_fault, .ref a_t_now, .ref a_t_isKept, .int v_t_target, .int v_t_went, .int v_t_ender, .int v_t_had, .ref a_t_far, .ref a_t_marginOf, .ref a_t_marginSays, .int v_t_margins])), (a_t_opinions, .inl (cs 0, 2, .inl g_t_opinions)), (a_t_lines, .inl (cs 0, 2, .inl g_t_lines))]
def rm_X9_aims : Room := { frames := 2, cells := 0, slots := 0, locals := 49 }
theorem mI_X9_aims : MI yX9_aims RX9 cX9_aims 4 (some .int) 2 := ⟨gI_X9_aims, gE_X9_aims, gN_X9, gC_X9_aims, by decide +kernel⟩
set_option maxHeartbeats 4000000 in
set_option maxRecDepth 100000 in
theorem k_X9_aims (l : Launch) (G : va_G) (cs : Nat → ClassId) (a_t a_t_text a_t_opinions a_t_lines a_t_draftBook a_t_scribes a_t_turn a_t_bent a_t_need a_t_now a_t_isKept a_t_far a_t_marginOf a_t_marginSays : Nat) (v_t_trace : Int64) (v_t_typed : Int32) (v_t_needTold : Int32) (v_t_at : Int32) (v_t_start : Int32) (v_t_sort : Int32) (v_t_value : Int32) (v_t_fault : Int32) (v_t_target : Int32) (v_t_went : Int32) (v_t_ender : Int32) (v_t_had : Int32) (v_t_margins : Int32) (g_t_opinions : Nat → Int32) (g_t_lines : Nat → Int32) (p1 p2 : Int32) (sz : Nat) (R0 : Int32 × Int32) (hB : f_X9_aims v_t_target g_t_opinions g_t_lines p1 p2 = some R0) : Met l yX9_aims (.code yX9_aims cX9_aims 4 (some .int) :: GW) rm_X9_aims (PcW G cs [.ref a_t, .int p1, .int p2] (wd_X9_aims cs a_t a_t_text a_t_opinions a_t_lines a_t_draftBook a_t_scribes a_t_turn a_t_bent a_t_need a_t_now a_t_isKept a_t_far a_t_marginOf a_t_marginSays v_t_trace v_t_typed v_t_needTold v_t_at v_t_start v_t_sort v_t_value v_t_fault v_t_target v_t_went v_t_ender v_t_had v_t_margins g_t_opinions g_t_lines) sz) (QcI G (va_A (wd_X9_aims cs a_t a_t_text a_t_opinions a_t_lines a_t_draftBook a_t_scribes a_t_turn a_t_bent a_t_need a_t_now a_t_isKept a_t_far a_t_marginOf a_t_marginSays v_t_trace v_t_typed v_t_needTold v_t_at v_t_start v_t_sort v_t_value v_t_fault v_t_target v_t_went v_t_ender v_t_had v_t_margins g_t_opinions g_t_lines) sz) (wd_X9_aims cs a_t a_t_text a_t_opinions a_t_lines a_t_draftBook a_t_scribes a_t_turn a_t_bent a_t_need a_t_now a_t_isKept a_t_far a_t_marginOf a_t_marginSays v_t_trace v_t_typed v_t_needTold v_t_at v_t_start v_t_sort v_t_value v_t_fault R0.2 v_t_went v_t_ender v_t_had v_t_margins g_t_opinions g_t_lines) R0.1) 0 0 (va_A (wd_X9_aims cs a_t a_t_text a_t_opinions a_t_lines a_t_draftBook a_t_scribes a_t_turn a_t_bent a_t_need a_t_now a_t_isKept a_t_far a_t_marginOf a_t_marginSays v_t_trace v_t_typed v_t_needTold v_t_at v_t_start v_t_sort v_t_value v_t_fault v_t_target v_t_went v_t_ender v_t_had v_t_margins g_t_opinions g_t_lines) sz) := by
  refine Met.ofW (cc := cX9_aims) (maxL := 4) (ret := (some .int)) (by decide) rfl ?_
  intro p e s m args below meth c s₁ B hml hv
  obtain ⟨rfl, hsz, hP, hD0, hK, hN⟩ := hv
  have hx := B.exec
  have hb := B.bytes
  have hr := B.returns
  have hts := atoms_spec (ws := .code yX9_aims cX9_aims 4 (some .int) :: GW) B.pre
  have hg : ∀ w ∈ GW, w.before _ s = true := fun w h => hts w (List.mem_cons_of_mem _ h)
  have hown : s.vm.findClass RX9 = some m.cls := findClass_of_methodNamed B.named
  have hlocks := B.notSynchronized
  subst hsz
  have hD := hD0.self (sz := s.heap.size)
  generalize hAe : va_A (wd_X9_aims cs a_t a_t_text a_t_opinions a_t_lines a_t_draftBook a_t_scribes a_t_turn a_t_bent a_t_need a_t_now a_t_isKept a_t_far a_t_marginOf a_t_marginSays v_t_trace v_t_typed v_t_needTold v_t_at v_t_start v_t_sort v_t_value v_t_fault v_t_target v_t_went v_t_ender v_t_had v_t_margins g_t_opinions g_t_lines) s.heap.size = A at hD ⊢
  have hA : ∀ q : Nat, s.heap.size ≤ q → A q := fun q h => by rw [← hAe]; exact Or.inr h
  have hS : va_S A s.heap s.heap [] := va_S.rf
  have hl := lv_entry ([.ref a_t, .int p1, .int p2]) (n := 4) (Nat.le_of_ble_eq_true rfl)
  rw [lg_entry_eq]
  generalize (lg_sl ([.ref a_t, .int p1, .int p2]) ++ List.replicate (4 - (lg_sl ([.ref a_t, .int p1, .int p2])).length) Slot.unset).toArray = ls at hl ⊢
  have hl : lv_has ls 4 [(0, .ref a_t), (1, .int p1), (2, .int p2)] := hl
  obtain ⟨y, hB, hK0⟩ : ∃ y, f_X9_aims v_t_target g_t_opinions g_t_lines p1 p2 = some y ∧ KEnd R0 y := ⟨R0, hB, rfl⟩
  have hKT := hK
  have hK := hK0
  obtain ⟨H, hHe⟩ : ∃ H, H = s.heap := ⟨_, rfl⟩
  obtain ⟨locs, hLe⟩ : ∃ L : List Loc, L = [] := ⟨_, rfl⟩
  rw [← hHe] at hP
  have hS : va_S A s.heap H locs := by rw [hHe, hLe]; exact hS
  show W p l e rm_X9_aims s m ([.ref a_t, .int p1, .int p2] : List Value).toArray below meth c s.heap [] 0 0 _ _
  suffices hgo : W p l e rm_X9_aims s m ([.ref a_t, .int p1, .int p2] : List Value).toArray below meth c H locs 0 0 (MQ below (QcI G A (wd_X9_aims cs a_t a_t_text a_t_opinions a_t_lines a_t_draftBook a_t_scribes a_t_turn a_t_bent a_t_need a_t_now a_t_isKept a_t_far a_t_marginOf a_t_marginSays v_t_trace v_t_typed v_t_needTold v_t_at v_t_start v_t_sort v_t_value v_t_fault R0.2 v_t_went v_t_ender v_t_had v_t_margins g_t_opinions g_t_lines) R0.1) ([.ref a_t, .int p1, .int p2] : List Value).toArray s 0 0 A) (F0 m 0 ls []) by rw [hHe, hLe] at hgo; exact hgo
  refine lv_aload_n hx hb dX9_aims_0 rfl (lv_at hl 0 rfl) ?_
  refine lv_iload_n hx hb dX9_aims_1 rfl (lv_at hl 1 rfl) ?_
  obtain ⟨q1, hq1, hB⟩ := bnd hB
  refine kr_V (WC := wd_X9_isLine cs a_t a_t_text a_t_opinions a_t_lines a_t_draftBook a_t_scribes a_t_turn a_t_bent a_t_need a_t_now a_t_isKept a_t_far a_t_marginOf a_t_marginSays v_t_trace v_t_typed v_t_needTold v_t_at v_t_start v_t_sort v_t_value v_t_fault v_t_target v_t_went v_t_ender v_t_had v_t_margins g_t_lines) (As := [.int p1]) (rest := []) (r0 := q1) ⟨hx, hb, hml, hown, hg⟩ (k_X9_isLine l G cs a_t a_t_text a_t_opinions a_t_lines a_t_draftBook a_t_scribes a_t_turn a_t_bent a_t_need a_t_now a_t_isKept a_t_far a_t_marginOf a_t_marginSays v_t_trace v_t_typed v_t_needTold v_t_at v_t_start v_t_sort v_t_value v_t_fault v_t_target v_t_went v_t_ender v_t_had v_t_margins g_t_lines p1 q1 hq1) gM_X9_129 mI_X9_isLine (rmk rfl) hP hKT hN 0 rfl rfl [0, 2] rfl rfl hl.1 rfl (Nat.le_of_ble_eq_true rfl) dX9_aims_2 ?_
  refine lv_if_eq (tgt := 16) hx hb dX9_aims_5 (by decide) (fun c_2 => ?_) (fun c_2 => ?_)
  · have hB := ifP c_2 hB
    refine lv_iconst (v := -1) hx hb dX9_aims_16 (by decide) ?_
    have hK := leafK hB hK
    have hK : ((-1 : Int32), v_t_target) = R0 := hK
    subst hK
    exact W.iret (v := (-1 : Int32)) hx hb hr (fun t ht hW => ⟨⟨_, (), rfl, rfl, by rw [ht]; exact hP, hD⟩, hS.F ht⟩) hS.2.2 dX9_aims_17
  · have hB := ifN c_2 hB
    refine lv_aload_n hx hb dX9_aims_8 rfl (lv_at hl 0 rfl) ?_
    refine lv_iload_n hx hb dX9_aims_9 rfl (lv_at hl 2 rfl) ?_
    obtain ⟨q3, hq3, hB⟩ := bnd hB
    refine kr_V (WC := wd_X9_isOpinion cs a_t a_t_text a_t_opinions a_t_lines a_t_draftBook a_t_scribes a_t_turn a_t_bent a_t_need a_t_now a_t_isKept a_t_far a_t_marginOf a_t_marginSays v_t_trace v_t_typed v_t_needTold v_t_at v_t_start v_t_sort v_t_value v_t_fault v_t_target v_t_went v_t_ender v_t_had v_t_margins g_t_opinions) (As := [.int p2]) (rest := []) (r0 := q3) ⟨hx, hb, hml, hown, hg⟩ (k_X9_isOpinion l G cs a_t a_t_text a_t_opinions a_t_lines a_t_draftBook a_t_scribes a_t_turn a_t_bent a_t_need a_t_now a_t_isKept a_t_far a_t_marginOf a_t_marginSays v_t_trace v_t_typed v_t_needTold v_t_at v_t_start v_t_sort v_t_value v_t_fault v_t_target v_t_went v_t_ender v_t_had v_t_margins g_t_opinions p2 q3 hq3) gM_X9_142 mI_X9_isOpinion (rmk rfl) hP hKT hN 0 rfl rfl [0, 1] rfl rfl hl.1 rfl (Nat.le_of_ble_eq_true rfl) dX9_aims_10 ?_
    refine lv_if_ne (tgt := 18) hx hb dX9_aims_13 (by decide) (fun c_4 => ?_) (fun c_4 => ?_)
    · have hB := ifN c_4 hB
      refine lv_aload_n hx hb dX9_aims_18 rfl (lv_at hl 0 rfl) ?_
      refine lv_aload_n hx hb dX9_aims_19 rfl (lv_at hl 0 rfl) ?_
      refine va_get (D := G) (ci := 9) (v := .int v_t_target) (C := RX9) (T := TX9) (N := 26) hx hb hg inX9 hown hKT hP 0 rfl rfl 18 (by decide) (hg _ gF_X9_99) (fun _ h9 => h9) rfl dX9_aims_20 ?_
      refine lv_iload_n hx hb dX9_aims_23 rfl (lv_at hl 1 rfl) ?_
      obtain ⟨q5, hq5, hB⟩ := bnd hB
      refine kr_V (WC := wd_X9_lineOf cs a_t a_t_text a_t_opinions a_t_lines a_t_draftBook a_t_scribes a_t_turn a_t_bent a_t_need a_t_now a_t_isKept a_t_far a_t_marginOf a_t_marginSays v_t_trace v_t_typed v_t_needTold v_t_at v_t_start v_t_sort v_t_value v_t_fault v_t_target v_t_went v_t_ender v_t_had v_t_margins g_t_opinions g_t_lines) (As := [.int v_t_target, .int p1]) (rest := []) (r0 := q5) ⟨hx, hb, hml, hown, hg⟩ (k_X9_lineOf l G cs a_t a_t_text a_t_opinions a_t_lines a_t_draftBook a_t_scribes a_t_turn a_t_bent a_t_need a_t_now a_t_isKept a_t_far a_t_marginOf a_t_marginSays v_t_trace v_t_typed v_t_needTold v_t_at v_t_start v_t_sort v_t_value v_t_fault v_t_target v_t_went v_t_ender v_t_had v_t_margins g_t_opinions g_t_lines v_t_target p1 q5 hq5) gM_X9_113 mI_X9_lineOf (rmk rfl) hP hKT hN 0 rfl rfl [0, 1, 2] rfl rfl hl.1 rfl (Nat.le_of_ble_eq_true rfl) dX9_aims_24 ?_
      refine lv_istore_n (lv' := [(3, .int q5), (0, .ref a_t), (1, .int p1), (2, .int p2)]) hx hb dX9_aims_27 rfl hl (by decide) rfl (fun ls hl => ?_)
      refine lv_aload_n hx hb dX9_aims_28 rfl (lv_at hl 1 rfl) ?_
      refine lv_aload_n hx hb dX9_aims_29 rfl (lv_at hl 1 rfl) ?_
      refine lv_aload_n hx hb dX9_aims_30 rfl (lv_at hl 1 rfl) ?_
      refine va_get (D := G) (ci := 9) (v := .int v_t_target) (C := RX9) (T := TX9) (N := 26) hx hb hg inX9 hown hKT hP 0 rfl rfl 18 (by decide) (hg _ gF_X9_99) (fun _ h9 => h9) rfl dX9_aims_31 ?_
      refine lv_iload_n hx hb dX9_aims_34 rfl (lv_at hl 2 rfl) ?_
      refine lv_iload_n hx hb dX9_aims_35 rfl (lv_at hl 3 rfl) ?_
      obtain ⟨q6, hq6, hB⟩ := bnd hB
      refine kr_V (WC := wd_X9_put cs a_t a_t_text a_t_opinions a_t_lines a_t_draftBook a_t_scribes a_t_turn a_t_bent a_t_need a_t_now a_t_isKept a_t_far a_t_marginOf a_t_marginSays v_t_trace v_t_typed v_t_needTold v_t_at v_t_start v_t_sort v_t_value v_t_fault v_t_target v_t_went v_t_ender v_t_had v_t_margins g_t_opinions g_t_lines) (As := [.int v_t_target, .int p1, .int p2]) (rest := [.ref a_t]) (r0 := q6) ⟨hx, hb, hml, hown, hg⟩ (k_X9_put l G cs a_t a_t_text a_t_opinions a_t_lines a_t_draftBook a_t_scribes a_t_turn a_t_bent a_t_need a_t_now a_t_isKept a_t_far a_t_marginOf a_t_marginSays v_t_trace v_t_typed v_t_needTold v_t_at v_t_start v_t_sort v_t_value v_t_fault v_t_target v_t_went v_t_ender v_t_had v_t_margins g_t_opinions g_t_lines v_t_target p1 p2 q6 hq6) gM_X9_148 mI_X9_put (rmk rfl) hP hKT hN 0 rfl rfl [0, 1, 2] rfl rfl hl.1 rfl (Nat.le_of_ble_eq_true rfl) dX9_aims_36 ?_
      refine va_put (D := G) (ci := 9) (v := .int q6) (ty := .int) (C := RX9) (T := TX9) (N := 26) hx hb hg inX9 tyX9 tyX9_ok nmX9 hown hKT hP hD hS 0 rfl rfl 18 (by decide) (hg _ gF_X9_99) (fun _ h9 => h9) rfl (by decide +kernel) rfl rfl (Nat.le_of_ble_eq_true rfl) dX9_aims_39 (fun H locs hP hD hS => ?_)
      have hP : va_P G vwCl (wd_X9_aims cs a_t a_t_text a_t_opinions a_t_lines a_t_draftBook a_t_scribes a_t_turn a_t_bent a_t_need a_t_now a_t_isKept a_t_far a_t_marginOf a_t_marginSays v_t_trace v_t_typed v_t_needTold v_t_at v_t_start v_t_sort v_t_value v_t_fault q6 v_t_went v_t_ender v_t_had v_t_margins g_t_opinions g_t_lines) H := hP
      have hD : va_D A (wd_X9_aims cs a_t a_t_text a_t_opinions a_t_lines a_t_draftBook a_t_scribes a_t_turn a_t_bent a_t_need a_t_now a_t_isKept a_t_far a_t_marginOf a_t_marginSays v_t_trace v_t_typed v_t_needTold v_t_at v_t_start v_t_sort v_t_value v_t_fault q6 v_t_went v_t_ender v_t_had v_t_margins g_t_opinions g_t_lines) := hD
      refine lv_iload_n hx hb dX9_aims_42 rfl (lv_at hl 0 rfl) ?_
      have hK := leafK hB hK
      have hK : (q5, q6) = R0 := hK
      subst hK
      exact W.iret (v := q5) hx hb hr (fun t ht hW => ⟨⟨_, (), rfl, rfl, by rw [ht]; exact hP, hD⟩, hS.F ht⟩) hS.2.2 dX9_aims_43
    · have hB := ifP c_4 hB
      refine lv_iconst (v := -1) hx hb dX9_aims_16 (by decide) ?_
      have hK := leafK hB hK
      have hK : ((-1 : Int32), v_t_target) = R0 := hK
      subst hK
      exact W.iret (v := (-1 : Int32)) hx hb hr (fun t ht hW => ⟨⟨_, (), rfl, rfl, by rw [ht]; exact hP, hD⟩, hS.F ht⟩) hS.2.2 dX9_aims_17
def wd_X9_undo (cs : Nat → ClassId) (a_t a_t_text a_t_opinions a_t_lines a_t_draftBook a_t_scribes a_t_turn a_t_bent a_t_need a_t_now a_t_isKept a_t_far a_t_marginOf a_t_marginSays : Nat) (v_t_trace : Int64) (v_t_typed : Int32) (v_t_needTold : Int32) (v_t_at : Int32) (v_t_start : Int32) (v_t_sort : Int32) (v_t_value : Int32) (v_t_fault : Int32) (v_t_target : Int32) (v_t_went : Int32) (v_t_ender : Int32) (v_t_had : Int32) (v_t_margins : Int32) (g_t_now : Nat → Int32) : va_W := [(a_t, .inr (9, [.long v_t_trace, .ref a_t_text, .int v_t_typed, .ref a_t_opinions, .ref a_t_lines, .ref a_t_draftBook, .ref a_t_scribes, .ref a_t_turn, .ref a_t_bent, .ref a_t_need, .int v_t_needTold, .int v_t_at, .int v_t_start, .int v_t_sort, .int v_t_value, .int v_t_fault, .ref a_t_now, .ref a_t_isKept, .int v_t_target, .int v_t_went, .int v_t_ender, .int v_t_had, .ref a_t_far, .ref a_t_marginOf, .ref a_t_marginSays, .int v_t_margins])), (a_t_now, .inl (cs 0, 300, .inl g_t_now))]
def rm_X9_undo : Room := { frames := 0, cells := 0, slots := 0, locals := 0 }
theorem mI_X9_undo : MI yX9_undo RX9 cX9_undo 2 (some .int) 0 := ⟨gI_X9_undo, gE_X9_undo, gN_X9, gC_X9_undo, by decide +kernel⟩
set_option maxHeartbeats 4000000 in
set_option maxRecDepth 100000 in
theorem k_X9_undo (l : Launch) (G : va_G) (cs : Nat → ClassId) (a_t a_t_text a_t_opinions a_t_lines a_t_draftBook a_t_scribes a_t_turn a_t_bent a_t_need a_t_now a_t_isKept a_t_far a_t_marginOf a_t_marginSays : Nat) (v_t_trace : Int64) (v_t_typed : Int32) (v_t_needTold : Int32) (v_t_at : Int32) (v_t_start : Int32) (v_t_sort : Int32) (v_t_value : Int32) (v_t_fault : Int32) (v_t_target : Int32) (v_t_went : Int32) (v_t_ender : Int32) (v_t_had : Int32) (v_t_margins : Int32) (g_t_now : Nat → Int32) (sz : Nat) (R0 : Int32 × (Nat → Int32)) (hB : f_X9_undo g_t_now = some R0) : Met l yX9_undo (.code yX9_undo cX9_undo 2 (some .int) :: GW) rm_X9_undo (PcW G cs [.ref a_t] (wd_X9_undo cs a_t a_t_text a_t_opinions a_t_lines a_t_draftBook a_t_scribes a_t_turn a_t_bent a_t_need a_t_now a_t_isKept a_t_far a_t_marginOf a_t_marginSays v_t_trace v_t_typed v_t_needTold v_t_at v_t_start v_t_sort v_t_value v_t_fault v_t_target v_t_went v_t_ender v_t_had v_t_margins g_t_now) sz) (QcI G (va_A (wd_X9_undo cs a_t a_t_text a_t_opinions a_t_lines a_t_draftBook a_t_scribes a_t_turn a_t_bent a_t_need a_t_now a_t_isKept a_t_far a_t_marginOf a_t_marginSays v_t_trace v_t_typed v_t_needTold v_t_at v_t_start v_t_sort v_t_value v_t_fault v_t_target v_t_went v_t_ender v_t_had v_t_margins g_t_now) sz) (wd_X9_undo cs a_t a_t_text a_t_opinions a_t_lines a_t_draftBook a_t_scribes a_t_turn a_t_bent a_t_need a_t_now a_t_isKept a_t_far a_t_marginOf a_t_marginSays v_t_trace v_t_typed v_t_needTold v_t_at v_t_start v_t_sort v_t_value v_t_fault v_t_target v_t_went v_t_ender v_t_had v_t_margins R0.2) R0.1) 0 0 (va_A (wd_X9_undo cs a_t a_t_text a_t_opinions a_t_lines a_t_draftBook a_t_scribes a_t_turn a_t_bent a_t_need a_t_now a_t_isKept a_t_far a_t_marginOf a_t_marginSays v_t_trace v_t_typed v_t_needTold v_t_at v_t_start v_t_sort v_t_value v_t_fault v_t_target v_t_went v_t_ender v_t_had v_t_margins g_t_now) sz) := by
  refine Met.ofW (cc := cX9_undo) (maxL := 2) (ret := (some .int)) (by decide) rfl ?_
  intro p e s m args below meth c s₁ B hml hv
  obtain ⟨rfl, hsz, hP, hD0, hK, hN⟩ := hv
  have hx := B.exec
  have hb := B.bytes
  have hr := B.returns
  have hts := atoms_spec (ws := .code yX9_undo cX9_undo 2 (some .int) :: GW) B.pre
  have hg : ∀ w ∈ GW, w.before _ s = true := fun w h => hts w (List.mem_cons_of_mem _ h)
  have hown : s.vm.findClass RX9 = some m.cls := findClass_of_methodNamed B.named
  have hlocks := B.notSynchronized
  subst hsz
  have hD := hD0.self (sz := s.heap.size)
  generalize hAe : va_A (wd_X9_undo cs a_t a_t_text a_t_opinions a_t_lines a_t_draftBook a_t_scribes a_t_turn a_t_bent a_t_need a_t_now a_t_isKept a_t_far a_t_marginOf a_t_marginSays v_t_trace v_t_typed v_t_needTold v_t_at v_t_start v_t_sort v_t_value v_t_fault v_t_target v_t_went v_t_ender v_t_had v_t_margins g_t_now) s.heap.size = A at hD ⊢
  have hA : ∀ q : Nat, s.heap.size ≤ q → A q := fun q h => by rw [← hAe]; exact Or.inr h
  have hS : va_S A s.heap s.heap [] := va_S.rf
  have hl := lv_entry ([.ref a_t]) (n := 2) (Nat.le_of_ble_eq_true rfl)
  rw [lg_entry_eq]
  generalize (lg_sl ([.ref a_t]) ++ List.replicate (2 - (lg_sl ([.ref a_t])).length) Slot.unset).toArray = ls at hl ⊢
  have hl : lv_has ls 2 [(0, .ref a_t)] := hl
  obtain ⟨y, hB, hK0⟩ : ∃ y, f_X9_undo g_t_now = some y ∧ KEnd R0 y := ⟨R0, hB, rfl⟩
  have hKT := hK
  have hK := hK0
  obtain ⟨H, hHe⟩ : ∃ H, H = s.heap := ⟨_, rfl⟩
  obtain ⟨locs, hLe⟩ : ∃ L : List Loc, L = [] := ⟨_, rfl⟩
  rw [← hHe] at hP
  have hS : va_S A s.heap H locs := by rw [hHe, hLe]; exact hS
  show W p l e rm_X9_undo s m ([.ref a_t] : List Value).toArray below meth c s.heap [] 0 0 _ _
  suffices hgo : W p l e rm_X9_undo s m ([.ref a_t] : List Value).toArray below meth c H locs 0 0 (MQ below (QcI G A (wd_X9_undo cs a_t a_t_text a_t_opinions a_t_lines a_t_draftBook a_t_scribes a_t_turn a_t_bent a_t_need a_t_now a_t_isKept a_t_far a_t_marginOf a_t_marginSays v_t_trace v_t_typed v_t_needTold v_t_at v_t_start v_t_sort v_t_value v_t_fault v_t_target v_t_went v_t_ender v_t_had v_t_margins R0.2) R0.1) ([.ref a_t] : List Value).toArray s 0 0 A) (F0 m 0 ls []) by rw [hHe, hLe] at hgo; exact hgo
  refine lv_aload_n hx hb dX9_undo_0 rfl (lv_at hl 0 rfl) ?_
  refine va_get (D := G) (ci := 9) (v := .ref a_t_now) (C := RX9) (T := TX9) (N := 26) hx hb hg inX9 hown hKT hP 0 rfl rfl 16 (by decide) (hg _ gF_X9_35) (fun _ h9 => h9) rfl dX9_undo_1 ?_
  refine lv_bipush (v := 9) hx hb dX9_undo_4 (by decide) ?_
  refine va_iald hx hb hKT hP 1 0 rfl rfl (vinC (by decide)) dX9_undo_6 ?_
  refine lv_if_ne (tgt := 13) hx hb dX9_undo_7 (by decide) (fun c_1 => ?_) (fun c_1 => ?_)
  · have hB := ifN c_1 hB
    refine lv_aload_n hx hb dX9_undo_13 rfl (lv_at hl 0 rfl) ?_
    refine va_get (D := G) (ci := 9) (v := .ref a_t_now) (C := RX9) (T := TX9) (N := 26) hx hb hg inX9 hown hKT hP 0 rfl rfl 16 (by decide) (hg _ gF_X9_35) (fun _ h9 => h9) rfl dX9_undo_14 ?_
    refine lv_bipush (v := 9) hx hb dX9_undo_17 (by decide) ?_
    refine lv_dup2_11 hx hb dX9_undo_19 rfl rfl ?_
    refine va_iald hx hb hKT hP 1 0 rfl rfl (vinC (by decide)) dX9_undo_20 ?_
    refine lv_iconst (v := 1) hx hb dX9_undo_21 (by decide) ?_
    refine lv_isub hx hb dX9_undo_22 ?_
    refine va_iast hx hb hKT hP hD hS 1 0 rfl rfl (vinC (by decide)) dX9_undo_23 (fun H locs hP hD hS => ?_)
    have hP : va_P G vwCl (wd_X9_undo cs a_t a_t_text a_t_opinions a_t_lines a_t_draftBook a_t_scribes a_t_turn a_t_bent a_t_need a_t_now a_t_isKept a_t_far a_t_marginOf a_t_marginSays v_t_trace v_t_typed v_t_needTold v_t_at v_t_start v_t_sort v_t_value v_t_fault v_t_target v_t_went v_t_ender v_t_had v_t_margins (upd g_t_now (9 : Int32).toNatClampNeg ((g_t_now (9 : Int32).toNatClampNeg) - (1 : Int32)))) H := hP
    have hD : va_D A (wd_X9_undo cs a_t a_t_text a_t_opinions a_t_lines a_t_draftBook a_t_scribes a_t_turn a_t_bent a_t_need a_t_now a_t_isKept a_t_far a_t_marginOf a_t_marginSays v_t_trace v_t_typed v_t_needTold v_t_at v_t_start v_t_sort v_t_value v_t_fault v_t_target v_t_went v_t_ender v_t_had v_t_margins (upd g_t_now (9 : Int32).toNatClampNeg ((g_t_now (9 : Int32).toNatClampNeg) - (1 : Int32)))) := hD
    refine lv_iconst (v := 0) hx hb dX9_undo_24 (by decide) ?_
    refine lv_istore_n (lv' := [(1, .int (0 : Int32)), (0, .ref a_t)]) hx hb dX9_undo_25 rfl hl (by decide) rfl (fun ls hl => ?_)
    refine lp_ind (Wh := fun (z2 : Int32 × (Nat → Int32)) => ∀ (H : Heap) (locs : List Loc), va_P G vwCl (wd_X9_undo cs a_t a_t_text a_t_opinions a_t_lines a_t_draftBook a_t_scribes a_t_turn a_t_bent a_t_need a_t_now a_t_isKept a_t_far a_t_marginOf a_t_marginSays v_t_trace v_t_typed v_t_needTold v_t_at v_t_start v_t_sort v_t_value v_t_fault v_t_target v_t_went v_t_ender v_t_had v_t_margins z2.2) H → va_D A (wd_X9_undo cs a_t a_t_text a_t_opinions a_t_lines a_t_draftBook a_t_scribes a_t_turn a_t_bent a_t_need a_t_now a_t_isKept a_t_far a_t_marginOf a_t_marginSays v_t_trace v_t_typed v_t_needTold v_t_at v_t_start v_t_sort v_t_value v_t_fault v_t_target v_t_went v_t_ender v_t_had v_t_margins z2.2) → va_S A s.heap H locs → ∀ (ls : Array Slot), lv_has ls 2 [(0, .ref a_t), (1, .int z2.1)] → W p l e rm_X9_undo s m ([.ref a_t] : List Value).toArray below meth c H locs 0 0 (MQ below (QcI G A (wd_X9_undo cs a_t a_t_text a_t_opinions a_t_lines a_t_draftBook a_t_scribes a_t_turn a_t_bent a_t_need a_t_now a_t_isKept a_t_far a_t_marginOf a_t_marginSays v_t_trace v_t_typed v_t_needTold v_t_at v_t_start v_t_sort v_t_value v_t_fault v_t_target v_t_went v_t_ender v_t_had v_t_margins R0.2) R0.1) ([.ref a_t] : List Value).toArray s 0 0 A) (F0 m 26 ls [])) ?_ FU _ _ hB hK H locs hP hD hS ls (lv_sub hl [1, 0] rfl)
    rintro ⟨z2_0, z2_1⟩ y hB hK H locs hP hD hS ls hl
    have hl : lv_has ls 2 [(0, .ref a_t), (1, .int z2_0)] := hl
    have hP : va_P G vwCl (wd_X9_undo cs a_t a_t_text a_t_opinions a_t_lines a_t_draftBook a_t_scribes a_t_turn a_t_bent a_t_need a_t_now a_t_isKept a_t_far a_t_marginOf a_t_marginSays v_t_trace v_t_typed v_t_needTold v_t_at v_t_start v_t_sort v_t_value v_t_fault v_t_target v_t_went v_t_ender v_t_had v_t_margins z2_1) H := hP
    have hD : va_D A (wd_X9_undo cs a_t a_t_text a_t_opinions a_t_lines a_t_draftBook a_t_scribes a_t_turn a_t_bent a_t_need a_t_now a_t_isKept a_t_far a_t_marginOf a_t_marginSays v_t_trace v_t_typed v_t_needTold v_t_at v_t_start v_t_sort v_t_value v_t_fault v_t_target v_t_went v_t_ender v_t_had v_t_margins z2_1) := hD
    refine lv_iload_n hx hb dX9_undo_26 rfl (lv_at hl 1 rfl) ?_
    refine lv_bipush (v := 9) hx hb dX9_undo_27 (by decide) ?_
    refine lv_icmp_ge (tgt := 64) hx hb dX9_undo_29 (by decide) (fun c_3 => ?_) (fun c_3 => ?_)
    · have hB := ifP c_3 hB
      refine lv_aload_n hx hb dX9_undo_64 rfl (lv_at hl 0 rfl) ?_
      refine va_get (D := G) (ci := 9) (v := .ref a_t_now) (C := RX9) (T := TX9) (N := 26) hx hb hg inX9 hown hKT hP 0 rfl rfl 16 (by decide) (hg _ gF_X9_35) (fun _ h9 => h9) rfl dX9_undo_65 ?_
      refine lv_bipush (v := 9) hx hb dX9_undo_68 (by decide) ?_
      refine va_iald hx hb hKT hP 1 0 rfl rfl (vinC (by decide)) dX9_undo_70 ?_
      have hK := leafK hB hK
      have hK := elimR hK
      have hK : (z2_1 (9 : Int32).toNatClampNeg, z2_1) = R0 := hK
      subst hK
      exact W.iret (v := z2_1 (9 : Int32).toNatClampNeg) hx hb hr (fun t ht hW => ⟨⟨_, (), rfl, rfl, by rw [ht]; exact hP, hD⟩, hS.F ht⟩) hS.2.2 dX9_undo_71
    · have hB := ifN c_3 hB
      refine lv_aload_n hx hb dX9_undo_32 rfl (lv_at hl 0 rfl) ?_
      refine va_get (D := G) (ci := 9) (v := .ref a_t_now) (C := RX9) (T := TX9) (N := 26) hx hb hg inX9 hown hKT hP 0 rfl rfl 16 (by decide) (hg _ gF_X9_35) (fun _ h9 => h9) rfl dX9_undo_33 ?_
      refine lv_iload_n hx hb dX9_undo_36 rfl (lv_at hl 1 rfl) ?_
      refine lv_aload_n hx hb dX9_undo_37 rfl (lv_at hl 0 rfl) ?_
      refine va_get (D := G) (ci := 9) (v := .ref a_t_now) (C := RX9) (T := TX9) (N := 26) hx hb hg inX9 hown hKT hP 0 rfl rfl 16 (by decide) (hg _ gF_X9_35) (fun _ h9 => h9) rfl dX9_undo_38 ?_
      refine lv_bipush (v := 10) hx hb dX9_undo_41 (by decide) ?_
      refine lv_bipush (v := 9) hx hb dX9_undo_43 (by decide) ?_
      refine lv_aload_n hx hb dX9_undo_45 rfl (lv_at hl 0 rfl) ?_
      refine va_get (D := G) (ci := 9) (v := .ref a_t_now) (C := RX9) (T := TX9) (N := 26) hx hb hg inX9 hown hKT hP 0 rfl rfl 16 (by decide) (hg _ gF_X9_35) (fun _ h9 => h9) rfl dX9_undo_46 ?_
      refine lv_bipush (v := 9) hx hb dX9_undo_49 (by decide) ?_
      refine va_iald hx hb hKT hP 1 0 rfl rfl (vinC (by decide)) dX9_undo_51 ?_
      refine lv_imul hx hb dX9_undo_52 ?_
      refine lv_iadd hx hb dX9_undo_53 ?_
      refine lv_iload_n hx hb dX9_undo_54 rfl (lv_at hl 1 rfl) ?_
      refine lv_iadd hx hb dX9_undo_55 ?_
      obtain ⟨h_4, hB⟩ := ifS hB
      refine va_iald hx hb hKT hP 1 0 rfl rfl h_4 dX9_undo_56 ?_
      obtain ⟨h_5, hB⟩ := ifS hB
      refine va_iast hx hb hKT hP hD hS 1 0 rfl rfl h_5 dX9_undo_57 (fun H locs hP hD hS => ?_)
      have hP : va_P G vwCl (wd_X9_undo cs a_t a_t_text a_t_opinions a_t_lines a_t_draftBook a_t_scribes a_t_turn a_t_bent a_t_need a_t_now a_t_isKept a_t_far a_t_marginOf a_t_marginSays v_t_trace v_t_typed v_t_needTold v_t_at v_t_start v_t_sort v_t_value v_t_fault v_t_target v_t_went v_t_ender v_t_had v_t_margins (upd z2_1 z2_0.toNatClampNeg (z2_1 (((10 : Int32) + ((9 : Int32) * (z2_1 (9 : Int32).toNatClampNeg))) + z2_0).toNatClampNeg))) H := hP
      have hD : va_D A (wd_X9_undo cs a_t a_t_text a_t_opinions a_t_lines a_t_draftBook a_t_scribes a_t_turn a_t_bent a_t_need a_t_now a_t_isKept a_t_far a_t_marginOf a_t_marginSays v_t_trace v_t_typed v_t_needTold v_t_at v_t_start v_t_sort v_t_value v_t_fault v_t_target v_t_went v_t_ender v_t_had v_t_margins (upd z2_1 z2_0.toNatClampNeg (z2_1 (((10 : Int32) + ((9 : Int32) * (z2_1 (9 : Int32).toNatClampNeg))) + z2_0).toNatClampNeg))) := hD
      refine lv_iinc (v := z2_0 + (1 : Int32)) (lv' := [(1, .int (z2_0 + (1 : Int32))), (0, .ref a_t)]) hx hb dX9_undo_58 hl (k := 1) rfl (inc_ok (by decide)) (by decide) rfl (fun ls hl => ?_)
      refine lv_goto (tgt := 26) hx hb dX9_undo_61 (by decide) ?_
      have hK := leafK hB hK
      have hK := elimL hK
      exact hK H locs hP hD hS ls (lv_sub hl [1, 0] rfl)
  · have hB := ifP c_1 hB
    refine lv_bipush (v := -2) hx hb dX9_undo_10 (by decide) ?_
    have hK := leafK hB hK
    have hK : ((-2 : Int32), g_t_now) = R0 := hK
    subst hK
    exact W.iret (v := (-2 : Int32)) hx hb hr (fun t ht hW => ⟨⟨_, (), rfl, rfl, by rw [ht]; exact hP, hD⟩, hS.F ht⟩) hS.2.2 dX9_undo_12
def wd_X9_mayCome (cs : Nat → ClassId) (a_t a_t_text a_t_opinions a_t_lines a_t_draftBook a_t_scribes a_t_turn a_t_bent a_t_need a_t_now a_t_isKept a_t_far a_t_marginOf a_t_marginSays : Nat) (v_t_trace : Int64) (v_t_typed : Int32) (v_t_needTold : Int32) (v_t_at : Int32) (v_t_start : Int32) (v_t_sort : Int32) (v_t_value : Int32) (v_t_fault : Int32) (v_t_target : Int32) (v_t_went : Int32) (v_t_ender : Int32) (v_t_had : Int32) (v_t_margins : Int32) (g_t_opinions : Nat → Int32) (g_t_lines : Nat → Int32) (g_t_turn : Nat → Int32) (g_t_bent : Nat → Int32) (g_t_need : Nat → Int32) (g_t_now : Nat → Int32) : va_W := [(a_t, .inr (9, [.long v_t_trace, .ref a_t_text, .int v_t_typed, .ref a_t_opinions, .ref a_t_lines, .ref a_t_draftBook, .ref a_t_scribes, .ref a_t_turn, .ref a_t_bent, .ref a_t_need, .int v_t_needTold, .int v_t_at, .int v_t_start, .int v_t_sort, .int v_t_value, .int v_t_fault, .ref a_t_now, .ref a_t_isKept, .int v_t_target, .int v_t_went, .int v_t_ender, .int v_t_had, .ref a_t_far, .ref a_t_marginOf, .ref a_t_marginSays, .int v_t_margins])), (a_t_opinions, .inl (cs 0, 2, .inl g_t_opinions)), (a_t_lines, .inl (cs 0, 2, .inl g_t_lines)), (a_t_turn, .inl (cs 0, 12, .inl g_t_turn)), (a_t_bent, .inl (cs 0, 12, .inl g_t_bent)), (a_t_need, .inl (cs 0, 2, .inl g_t_need)), (a_t_now, .inl (cs 0, 300, .inl g_t_now))]
def rm_X9_mayCome : Room := { frames := 3, cells := 0, slots := 0, locals := 70 }
theorem mI_X9_mayCome : MI yX9_mayCome RX9 cX9_mayCome 3 (some .boolean) 2 := ⟨gI_X9_mayCome, gE_X9_mayCome, gN_X9, gC_X9_mayCome, by decide +kernel⟩
set_option maxHeartbeats 4000000 in
set_option maxRecDepth 100000 in
theorem k_X9_mayCome (l : Launch) (G : va_G) (cs : Nat → ClassId) (a_t a_t_text a_t_opinions a_t_lines a_t_draftBook a_t_scribes a_t_turn a_t_bent a_t_need a_t_now a_t_isKept a_t_far a_t_marginOf a_t_marginSays : Nat) (v_t_trace : Int64) (v_t_typed : Int32) (v_t_needTold : Int32) (v_t_at : Int32) (v_t_start : Int32) (v_t_sort : Int32) (v_t_value : Int32) (v_t_fault : Int32) (v_t_target : Int32) (v_t_went : Int32) (v_t_ender : Int32) (v_t_had : Int32) (v_t_margins : Int32) (g_t_opinions : Nat → Int32) (g_t_lines : Nat → Int32) (g_t_turn : Nat → Int32) (g_t_bent : Nat → Int32) (g_t_need : Nat → Int32) (g_t_now : Nat → Int32) (p1 p2 : Int32) (R0 : Int32) (hB : f_X9_mayCome g_t_opinions g_t_lines g_t_turn g_t_bent g_t_need g_t_now p1 p2 = some R0) : Met l yX9_mayCome (.code yX9_mayCome cX9_mayCome 3 (some .boolean) :: GW) rm_X9_mayCome (PcR G cs [.ref a_t, .int p1, .int p2] (wd_X9_mayCome cs a_t a_t_text a_t_opinions a_t_lines a_t_draftBook a_t_scribes a_t_turn a_t_bent a_t_need a_t_now a_t_isKept a_t_far a_t_marginOf a_t_marginSays v_t_trace v_t_typed v_t_needTold v_t_at v_t_start v_t_sort v_t_value v_t_fault v_t_target v_t_went v_t_ender v_t_had v_t_margins g_t_opinions g_t_lines g_t_turn g_t_bent g_t_need g_t_now)) (vp_Si (fun r => r = R0)) 0 0 (fun _ => False) := by
  refine Met.ofW (cc := cX9_mayCome) (maxL := 3) (ret := (some .boolean)) (by decide) rfl ?_
  intro p e s m args below meth c s₁ B hml hv
  obtain ⟨rfl, hP, hK, hN⟩ := hv
  have hx := B.exec
  have hb := B.bytes
  have hr := B.returns
  have hts := atoms_spec (ws := .code yX9_mayCome cX9_mayCome 3 (some .boolean) :: GW) B.pre
  have hg : ∀ w ∈ GW, w.before _ s = true := fun w h => hts w (List.mem_cons_of_mem _ h)
  have hown : s.vm.findClass RX9 = some m.cls := findClass_of_methodNamed B.named
  have hlocks := B.notSynchronized
  have hl := lv_entry ([.ref a_t, .int p1, .int p2]) (n := 3) (Nat.le_of_ble_eq_true rfl)
  rw [lg_entry_eq]
  generalize (lg_sl ([.ref a_t, .int p1, .int p2]) ++ List.replicate (3 - (lg_sl ([.ref a_t, .int p1, .int p2])).length) Slot.unset).toArray = ls at hl ⊢
  have hl : lv_has ls 3 [(0, .ref a_t), (1, .int p1), (2, .int p2)] := hl
  obtain ⟨y, hB, hK0⟩ : ∃ y, f_X9_mayCome g_t_opinions g_t_lines g_t_turn g_t_bent g_t_need g_t_now p1 p2 = some y ∧ KEnd R0 y := ⟨R0, hB, rfl⟩
  have hKT := hK
  have hK := hK0
  show W p l e rm_X9_mayCome s m ([.ref a_t, .int p1, .int p2] : List Value).toArray below meth c s.heap [] 0 0 (MQ below (vp_Si (fun r => r = R0)) ([.ref a_t, .int p1, .int p2] : List Value).toArray s 0 0 (fun _ => False)) (F0 m 0 ls [])
  refine lv_aload_n hx hb dX9_mayCome_0 rfl (lv_at hl 0 rfl) ?_
  refine lv_iload_n hx hb dX9_mayCome_1 rfl (lv_at hl 1 rfl) ?_
  refine lv_iload_n hx hb dX9_mayCome_2 rfl (lv_at hl 2 rfl) ?_
  obtain ⟨q1, hq1, hB⟩ := bnd hB
  refine kr_V (WC := wd_X9_isConvinced cs a_t a_t_text a_t_opinions a_t_lines a_t_draftBook a_t_scribes a_t_turn a_t_bent a_t_need a_t_now a_t_isKept a_t_far a_t_marginOf a_t_marginSays v_t_trace v_t_typed v_t_needTold v_t_at v_t_start v_t_sort v_t_value v_t_fault v_t_target v_t_went v_t_ender v_t_had v_t_margins g_t_opinions g_t_lines g_t_turn g_t_bent g_t_need) (As := [.int p1, .int p2]) (rest := []) (r0 := q1) ⟨hx, hb, hml, hown, hg⟩ (k_X9_isConvinced l G cs a_t a_t_text a_t_opinions a_t_lines a_t_draftBook a_t_scribes a_t_turn a_t_bent a_t_need a_t_now a_t_isKept a_t_far a_t_marginOf a_t_marginSays v_t_trace v_t_typed v_t_needTold v_t_at v_t_start v_t_sort v_t_value v_t_fault v_t_target v_t_went v_t_ender v_t_had v_t_margins g_t_opinions g_t_lines g_t_turn g_t_bent g_t_need p1 p2 q1 hq1) gM_X9_136 mI_X9_isConvinced (rmk rfl) hP hKT hN 0 rfl rfl [0, 1, 2, 3, 4, 5] rfl rfl hl.1 rfl (Nat.le_of_ble_eq_true rfl) dX9_mayCome_3 ?_
  refine lv_if_ne (tgt := 28) hx hb dX9_mayCome_6 (by decide) (fun c_2 => ?_) (fun c_2 => ?_)
  · have hB := ifN c_2 hB
    refine lv_iconst (v := 0) hx hb dX9_mayCome_28 (by decide) ?_
    have hK := leafK hB hK
    have hK : (0 : Int32) = R0 := hK
    subst hK
    exact W.zret (v := (0 : Int32)) (ty := .boolean) hx hb hr rfl (fun t ht hW => ⟨_, rfl, rfl, ht⟩) (fun _ h => by cases h) dX9_mayCome_29
  · have hB := ifP c_2 hB
    refine lv_aload_n hx hb dX9_mayCome_9 rfl (lv_at hl 0 rfl) ?_
    refine lv_iload_n hx hb dX9_mayCome_10 rfl (lv_at hl 1 rfl) ?_
    refine lv_iload_n hx hb dX9_mayCome_11 rfl (lv_at hl 2 rfl) ?_
    obtain ⟨q3, hq3, hB⟩ := bnd hB
    refine kr_V (WC := wd_X9_copyOf cs a_t a_t_text a_t_opinions a_t_lines a_t_draftBook a_t_scribes a_t_turn a_t_bent a_t_need a_t_now a_t_isKept a_t_far a_t_marginOf a_t_marginSays v_t_trace v_t_typed v_t_needTold v_t_at v_t_start v_t_sort v_t_value v_t_fault v_t_target v_t_went v_t_ender v_t_had v_t_margins g_t_opinions g_t_lines g_t_turn g_t_bent) (As := [.int p1, .int p2]) (rest := []) (r0 := q3) ⟨hx, hb, hml, hown, hg⟩ (k_X9_copyOf l G cs a_t a_t_text a_t_opinions a_t_lines a_t_draftBook a_t_scribes a_t_turn a_t_bent a_t_need a_t_now a_t_isKept a_t_far a_t_marginOf a_t_marginSays v_t_trace v_t_typed v_t_needTold v_t_at v_t_start v_t_sort v_t_value v_t_fault v_t_target v_t_went v_t_ender v_t_had v_t_margins g_t_opinions g_t_lines g_t_turn g_t_bent p1 p2 q3 hq3) gM_X9_126 mI_X9_copyOf (rmk rfl) hP hKT hN 0 rfl rfl [0, 1, 2, 3, 4] rfl rfl hl.1 rfl (Nat.le_of_ble_eq_true rfl) dX9_mayCome_12 ?_
    refine lv_aload_n hx hb dX9_mayCome_15 rfl (lv_at hl 0 rfl) ?_
    refine va_get (D := G) (ci := 9) (v := .ref a_t_now) (C := RX9) (T := TX9) (N := 26) hx hb hg inX9 hown hKT hP 0 rfl rfl 16 (by decide) (hg _ gF_X9_35) (fun _ h9 => h9) rfl dX9_mayCome_16 ?_
    refine lv_iconst (v := 0) hx hb dX9_mayCome_19 (by decide) ?_
    refine va_iald hx hb hKT hP 6 0 rfl rfl (vinC (by decide)) dX9_mayCome_20 ?_
    refine lv_icmp_ne (tgt := 28) hx hb dX9_mayCome_21 (by decide) (fun c_4 => ?_) (fun c_4 => ?_)
    · have hB := ifN c_4 hB
      refine lv_iconst (v := 0) hx hb dX9_mayCome_28 (by decide) ?_
      have hK := leafK hB hK
      have hK : (0 : Int32) = R0 := hK
      subst hK
      exact W.zret (v := (0 : Int32)) (ty := .boolean) hx hb hr rfl (fun t ht hW => ⟨_, rfl, rfl, ht⟩) (fun _ h => by cases h) dX9_mayCome_29
    · have hB := ifP c_4 hB
      refine lv_iconst (v := 1) hx hb dX9_mayCome_24 (by decide) ?_
      refine lv_goto (tgt := 29) hx hb dX9_mayCome_25 (by decide) ?_
      have hK := leafK hB hK
      have hK : (1 : Int32) = R0 := hK
      subst hK
      exact W.zret (v := (1 : Int32)) (ty := .boolean) hx hb hr rfl (fun t ht hW => ⟨_, rfl, rfl, ht⟩) (fun _ h => by cases h) dX9_mayCome_29
def wd_X9_fromOf (cs : Nat → ClassId) (a_t a_t_text a_t_opinions a_t_lines a_t_draftBook a_t_scribes a_t_turn a_t_bent a_t_need a_t_now a_t_isKept a_t_far a_t_marginOf a_t_marginSays : Nat) (v_t_trace : Int64) (v_t_typed : Int32) (v_t_needTold : Int32) (v_t_at : Int32) (v_t_start : Int32) (v_t_sort : Int32) (v_t_value : Int32) (v_t_fault : Int32) (v_t_target : Int32) (v_t_went : Int32) (v_t_ender : Int32) (v_t_had : Int32) (v_t_margins : Int32) (g_t_opinions : Nat → Int32) (g_t_lines : Nat → Int32) (g_t_turn : Nat → Int32) (g_t_bent : Nat → Int32) (g_t_need : Nat → Int32) (g_t_now : Nat → Int32) : va_W := [(a_t, .inr (9, [.long v_t_trace, .ref a_t_text, .int v_t_typed, .ref a_t_opinions, .ref a_t_lines, .ref a_t_draftBook, .ref a_t_scribes, .ref a_t_turn, .ref a_t_bent, .ref a_t_need, .int v_t_needTold, .int v_t_at, .int v_t_start, .int v_t_sort, .int v_t_value, .int v_t_fault, .ref a_t_now, .ref a_t_isKept, .int v_t_target, .int v_t_went, .int v_t_ender, .int v_t_had, .ref a_t_far, .ref a_t_marginOf, .ref a_t_marginSays, .int v_t_margins])), (a_t_opinions, .inl (cs 0, 2, .inl g_t_opinions)), (a_t_lines, .inl (cs 0, 2, .inl g_t_lines)), (a_t_turn, .inl (cs 0, 12, .inl g_t_turn)), (a_t_bent, .inl (cs 0, 12, .inl g_t_bent)), (a_t_need, .inl (cs 0, 2, .inl g_t_need)), (a_t_now, .inl (cs 0, 300, .inl g_t_now))]
def rm_X9_fromOf : Room := { frames := 4, cells := 0, slots := 0, locals := 92 }
theorem mI_X9_fromOf : MI yX9_fromOf RX9 cX9_fromOf 4 (some .int) 1 := ⟨gI_X9_fromOf, gE_X9_fromOf, gN_X9, gC_X9_fromOf, by decide +kernel⟩
set_option maxHeartbeats 4000000 in
set_option maxRecDepth 100000 in
theorem k_X9_fromOf (l : Launch) (G : va_G) (cs : Nat → ClassId) (a_t a_t_text a_t_opinions a_t_lines a_t_draftBook a_t_scribes a_t_turn a_t_bent a_t_need a_t_now a_t_isKept a_t_far a_t_marginOf a_t_marginSays : Nat) (v_t_trace : Int64) (v_t_typed : Int32) (v_t_needTold : Int32) (v_t_at : Int32) (v_t_start : Int32) (v_t_sort : Int32) (v_t_value : Int32) (v_t_fault : Int32) (v_t_target : Int32) (v_t_went : Int32) (v_t_ender : Int32) (v_t_had : Int32) (v_t_margins : Int32) (g_t_opinions : Nat → Int32) (g_t_lines : Nat → Int32) (g_t_turn : Nat → Int32) (g_t_bent : Nat → Int32) (g_t_need : Nat → Int32) (g_t_now : Nat → Int32) (p1 : Int32) (R0 : Int32) (hB : f_X9_fromOf g_t_opinions g_t_lines g_t_turn g_t_bent g_t_need g_t_now p1 = some R0) : Met l yX9_fromOf (.code yX9_fromOf cX9_fromOf 4 (some .int) :: GW) rm_X9_fromOf (PcR G cs [.ref a_t, .int p1] (wd_X9_fromOf cs a_t a_t_text a_t_opinions a_t_lines a_t_draftBook a_t_scribes a_t_turn a_t_bent a_t_need a_t_now a_t_isKept a_t_far a_t_marginOf a_t_marginSays v_t_trace v_t_typed v_t_needTold v_t_at v_t_start v_t_sort v_t_value v_t_fault v_t_target v_t_went v_t_ender v_t_had v_t_margins g_t_opinions g_t_lines g_t_turn g_t_bent g_t_need g_t_now)) (vp_Si (fun r => r = R0)) 0 0 (fun _ => False) := by
  refine Met.ofW (cc := cX9_fromOf) (maxL := 4) (ret := (some .int)) (by decide) rfl ?_
  intro p e s m args below meth c s₁ B hml hv
  obtain ⟨rfl, hP, hK, hN⟩ := hv
  have hx := B.exec
  have hb := B.bytes
  have hr := B.returns
  have hts := atoms_spec (ws := .code yX9_fromOf cX9_fromOf 4 (some .int) :: GW) B.pre
  have hg : ∀ w ∈ GW, w.before _ s = true := fun w h => hts w (List.mem_cons_of_mem _ h)
  have hown : s.vm.findClass RX9 = some m.cls := findClass_of_methodNamed B.named
  have hlocks := B.notSynchronized
  have hl := lv_entry ([.ref a_t, .int p1]) (n := 4) (Nat.le_of_ble_eq_true rfl)
  rw [lg_entry_eq]
  generalize (lg_sl ([.ref a_t, .int p1]) ++ List.replicate (4 - (lg_sl ([.ref a_t, .int p1])).length) Slot.unset).toArray = ls at hl ⊢
  have hl : lv_has ls 4 [(0, .ref a_t), (1, .int p1)] := hl
  obtain ⟨y, hB, hK0⟩ : ∃ y, f_X9_fromOf g_t_opinions g_t_lines g_t_turn g_t_bent g_t_need g_t_now p1 = some y ∧ KEnd R0 y := ⟨R0, hB, rfl⟩
  have hKT := hK
  have hK := hK0
  show W p l e rm_X9_fromOf s m ([.ref a_t, .int p1] : List Value).toArray below meth c s.heap [] 0 0 (MQ below (vp_Si (fun r => r = R0)) ([.ref a_t, .int p1] : List Value).toArray s 0 0 (fun _ => False)) (F0 m 0 ls [])
  refine lv_iconst (v := 0) hx hb dX9_fromOf_0 (by decide) ?_
  refine lv_istore_n (lv' := [(2, .int (0 : Int32)), (0, .ref a_t), (1, .int p1)]) hx hb dX9_fromOf_1 rfl hl (by decide) rfl (fun ls hl => ?_)
  refine lv_iconst (v := 0) hx hb dX9_fromOf_2 (by decide) ?_
  refine lv_istore_n (lv' := [(3, .int (0 : Int32)), (2, .int (0 : Int32)), (0, .ref a_t), (1, .int p1)]) hx hb dX9_fromOf_3 rfl hl (by decide) rfl (fun ls hl => ?_)
  refine lp_ind (Wh := fun (z1 : Int32 × Int32) => ∀ (ls : Array Slot), lv_has ls 4 [(0, .ref a_t), (1, .int p1), (2, .int z1.1), (3, .int z1.2)] → W p l e rm_X9_fromOf s m ([.ref a_t, .int p1] : List Value).toArray below meth c s.heap [] 0 0 (MQ below (vp_Si (fun r => r = R0)) ([.ref a_t, .int p1] : List Value).toArray s 0 0 (fun _ => False)) (F0 m 4 ls [])) ?_ FU _ _ hB hK ls (lv_sub hl [2, 3, 1, 0] rfl)
  rintro ⟨z1_0, z1_1⟩ y hB hK ls hl
  have hl : lv_has ls 4 [(0, .ref a_t), (1, .int p1), (2, .int z1_0), (3, .int z1_1)] := hl
  refine lv_iload_n hx hb dX9_fromOf_4 rfl (lv_at hl 3 rfl) ?_
  refine lv_aload_n hx hb dX9_fromOf_5 rfl (lv_at hl 0 rfl) ?_
  obtain ⟨q2, hq2, hB⟩ := bnd hB
  refine kr_V (WC := wd_X9_books cs a_t a_t_text a_t_opinions a_t_lines a_t_draftBook a_t_scribes a_t_turn a_t_bent a_t_need a_t_now a_t_isKept a_t_far a_t_marginOf a_t_marginSays v_t_trace v_t_typed v_t_needTold v_t_at v_t_start v_t_sort v_t_value v_t_fault v_t_target v_t_went v_t_ender v_t_had v_t_margins g_t_opinions g_t_lines) (As := []) (rest := [.int z1_1]) (r0 := q2) ⟨hx, hb, hml, hown, hg⟩ (k_X9_books l G cs a_t a_t_text a_t_opinions a_t_lines a_t_draftBook a_t_scribes a_t_turn a_t_bent a_t_need a_t_now a_t_isKept a_t_far a_t_marginOf a_t_marginSays v_t_trace v_t_typed v_t_needTold v_t_at v_t_start v_t_sort v_t_value v_t_fault v_t_target v_t_went v_t_ender v_t_had v_t_margins g_t_opinions g_t_lines q2 hq2) gM_X9_152 mI_X9_books (rmk rfl) hP hKT hN 0 rfl rfl [0, 1, 2] rfl rfl hl.1 rfl (Nat.le_of_ble_eq_true rfl) dX9_fromOf_6 ?_
  refine lv_icmp_ge (tgt := 35) hx hb dX9_fromOf_9 (by decide) (fun c_3 => ?_) (fun c_3 => ?_)
  · have hB := ifP c_3 hB
    refine lv_iload_n hx hb dX9_fromOf_35 rfl (lv_at hl 2 rfl) ?_
    have hK := leafK hB hK
    have hK := elimR hK
    have hK : z1_0 = R0 := hK
    subst hK
    exact W.iret (v := z1_0) hx hb hr (fun t ht hW => ⟨_, rfl, rfl, ht⟩) (fun _ h => by cases h) dX9_fromOf_36
  · have hB := ifN c_3 hB
    refine lv_iload_n hx hb dX9_fromOf_12 rfl (lv_at hl 2 rfl) ?_
    refine lv_aload_n hx hb dX9_fromOf_13 rfl (lv_at hl 0 rfl) ?_
    refine lv_iload_n hx hb dX9_fromOf_14 rfl (lv_at hl 1 rfl) ?_
    refine lv_iload_n hx hb dX9_fromOf_15 rfl (lv_at hl 3 rfl) ?_
    obtain ⟨q4, hq4, hB⟩ := bnd hB
    refine kr_V (WC := wd_X9_mayCome cs a_t a_t_text a_t_opinions a_t_lines a_t_draftBook a_t_scribes a_t_turn a_t_bent a_t_need a_t_now a_t_isKept a_t_far a_t_marginOf a_t_marginSays v_t_trace v_t_typed v_t_needTold v_t_at v_t_start v_t_sort v_t_value v_t_fault v_t_target v_t_went v_t_ender v_t_had v_t_margins g_t_opinions g_t_lines g_t_turn g_t_bent g_t_need g_t_now) (As := [.int p1, .int z1_1]) (rest := [.int z1_0]) (r0 := q4) ⟨hx, hb, hml, hown, hg⟩ (k_X9_mayCome l G cs a_t a_t_text a_t_opinions a_t_lines a_t_draftBook a_t_scribes a_t_turn a_t_bent a_t_need a_t_now a_t_isKept a_t_far a_t_marginOf a_t_marginSays v_t_trace v_t_typed v_t_needTold v_t_at v_t_start v_t_sort v_t_value v_t_fault v_t_target v_t_went v_t_ender v_t_had v_t_margins g_t_opinions g_t_lines g_t_turn g_t_bent g_t_need g_t_now p1 z1_1 q4 hq4) gM_X9_155 mI_X9_mayCome (rmk rfl) hP hKT hN 0 rfl rfl [0, 1, 2, 3, 4, 5, 6] rfl rfl hl.1 rfl (Nat.le_of_ble_eq_true rfl) dX9_fromOf_16 ?_
    refine lv_if_eq (tgt := 26) hx hb dX9_fromOf_19 (by decide) (fun c_5 => ?_) (fun c_5 => ?_)
    · have hB := ifP c_5 hB
      refine lv_iconst (v := 0) hx hb dX9_fromOf_26 (by decide) ?_
      refine lv_iadd hx hb dX9_fromOf_27 ?_
      refine lv_istore_n (lv' := [(2, .int (z1_0 + (0 : Int32))), (0, .ref a_t), (1, .int p1), (3, .int z1_1)]) hx hb dX9_fromOf_28 rfl hl (by decide) rfl (fun ls hl => ?_)
      refine lv_iinc (v := z1_1 + (1 : Int32)) (lv' := [(3, .int (z1_1 + (1 : Int32))), (2, .int (z1_0 + (0 : Int32))), (0, .ref a_t), (1, .int p1)]) hx hb dX9_fromOf_29 hl (k := 3) rfl (inc_ok (by decide)) (by decide) rfl (fun ls hl => ?_)
      refine lv_goto (tgt := 4) hx hb dX9_fromOf_32 (by decide) ?_
      have hK := leafK hB hK
      have hK := elimL hK
      exact hK ls (lv_sub hl [2, 3, 1, 0] rfl)
    · have hB := ifN c_5 hB
      refine lv_iconst (v := 1) hx hb dX9_fromOf_22 (by decide) ?_
      refine lv_goto (tgt := 27) hx hb dX9_fromOf_23 (by decide) ?_
      refine lv_iadd hx hb dX9_fromOf_27 ?_
      refine lv_istore_n (lv' := [(2, .int (z1_0 + (1 : Int32))), (0, .ref a_t), (1, .int p1), (3, .int z1_1)]) hx hb dX9_fromOf_28 rfl hl (by decide) rfl (fun ls hl => ?_)
      refine lv_iinc (v := z1_1 + (1 : Int32)) (lv' := [(3, .int (z1_1 + (1 : Int32))), (2, .int (z1_0 + (1 : Int32))), (0, .ref a_t), (1, .int p1)]) hx hb dX9_fromOf_29 hl (k := 3) rfl (inc_ok (by decide)) (by decide) rfl (fun ls hl => ?_)
      refine lv_goto (tgt := 4) hx hb dX9_fromOf_32 (by decide) ?_
      have hK := leafK hB hK
      have hK := elimL hK
      exact hK ls (lv_sub hl [2, 3, 1, 0] rfl)
def wd_X9_same (cs : Nat → ClassId) (a_t a_t_text a_t_opinions a_t_lines a_t_draftBook a_t_scribes a_t_turn a_t_bent a_t_need a_t_now a_t_isKept a_t_far a_t_marginOf a_t_marginSays : Nat) (v_t_trace : Int64) (v_t_typed : Int32) (v_t_needTold : Int32) (v_t_at : Int32) (v_t_start : Int32) (v_t_sort : Int32) (v_t_value : Int32) (v_t_fault : Int32) (v_t_target : Int32) (v_t_went : Int32) (v_t_ender : Int32) (v_t_had : Int32) (v_t_margins : Int32) (g_t_opinions : Nat → Int32) (g_t_lines : Nat → Int32) (g_t_scribes : Nat → Int32) (g_t_turn : Nat → Int32) (g_t_bent : Nat → Int32) (g_t_need : Nat → Int32) (g_t_now : Nat → Int32) : va_W := [(a_t, .inr (9, [.long v_t_trace, .ref a_t_text, .int v_t_typed, .ref a_t_opinions, .ref a_t_lines, .ref a_t_draftBook, .ref a_t_scribes, .ref a_t_turn, .ref a_t_bent, .ref a_t_need, .int v_t_needTold, .int v_t_at, .int v_t_start, .int v_t_sort, .int v_t_value, .int v_t_fault, .ref a_t_now, .ref a_t_isKept, .int v_t_target, .int v_t_went, .int v_t_ender, .int v_t_had, .ref a_t_far, .ref a_t_marginOf, .ref a_t_marginSays, .int v_t_margins])), (a_t_opinions, .inl (cs 0, 2, .inl g_t_opinions)), (a_t_lines, .inl (cs 0, 2, .inl g_t_lines)), (a_t_scribes, .inl (cs 0, 2, .inl g_t_scribes)), (a_t_turn, .inl (cs 0, 12, .inl g_t_turn)), (a_t_bent, .inl (cs 0, 12, .inl g_t_bent)), (a_t_need, .inl (cs 0, 2, .inl g_t_need)), (a_t_now, .inl (cs 0, 300, .inl g_t_now))]
def rm_X9_same : Room := { frames := 4, cells := 0, slots := 0, locals := 92 }
theorem mI_X9_same : MI yX9_same RX9 cX9_same 6 (some .int) 0 := ⟨gI_X9_same, gE_X9_same, gN_X9, gC_X9_same, by decide +kernel⟩
set_option maxHeartbeats 4000000 in
set_option maxRecDepth 100000 in
theorem k_X9_same (l : Launch) (G : va_G) (cs : Nat → ClassId) (a_t a_t_text a_t_opinions a_t_lines a_t_draftBook a_t_scribes a_t_turn a_t_bent a_t_need a_t_now a_t_isKept a_t_far a_t_marginOf a_t_marginSays : Nat) (v_t_trace : Int64) (v_t_typed : Int32) (v_t_needTold : Int32) (v_t_at : Int32) (v_t_start : Int32) (v_t_sort : Int32) (v_t_value : Int32) (v_t_fault : Int32) (v_t_target : Int32) (v_t_went : Int32) (v_t_ender : Int32) (v_t_had : Int32) (v_t_margins : Int32) (g_t_opinions : Nat → Int32) (g_t_lines : Nat → Int32) (g_t_scribes : Nat → Int32) (g_t_turn : Nat → Int32) (g_t_bent : Nat → Int32) (g_t_need : Nat → Int32) (g_t_now : Nat → Int32) (R0 : Int32) (hB : f_X9_same g_t_opinions g_t_lines g_t_scribes g_t_turn g_t_bent g_t_need g_t_now = some R0) : Met l yX9_same (.code yX9_same cX9_same 6 (some .int) :: GW) rm_X9_same (PcR G cs [.ref a_t] (wd_X9_same cs a_t a_t_text a_t_opinions a_t_lines a_t_draftBook a_t_scribes a_t_turn a_t_bent a_t_need a_t_now a_t_isKept a_t_far a_t_marginOf a_t_marginSays v_t_trace v_t_typed v_t_needTold v_t_at v_t_start v_t_sort v_t_value v_t_fault v_t_target v_t_went v_t_ender v_t_had v_t_margins g_t_opinions g_t_lines g_t_scribes g_t_turn g_t_bent g_t_need g_t_now)) (vp_Si (fun r => r = R0)) 0 0 (fun _ => False) := by
  refine Met.ofW (cc := cX9_same) (maxL := 6) (ret := (some .int)) (by decide) rfl ?_
  intro p e s m args below meth c s₁ B hml hv
  obtain ⟨rfl, hP, hK, hN⟩ := hv
  have hx := B.exec
  have hb := B.bytes
  have hr := B.returns
  have hts := atoms_spec (ws := .code yX9_same cX9_same 6 (some .int) :: GW) B.pre
  have hg : ∀ w ∈ GW, w.before _ s = true := fun w h => hts w (List.mem_cons_of_mem _ h)
  have hown : s.vm.findClass RX9 = some m.cls := findClass_of_methodNamed B.named
  have hlocks := B.notSynchronized
  have hl := lv_entry ([.ref a_t]) (n := 6) (Nat.le_of_ble_eq_true rfl)
  rw [lg_entry_eq]
  generalize (lg_sl ([.ref a_t]) ++ List.replicate (6 - (lg_sl ([.ref a_t])).length) Slot.unset).toArray = ls at hl ⊢
  have hl : lv_has ls 6 [(0, .ref a_t)] := hl
  obtain ⟨y, hB, hK0⟩ : ∃ y, f_X9_same g_t_opinions g_t_lines g_t_scribes g_t_turn g_t_bent g_t_need g_t_now = some y ∧ KEnd R0 y := ⟨R0, hB, rfl⟩
  have hKT := hK
  have hK := hK0
  show W p l e rm_X9_same s m ([.ref a_t] : List Value).toArray below meth c s.heap [] 0 0 (MQ below (vp_Si (fun r => r = R0)) ([.ref a_t] : List Value).toArray s 0 0 (fun _ => False)) (F0 m 0 ls [])
  refine lv_bipush (v := -9) hx hb dX9_same_0 (by decide) ?_
  refine lv_istore_n (lv' := [(1, .int (-9 : Int32)), (0, .ref a_t)]) hx hb dX9_same_2 rfl hl (by decide) rfl (fun ls hl => ?_)
  refine lv_iconst (v := 1) hx hb dX9_same_3 (by decide) ?_
  refine lv_aload_n hx hb dX9_same_4 rfl (lv_at hl 1 rfl) ?_
  refine va_get (D := G) (ci := 9) (v := .ref a_t_lines) (C := RX9) (T := TX9) (N := 26) hx hb hg inX9 hown hKT hP 0 rfl rfl 4 (by decide) (hg _ gF_X9_17) (fun _ h9 => h9) rfl dX9_same_5 ?_
  refine lv_iconst (v := 0) hx hb dX9_same_8 (by decide) ?_
  refine va_iald hx hb hKT hP 2 0 rfl rfl (vinC (by decide)) dX9_same_9 ?_
  refine lj_ishl hx hb dX9_same_10 ?_
  refine lv_iconst (v := 1) hx hb dX9_same_11 (by decide) ?_
  refine lv_isub hx hb dX9_same_12 ?_
  refine lv_istore_n (lv' := [(2, .int ((jshl (1 : Int32) (g_t_lines (0 : Int32).toNatClampNeg)) - (1 : Int32))), (1, .int (-9 : Int32)), (0, .ref a_t)]) hx hb dX9_same_13 rfl hl (by decide) rfl (fun ls hl => ?_)
  refine lv_iconst (v := 0) hx hb dX9_same_14 (by decide) ?_
  refine lv_istore_n (lv' := [(3, .int (0 : Int32)), (2, .int ((jshl (1 : Int32) (g_t_lines (0 : Int32).toNatClampNeg)) - (1 : Int32))), (1, .int (-9 : Int32)), (0, .ref a_t)]) hx hb dX9_same_15 rfl hl (by decide) rfl (fun ls hl => ?_)
  refine lp_ind (Wh := fun (z1 : Int32 × Int32 × Int32) => ∀ (ls : Array Slot), lv_has ls 6 [(0, .ref a_t), (1, .int z1.1), (2, .int z1.2.1), (3, .int z1.2.2)] → W p l e rm_X9_same s m ([.ref a_t] : List Value).toArray below meth c s.heap [] 0 0 (MQ below (vp_Si (fun r => r = R0)) ([.ref a_t] : List Value).toArray s 0 0 (fun _ => False)) (F0 m 16 ls [])) ?_ FU _ _ hB hK ls (lv_sub hl [3, 2, 1, 0] rfl)
  rintro ⟨z1_0, z1_1, z1_2⟩ y hB hK ls hl
  have hl : lv_has ls 6 [(0, .ref a_t), (1, .int z1_0), (2, .int z1_1), (3, .int z1_2)] := hl
  refine lv_iload_n hx hb dX9_same_16 rfl (lv_at hl 3 rfl) ?_
  refine lv_aload_n hx hb dX9_same_17 rfl (lv_at hl 0 rfl) ?_
  obtain ⟨q2, hq2, hB⟩ := bnd hB
  refine kr_V (WC := wd_X9_books cs a_t a_t_text a_t_opinions a_t_lines a_t_draftBook a_t_scribes a_t_turn a_t_bent a_t_need a_t_now a_t_isKept a_t_far a_t_marginOf a_t_marginSays v_t_trace v_t_typed v_t_needTold v_t_at v_t_start v_t_sort v_t_value v_t_fault v_t_target v_t_went v_t_ender v_t_had v_t_margins g_t_opinions g_t_lines) (As := []) (rest := [.int z1_2]) (r0 := q2) ⟨hx, hb, hml, hown, hg⟩ (k_X9_books l G cs a_t a_t_text a_t_opinions a_t_lines a_t_draftBook a_t_scribes a_t_turn a_t_bent a_t_need a_t_now a_t_isKept a_t_far a_t_marginOf a_t_marginSays v_t_trace v_t_typed v_t_needTold v_t_at v_t_start v_t_sort v_t_value v_t_fault v_t_target v_t_went v_t_ender v_t_had v_t_margins g_t_opinions g_t_lines q2 hq2) gM_X9_152 mI_X9_books (rmk rfl) hP hKT hN 0 rfl rfl [0, 1, 2] rfl rfl hl.1 rfl (Nat.le_of_ble_eq_true rfl) dX9_same_18 ?_
  refine lv_icmp_ge (tgt := 147) hx hb dX9_same_21 (by decide) (fun c_3 => ?_) (fun c_3 => ?_)
  · have hB := ifP c_3 hB
    refine lv_iload_n hx hb dX9_same_147 rfl (lv_at hl 1 rfl) ?_
    refine lv_bipush (v := -9) hx hb dX9_same_148 (by decide) ?_
    refine lv_icmp_ne (tgt := 157) hx hb dX9_same_150 (by decide) (fun c_4 => ?_) (fun c_4 => ?_)
    · have hB := ifN c_4 hB
      refine lv_iload_n hx hb dX9_same_157 rfl (lv_at hl 2 rfl) ?_
      have hK := leafK hB hK
      have hK := elimR hK
      have hK : z1_1 = R0 := hK
      subst hK
      exact W.iret (v := z1_1) hx hb hr (fun t ht hW => ⟨_, rfl, rfl, ht⟩) (fun _ h => by cases h) dX9_same_158
    · have hB := ifP c_4 hB
      refine lv_iconst (v := 0) hx hb dX9_same_153 (by decide) ?_
      refine lv_goto (tgt := 158) hx hb dX9_same_154 (by decide) ?_
      have hK := leafK hB hK
      have hK := elimR hK
      have hK : (0 : Int32) = R0 := hK
      subst hK
      exact W.iret (v := (0 : Int32)) hx hb hr (fun t ht hW => ⟨_, rfl, rfl, ht⟩) (fun _ h => by cases h) dX9_same_158
  · have hB := ifN c_3 hB
    refine lv_iconst (v := 0) hx hb dX9_same_24 (by decide) ?_
    refine lv_istore (lv' := [(4, .int (0 : Int32)), (0, .ref a_t), (1, .int z1_0), (2, .int z1_1), (3, .int z1_2)]) hx hb dX9_same_25 hl (by decide) rfl (fun ls hl => ?_)
    refine lv_iconst (v := 0) hx hb dX9_same_27 (by decide) ?_
    refine lv_istore (lv' := [(5, .int (0 : Int32)), (4, .int (0 : Int32)), (0, .ref a_t), (1, .int z1_0), (2, .int z1_1), (3, .int z1_2)]) hx hb dX9_same_28 hl (by decide) rfl (fun ls hl => ?_)
    refine lp_ind (Wh := fun (z5 : Int32 × Int32) => ∀ (ls : Array Slot), lv_has ls 6 [(0, .ref a_t), (1, .int z1_0), (2, .int z1_1), (3, .int z1_2), (4, .int z5.1), (5, .int z5.2)] → W p l e rm_X9_same s m ([.ref a_t] : List Value).toArray below meth c s.heap [] 0 0 (MQ below (vp_Si (fun r => r = R0)) ([.ref a_t] : List Value).toArray s 0 0 (fun _ => False)) (F0 m 30 ls [])) ?_ FU _ _ hB hK ls (lv_sub hl [2, 3, 4, 5, 1, 0] rfl)
    rintro ⟨z5_0, z5_1⟩ y hB hK ls hl
    have hl : lv_has ls 6 [(0, .ref a_t), (1, .int z1_0), (2, .int z1_1), (3, .int z1_2), (4, .int z5_0), (5, .int z5_1)] := hl
    refine lv_iload hx hb dX9_same_30 (lv_at hl 5 rfl) ?_
    refine lv_aload_n hx hb dX9_same_32 rfl (lv_at hl 0 rfl) ?_
    refine va_get (D := G) (ci := 9) (v := .ref a_t_scribes) (C := RX9) (T := TX9) (N := 26) hx hb hg inX9 hown hKT hP 0 rfl rfl 6 (by decide) (hg _ gF_X9_23) (fun _ h9 => h9) rfl dX9_same_33 ?_
    refine lv_iconst (v := 0) hx hb dX9_same_36 (by decide) ?_
    refine va_iald hx hb hKT hP 3 0 rfl rfl (vinC (by decide)) dX9_same_37 ?_
    refine lv_icmp_ge (tgt := 69) hx hb dX9_same_38 (by decide) (fun c_6 => ?_) (fun c_6 => ?_)
    · have hB := ifP c_6 hB
      refine lv_iload hx hb dX9_same_69 (lv_at hl 4 rfl) ?_
      refine lv_if_eq (tgt := 84) hx hb dX9_same_71 (by decide) (fun c_7 => ?_) (fun c_7 => ?_)
      · have hB := ifP c_7 hB
        refine lv_iload_n hx hb dX9_same_84 rfl (lv_at hl 1 rfl) ?_
        refine lv_istore_n (lv' := [(1, .int z1_0), (0, .ref a_t), (2, .int z1_1), (3, .int z1_2), (4, .int z5_0), (5, .int z5_1)]) hx hb dX9_same_85 rfl hl (by decide) rfl (fun ls hl => ?_)
        refine lv_iconst (v := 0) hx hb dX9_same_86 (by decide) ?_
        refine lv_istore (lv' := [(5, .int (0 : Int32)), (1, .int z1_0), (0, .ref a_t), (2, .int z1_1), (3, .int z1_2), (4, .int z5_0)]) hx hb dX9_same_87 hl (by decide) rfl (fun ls hl => ?_)
        obtain ⟨y8, hB, hy8⟩ := bnd hB
        have hK := leafK hy8 hK
        have hK := elimR hK
        refine lp_ind (Wh := fun (z9 : Int32 × Int32) => ∀ (ls : Array Slot), lv_has ls 6 [(0, .ref a_t), (1, .int z1_0), (2, .int z9.1), (3, .int z1_2), (4, .int z5_0), (5, .int z9.2)] → W p l e rm_X9_same s m ([.ref a_t] : List Value).toArray below meth c s.heap [] 0 0 (MQ below (vp_Si (fun r => r = R0)) ([.ref a_t] : List Value).toArray s 0 0 (fun _ => False)) (F0 m 89 ls [])) ?_ FU _ _ hB hK ls (lv_sub hl [2, 1, 3, 4, 5, 0] rfl)
        rintro ⟨z9_0, z9_1⟩ y hB hK ls hl
        have hl : lv_has ls 6 [(0, .ref a_t), (1, .int z1_0), (2, .int z9_0), (3, .int z1_2), (4, .int z5_0), (5, .int z9_1)] := hl
        refine lv_iload hx hb dX9_same_89 (lv_at hl 5 rfl) ?_
        refine lv_aload_n hx hb dX9_same_91 rfl (lv_at hl 0 rfl) ?_
        refine va_get (D := G) (ci := 9) (v := .ref a_t_lines) (C := RX9) (T := TX9) (N := 26) hx hb hg inX9 hown hKT hP 0 rfl rfl 4 (by decide) (hg _ gF_X9_17) (fun _ h9 => h9) rfl dX9_same_92 ?_
        refine lv_iconst (v := 0) hx hb dX9_same_95 (by decide) ?_
        refine va_iald hx hb hKT hP 2 0 rfl rfl (vinC (by decide)) dX9_same_96 ?_
        refine lv_icmp_ge (tgt := 141) hx hb dX9_same_97 (by decide) (fun c_10 => ?_) (fun c_10 => ?_)
        · have hB := ifP c_10 hB
          refine lv_iinc (v := z1_2 + (1 : Int32)) (lv' := [(3, .int (z1_2 + (1 : Int32))), (0, .ref a_t), (1, .int z1_0), (2, .int z9_0), (4, .int z5_0), (5, .int z9_1)]) hx hb dX9_same_141 hl (k := 3) rfl (inc_ok (by decide)) (by decide) rfl (fun ls hl => ?_)
          refine lv_goto (tgt := 16) hx hb dX9_same_144 (by decide) ?_
          have hK := leafK hB hK
          have hK := elimR hK
          have hK := elimL hK
          exact hK ls (lv_sub hl [1, 2, 3, 0] rfl)
        · have hB := ifN c_10 hB
          refine lv_iload hx hb dX9_same_100 (lv_at hl 4 rfl) ?_
          refine lv_if_eq (tgt := 141) hx hb dX9_same_102 (by decide) (fun c_11 => ?_) (fun c_11 => ?_)
          · have hB := ifP c_11 hB
            refine lv_iinc (v := z1_2 + (1 : Int32)) (lv' := [(3, .int (z1_2 + (1 : Int32))), (0, .ref a_t), (1, .int z1_0), (2, .int z9_0), (4, .int z5_0), (5, .int z9_1)]) hx hb dX9_same_141 hl (k := 3) rfl (inc_ok (by decide)) (by decide) rfl (fun ls hl => ?_)
            refine lv_goto (tgt := 16) hx hb dX9_same_144 (by decide) ?_
            have hK := leafK hB hK
            have hK := elimR hK
            have hK := elimL hK
            exact hK ls (lv_sub hl [1, 2, 3, 0] rfl)
          · have hB := ifN c_11 hB
            refine lv_iload_n hx hb dX9_same_105 rfl (lv_at hl 2 rfl) ?_
            refine lv_aload_n hx hb dX9_same_106 rfl (lv_at hl 0 rfl) ?_
            refine lv_iload_n hx hb dX9_same_107 rfl (lv_at hl 3 rfl) ?_
            refine lv_iload hx hb dX9_same_108 (lv_at hl 5 rfl) ?_
            obtain ⟨q12, hq12, hB⟩ := bnd hB
            refine kr_V (WC := wd_X9_lineOf cs a_t a_t_text a_t_opinions a_t_lines a_t_draftBook a_t_scribes a_t_turn a_t_bent a_t_need a_t_now a_t_isKept a_t_far a_t_marginOf a_t_marginSays v_t_trace v_t_typed v_t_needTold v_t_at v_t_start v_t_sort v_t_value v_t_fault v_t_target v_t_went v_t_ender v_t_had v_t_margins g_t_opinions g_t_lines) (As := [.int z1_2, .int z9_1]) (rest := [.int z9_0]) (r0 := q12) ⟨hx, hb, hml, hown, hg⟩ (k_X9_lineOf l G cs a_t a_t_text a_t_opinions a_t_lines a_t_draftBook a_t_scribes a_t_turn a_t_bent a_t_need a_t_now a_t_isKept a_t_far a_t_marginOf a_t_marginSays v_t_trace v_t_typed v_t_needTold v_t_at v_t_start v_t_sort v_t_value v_t_fault v_t_target v_t_went v_t_ender v_t_had v_t_margins g_t_opinions g_t_lines z1_2 z9_1 q12 hq12) gM_X9_113 mI_X9_lineOf (rmk rfl) hP hKT hN 0 rfl rfl [0, 1, 2] rfl rfl hl.1 rfl (Nat.le_of_ble_eq_true rfl) dX9_same_110 ?_
            refine lv_aload_n hx hb dX9_same_113 rfl (lv_at hl 0 rfl) ?_
            refine lv_iload_n hx hb dX9_same_114 rfl (lv_at hl 1 rfl) ?_
            refine lv_iload hx hb dX9_same_115 (lv_at hl 5 rfl) ?_
            obtain ⟨q13, hq13, hB⟩ := bnd hB
            refine kr_V (WC := wd_X9_lineOf cs a_t a_t_text a_t_opinions a_t_lines a_t_draftBook a_t_scribes a_t_turn a_t_bent a_t_need a_t_now a_t_isKept a_t_far a_t_marginOf a_t_marginSays v_t_trace v_t_typed v_t_needTold v_t_at v_t_start v_t_sort v_t_value v_t_fault v_t_target v_t_went v_t_ender v_t_had v_t_margins g_t_opinions g_t_lines) (As := [.int z1_0, .int z9_1]) (rest := [.int q12, .int z9_0]) (r0 := q13) ⟨hx, hb, hml, hown, hg⟩ (k_X9_lineOf l G cs a_t a_t_text a_t_opinions a_t_lines a_t_draftBook a_t_scribes a_t_turn a_t_bent a_t_need a_t_now a_t_isKept a_t_far a_t_marginOf a_t_marginSays v_t_trace v_t_typed v_t_needTold v_t_at v_t_start v_t_sort v_t_value v_t_fault v_t_target v_t_went v_t_ender v_t_had v_t_margins g_t_opinions g_t_lines z1_0 z9_1 q13 hq13) gM_X9_113 mI_X9_lineOf (rmk rfl) hP hKT hN 0 rfl rfl [0, 1, 2] rfl rfl hl.1 rfl (Nat.le_of_ble_eq_true rfl) dX9_same_117 ?_
            refine lv_icmp_ne (tgt := 127) hx hb dX9_same_120 (by decide) (fun c_14 => ?_) (fun c_14 => ?_)
            · have hB := ifN c_14 hB
              refine lv_iconst (v := 1) hx hb dX9_same_127 (by decide) ?_
              refine lv_iload hx hb dX9_same_128 (lv_at hl 5 rfl) ?_
              refine lj_ishl hx hb dX9_same_130 ?_
              refine lv_iconst (v := -1) hx hb dX9_same_131 (by decide) ?_
              refine lv_ixor hx hb dX9_same_132 ?_
              refine lv_iand hx hb dX9_same_133 ?_
              refine lv_istore_n (lv' := [(2, .int (z9_0 &&& ((jshl (1 : Int32) z9_1) ^^^ (-1 : Int32)))), (0, .ref a_t), (1, .int z1_0), (3, .int z1_2), (4, .int z5_0), (5, .int z9_1)]) hx hb dX9_same_134 rfl hl (by decide) rfl (fun ls hl => ?_)
              refine lv_iinc (v := z9_1 + (1 : Int32)) (lv' := [(5, .int (z9_1 + (1 : Int32))), (2, .int (z9_0 &&& ((jshl (1 : Int32) z9_1) ^^^ (-1 : Int32)))), (0, .ref a_t), (1, .int z1_0), (3, .int z1_2), (4, .int z5_0)]) hx hb dX9_same_135 hl (k := 5) rfl (inc_ok (by decide)) (by decide) rfl (fun ls hl => ?_)
              refine lv_goto (tgt := 89) hx hb dX9_same_138 (by decide) ?_
              have hK := leafK hB hK
              have hK := elimL hK
              exact hK ls (lv_sub hl [2, 3, 1, 4, 5, 0] rfl)
            · have hB := ifP c_14 hB
              refine lv_iconst (v := -1) hx hb dX9_same_123 (by decide) ?_
              refine lv_goto (tgt := 133) hx hb dX9_same_124 (by decide) ?_
              refine lv_iand hx hb dX9_same_133 ?_
              refine lv_istore_n (lv' := [(2, .int (z9_0 &&& (-1 : Int32))), (0, .ref a_t), (1, .int z1_0), (3, .int z1_2), (4, .int z5_0), (5, .int z9_1)]) hx hb dX9_same_134 rfl hl (by decide) rfl (fun ls hl => ?_)
              refine lv_iinc (v := z9_1 + (1 : Int32)) (lv' := [(5, .int (z9_1 + (1 : Int32))), (2, .int (z9_0 &&& (-1 : Int32))), (0, .ref a_t), (1, .int z1_0), (3, .int z1_2), (4, .int z5_0)]) hx hb dX9_same_135 hl (k := 5) rfl (inc_ok (by decide)) (by decide) rfl (fun ls hl => ?_)
              refine lv_goto (tgt := 89) hx hb dX9_same_138 (by decide) ?_
              have hK := leafK hB hK
              have hK := elimL hK
              exact hK ls (lv_sub hl [2, 3, 1, 4, 5, 0] rfl)
      · have hB := ifN c_7 hB
        refine lv_iload_n hx hb dX9_same_74 rfl (lv_at hl 1 rfl) ?_
        refine lv_bipush (v := -9) hx hb dX9_same_75 (by decide) ?_
        refine lv_icmp_ne (tgt := 84) hx hb dX9_same_77 (by decide) (fun c_15 => ?_) (fun c_15 => ?_)
        · have hB := ifN c_15 hB
          refine lv_iload_n hx hb dX9_same_84 rfl (lv_at hl 1 rfl) ?_
          refine lv_istore_n (lv' := [(1, .int z1_0), (0, .ref a_t), (2, .int z1_1), (3, .int z1_2), (4, .int z5_0), (5, .int z5_1)]) hx hb dX9_same_85 rfl hl (by decide) rfl (fun ls hl => ?_)
          refine lv_iconst (v := 0) hx hb dX9_same_86 (by decide) ?_
          refine lv_istore (lv' := [(5, .int (0 : Int32)), (1, .int z1_0), (0, .ref a_t), (2, .int z1_1), (3, .int z1_2), (4, .int z5_0)]) hx hb dX9_same_87 hl (by decide) rfl (fun ls hl => ?_)
          obtain ⟨y16, hB, hy16⟩ := bnd hB
          have hK := leafK hy16 hK
          have hK := elimR hK
          refine lp_ind (Wh := fun (z17 : Int32 × Int32) => ∀ (ls : Array Slot), lv_has ls 6 [(0, .ref a_t), (1, .int z1_0), (2, .int z17.1), (3, .int z1_2), (4, .int z5_0), (5, .int z17.2)] → W p l e rm_X9_same s m ([.ref a_t] : List Value).toArray below meth c s.heap [] 0 0 (MQ below (vp_Si (fun r => r = R0)) ([.ref a_t] : List Value).toArray s 0 0 (fun _ => False)) (F0 m 89 ls [])) ?_ FU _ _ hB hK ls (lv_sub hl [2, 1, 3, 4, 5, 0] rfl)
          rintro ⟨z17_0, z17_1⟩ y hB hK ls hl
          have hl : lv_has ls 6 [(0, .ref a_t), (1, .int z1_0), (2, .int z17_0), (3, .int z1_2), (4, .int z5_0), (5, .int z17_1)] := hl
          refine lv_iload hx hb dX9_same_89 (lv_at hl 5 rfl) ?_
          refine lv_aload_n hx hb dX9_same_91 rfl (lv_at hl 0 rfl) ?_
          refine va_get (D := G) (ci := 9) (v := .ref a_t_lines) (C := RX9) (T := TX9) (N := 26) hx hb hg inX9 hown hKT hP 0 rfl rfl 4 (by decide) (hg _ gF_X9_17) (fun _ h9 => h9) rfl dX9_same_92 ?_
          refine lv_iconst (v := 0) hx hb dX9_same_95 (by decide) ?_
          refine va_iald hx hb hKT hP 2 0 rfl rfl (vinC (by decide)) dX9_same_96 ?_
          refine lv_icmp_ge (tgt := 141) hx hb dX9_same_97 (by decide) (fun c_18 => ?_) (fun c_18 => ?_)
          · have hB := ifP c_18 hB
            refine lv_iinc (v := z1_2 + (1 : Int32)) (lv' := [(3, .int (z1_2 + (1 : Int32))), (0, .ref a_t), (1, .int z1_0), (2, .int z17_0), (4, .int z5_0), (5, .int z17_1)]) hx hb dX9_same_141 hl (k := 3) rfl (inc_ok (by decide)) (by decide) rfl (fun ls hl => ?_)
            refine lv_goto (tgt := 16) hx hb dX9_same_144 (by decide) ?_
            have hK := leafK hB hK
            have hK := elimR hK
            have hK := elimL hK
            exact hK ls (lv_sub hl [1, 2, 3, 0] rfl)
          · have hB := ifN c_18 hB
            refine lv_iload hx hb dX9_same_100 (lv_at hl 4 rfl) ?_
            refine lv_if_eq (tgt := 141) hx hb dX9_same_102 (by decide) (fun c_19 => ?_) (fun c_19 => ?_)
            · have hB := ifP c_19 hB
              refine lv_iinc (v := z1_2 + (1 : Int32)) (lv' := [(3, .int (z1_2 + (1 : Int32))), (0, .ref a_t), (1, .int z1_0), (2, .int z17_0), (4, .int z5_0), (5, .int z17_1)]) hx hb dX9_same_141 hl (k := 3) rfl (inc_ok (by decide)) (by decide) rfl (fun ls hl => ?_)
              refine lv_goto (tgt := 16) hx hb dX9_same_144 (by decide) ?_
              have hK := leafK hB hK
              have hK := elimR hK
              have hK := elimL hK
              exact hK ls (lv_sub hl [1, 2, 3, 0] rfl)
            · have hB := ifN c_19 hB
              refine lv_iload_n hx hb dX9_same_105 rfl (lv_at hl 2 rfl) ?_
              refine lv_aload_n hx hb dX9_same_106 rfl (lv_at hl 0 rfl) ?_
              refine lv_iload_n hx hb dX9_same_107 rfl (lv_at hl 3 rfl) ?_
              refine lv_iload hx hb dX9_same_108 (lv_at hl 5 rfl) ?_
              obtain ⟨q20, hq20, hB⟩ := bnd hB
              refine kr_V (WC := wd_X9_lineOf cs a_t a_t_text a_t_opinions a_t_lines a_t_draftBook a_t_scribes a_t_turn a_t_bent a_t_need a_t_now a_t_isKept a_t_far a_t_marginOf a_t_marginSays v_t_trace v_t_typed v_t_needTold v_t_at v_t_start v_t_sort v_t_value v_t_fault v_t_target v_t_went v_t_ender v_t_had v_t_margins g_t_opinions g_t_lines) (As := [.int z1_2, .int z17_1]) (rest := [.int z17_0]) (r0 := q20) ⟨hx, hb, hml, hown, hg⟩ (k_X9_lineOf l G cs a_t a_t_text a_t_opinions a_t_lines a_t_draftBook a_t_scribes a_t_turn a_t_bent a_t_need a_t_now a_t_isKept a_t_far a_t_marginOf a_t_marginSays v_t_trace v_t_typed v_t_needTold v_t_at v_t_start v_t_sort v_t_value v_t_fault v_t_target v_t_went v_t_ender v_t_had v_t_margins g_t_opinions g_t_lines z1_2 z17_1 q20 hq20) gM_X9_113 mI_X9_lineOf (rmk rfl) hP hKT hN 0 rfl rfl [0, 1, 2] rfl rfl hl.1 rfl (Nat.le_of_ble_eq_true rfl) dX9_same_110 ?_
              refine lv_aload_n hx hb dX9_same_113 rfl (lv_at hl 0 rfl) ?_
              refine lv_iload_n hx hb dX9_same_114 rfl (lv_at hl 1 rfl) ?_
              refine lv_iload hx hb dX9_same_115 (lv_at hl 5 rfl) ?_
              obtain ⟨q21, hq21, hB⟩ := bnd hB
              refine kr_V (WC := wd_X9_lineOf cs a_t a_t_text a_t_opinions a_t_lines a_t_draftBook a_t_scribes a_t_turn a_t_bent a_t_need a_t_now a_t_isKept a_t_far a_t_marginOf a_t_marginSays v_t_trace v_t_typed v_t_needTold v_t_at v_t_start v_t_sort v_t_value v_t_fault v_t_target v_t_went v_t_ender v_t_had v_t_margins g_t_opinions g_t_lines) (As := [.int z1_0, .int z17_1]) (rest := [.int q20, .int z17_0]) (r0 := q21) ⟨hx, hb, hml, hown, hg⟩ (k_X9_lineOf l G cs a_t a_t_text a_t_opinions a_t_lines a_t_draftBook a_t_scribes a_t_turn a_t_bent a_t_need a_t_now a_t_isKept a_t_far a_t_marginOf a_t_marginSays v_t_trace v_t_typed v_t_needTold v_t_at v_t_start v_t_sort v_t_value v_t_fault v_t_target v_t_went v_t_ender v_t_had v_t_margins g_t_opinions g_t_lines z1_0 z17_1 q21 hq21) gM_X9_113 mI_X9_lineOf (rmk rfl) hP hKT hN 0 rfl rfl [0, 1, 2] rfl rfl hl.1 rfl (Nat.le_of_ble_eq_true rfl) dX9_same_117 ?_
              refine lv_icmp_ne (tgt := 127) hx hb dX9_same_120 (by decide) (fun c_22 => ?_) (fun c_22 => ?_)
              · have hB := ifN c_22 hB
                refine lv_iconst (v := 1) hx hb dX9_same_127 (by decide) ?_
                refine lv_iload hx hb dX9_same_128 (lv_at hl 5 rfl) ?_
                refine lj_ishl hx hb dX9_same_130 ?_
                refine lv_iconst (v := -1) hx hb dX9_same_131 (by decide) ?_
                refine lv_ixor hx hb dX9_same_132 ?_
                refine lv_iand hx hb dX9_same_133 ?_
                refine lv_istore_n (lv' := [(2, .int (z17_0 &&& ((jshl (1 : Int32) z17_1) ^^^ (-1 : Int32)))), (0, .ref a_t), (1, .int z1_0), (3, .int z1_2), (4, .int z5_0), (5, .int z17_1)]) hx hb dX9_same_134 rfl hl (by decide) rfl (fun ls hl => ?_)
                refine lv_iinc (v := z17_1 + (1 : Int32)) (lv' := [(5, .int (z17_1 + (1 : Int32))), (2, .int (z17_0 &&& ((jshl (1 : Int32) z17_1) ^^^ (-1 : Int32)))), (0, .ref a_t), (1, .int z1_0), (3, .int z1_2), (4, .int z5_0)]) hx hb dX9_same_135 hl (k := 5) rfl (inc_ok (by decide)) (by decide) rfl (fun ls hl => ?_)
                refine lv_goto (tgt := 89) hx hb dX9_same_138 (by decide) ?_
                have hK := leafK hB hK
                have hK := elimL hK
                exact hK ls (lv_sub hl [2, 3, 1, 4, 5, 0] rfl)
              · have hB := ifP c_22 hB
                refine lv_iconst (v := -1) hx hb dX9_same_123 (by decide) ?_
                refine lv_goto (tgt := 133) hx hb dX9_same_124 (by decide) ?_
                refine lv_iand hx hb dX9_same_133 ?_
                refine lv_istore_n (lv' := [(2, .int (z17_0 &&& (-1 : Int32))), (0, .ref a_t), (1, .int z1_0), (3, .int z1_2), (4, .int z5_0), (5, .int z17_1)]) hx hb dX9_same_134 rfl hl (by decide) rfl (fun ls hl => ?_)
                refine lv_iinc (v := z17_1 + (1 : Int32)) (lv' := [(5, .int (z17_1 + (1 : Int32))), (2, .int (z17_0 &&& (-1 : Int32))), (0, .ref a_t), (1, .int z1_0), (3, .int z1_2), (4, .int z5_0)]) hx hb dX9_same_135 hl (k := 5) rfl (inc_ok (by decide)) (by decide) rfl (fun ls hl => ?_)
                refine lv_goto (tgt := 89) hx hb dX9_same_138 (by decide) ?_
                have hK := leafK hB hK
                have hK := elimL hK
                exact hK ls (lv_sub hl [2, 3, 1, 4, 5, 0] rfl)
        · have hB := ifP c_15 hB
          refine lv_iload_n hx hb dX9_same_80 rfl (lv_at hl 3 rfl) ?_
          refine lv_goto (tgt := 85) hx hb dX9_same_81 (by decide) ?_
          refine lv_istore_n (lv' := [(1, .int z1_2), (0, .ref a_t), (2, .int z1_1), (3, .int z1_2), (4, .int z5_0), (5, .int z5_1)]) hx hb dX9_same_85 rfl hl (by decide) rfl (fun ls hl => ?_)
          refine lv_iconst (v := 0) hx hb dX9_same_86 (by decide) ?_
          refine lv_istore (lv' := [(5, .int (0 : Int32)), (1, .int z1_2), (0, .ref a_t), (2, .int z1_1), (3, .int z1_2), (4, .int z5_0)]) hx hb dX9_same_87 hl (by decide) rfl (fun ls hl => ?_)
          obtain ⟨y23, hB, hy23⟩ := bnd hB
          have hK := leafK hy23 hK
          have hK := elimR hK
          refine lp_ind (Wh := fun (z24 : Int32 × Int32) => ∀ (ls : Array Slot), lv_has ls 6 [(0, .ref a_t), (1, .int z1_2), (2, .int z24.1), (3, .int z1_2), (4, .int z5_0), (5, .int z24.2)] → W p l e rm_X9_same s m ([.ref a_t] : List Value).toArray below meth c s.heap [] 0 0 (MQ below (vp_Si (fun r => r = R0)) ([.ref a_t] : List Value).toArray s 0 0 (fun _ => False)) (F0 m 89 ls [])) ?_ FU _ _ hB hK ls (lv_sub hl [2, 1, 3, 4, 5, 0] rfl)
          rintro ⟨z24_0, z24_1⟩ y hB hK ls hl
          have hl : lv_has ls 6 [(0, .ref a_t), (1, .int z1_2), (2, .int z24_0), (3, .int z1_2), (4, .int z5_0), (5, .int z24_1)] := hl
          refine lv_iload hx hb dX9_same_89 (lv_at hl 5 rfl) ?_
          refine lv_aload_n hx hb dX9_same_91 rfl (lv_at hl 0 rfl) ?_
          refine va_get (D := G) (ci := 9) (v := .ref a_t_lines) (C := RX9) (T := TX9) (N := 26) hx hb hg inX9 hown hKT hP 0 rfl rfl 4 (by decide) (hg _ gF_X9_17) (fun _ h9 => h9) rfl dX9_same_92 ?_
          refine lv_iconst (v := 0) hx hb dX9_same_95 (by decide) ?_
          refine va_iald hx hb hKT hP 2 0 rfl rfl (vinC (by decide)) dX9_same_96 ?_
          refine lv_icmp_ge (tgt := 141) hx hb dX9_same_97 (by decide) (fun c_25 => ?_) (fun c_25 => ?_)
          · have hB := ifP c_25 hB
            refine lv_iinc (v := z1_2 + (1 : Int32)) (lv' := [(3, .int (z1_2 + (1 : Int32))), (0, .ref a_t), (1, .int z1_2), (2, .int z24_0), (4, .int z5_0), (5, .int z24_1)]) hx hb dX9_same_141 hl (k := 3) rfl (inc_ok (by decide)) (by decide) rfl (fun ls hl => ?_)
            refine lv_goto (tgt := 16) hx hb dX9_same_144 (by decide) ?_
            have hK := leafK hB hK
            have hK := elimR hK
            have hK := elimL hK
            exact hK ls (lv_sub hl [1, 2, 3, 0] rfl)
          · have hB := ifN c_25 hB
            refine lv_iload hx hb dX9_same_100 (lv_at hl 4 rfl) ?_
            refine lv_if_eq (tgt := 141) hx hb dX9_same_102 (by decide) (fun c_26 => ?_) (fun c_26 => ?_)
            · have hB := ifP c_26 hB
              refine lv_iinc (v := z1_2 + (1 : Int32)) (lv' := [(3, .int (z1_2 + (1 : Int32))), (0, .ref a_t), (1, .int z1_2), (2, .int z24_0), (4, .int z5_0), (5, .int z24_1)]) hx hb dX9_same_141 hl (k := 3) rfl (inc_ok (by decide)) (by decide) rfl (fun ls hl => ?_)
              refine lv_goto (tgt := 16) hx hb dX9_same_144 (by decide) ?_
              have hK := leafK hB hK
              have hK := elimR hK
              have hK := elimL hK
              exact hK ls (lv_sub hl [1, 2, 3, 0] rfl)
            · have hB := ifN c_26 hB
              refine lv_iload_n hx hb dX9_same_105 rfl (lv_at hl 2 rfl) ?_
              refine lv_aload_n hx hb dX9_same_106 rfl (lv_at hl 0 rfl) ?_
              refine lv_iload_n hx hb dX9_same_107 rfl (lv_at hl 3 rfl) ?_
              refine lv_iload hx hb dX9_same_108 (lv_at hl 5 rfl) ?_
              obtain ⟨q27, hq27, hB⟩ := bnd hB
              refine kr_V (WC := wd_X9_lineOf cs a_t a_t_text a_t_opinions a_t_lines a_t_draftBook a_t_scribes a_t_turn a_t_bent a_t_need a_t_now a_t_isKept a_t_far a_t_marginOf a_t_marginSays v_t_trace v_t_typed v_t_needTold v_t_at v_t_start v_t_sort v_t_value v_t_fault v_t_target v_t_went v_t_ender v_t_had v_t_margins g_t_opinions g_t_lines) (As := [.int z1_2, .int z24_1]) (rest := [.int z24_0]) (r0 := q27) ⟨hx, hb, hml, hown, hg⟩ (k_X9_lineOf l G cs a_t a_t_text a_t_opinions a_t_lines a_t_draftBook a_t_scribes a_t_turn a_t_bent a_t_need a_t_now a_t_isKept a_t_far a_t_marginOf a_t_marginSays v_t_trace v_t_typed v_t_needTold v_t_at v_t_start v_t_sort v_t_value v_t_fault v_t_target v_t_went v_t_ender v_t_had v_t_margins g_t_opinions g_t_lines z1_2 z24_1 q27 hq27) gM_X9_113 mI_X9_lineOf (rmk rfl) hP hKT hN 0 rfl rfl [0, 1, 2] rfl rfl hl.1 rfl (Nat.le_of_ble_eq_true rfl) dX9_same_110 ?_
              refine lv_aload_n hx hb dX9_same_113 rfl (lv_at hl 0 rfl) ?_
              refine lv_iload_n hx hb dX9_same_114 rfl (lv_at hl 1 rfl) ?_
              refine lv_iload hx hb dX9_same_115 (lv_at hl 5 rfl) ?_
              obtain ⟨q28, hq28, hB⟩ := bnd hB
              refine kr_V (WC := wd_X9_lineOf cs a_t a_t_text a_t_opinions a_t_lines a_t_draftBook a_t_scribes a_t_turn a_t_bent a_t_need a_t_now a_t_isKept a_t_far a_t_marginOf a_t_marginSays v_t_trace v_t_typed v_t_needTold v_t_at v_t_start v_t_sort v_t_value v_t_fault v_t_target v_t_went v_t_ender v_t_had v_t_margins g_t_opinions g_t_lines) (As := [.int z1_2, .int z24_1]) (rest := [.int q27, .int z24_0]) (r0 := q28) ⟨hx, hb, hml, hown, hg⟩ (k_X9_lineOf l G cs a_t a_t_text a_t_opinions a_t_lines a_t_draftBook a_t_scribes a_t_turn a_t_bent a_t_need a_t_now a_t_isKept a_t_far a_t_marginOf a_t_marginSays v_t_trace v_t_typed v_t_needTold v_t_at v_t_start v_t_sort v_t_value v_t_fault v_t_target v_t_went v_t_ender v_t_had v_t_margins g_t_opinions g_t_lines z1_2 z24_1 q28 hq28) gM_X9_113 mI_X9_lineOf (rmk rfl) hP hKT hN 0 rfl rfl [0, 1, 2] rfl rfl hl.1 rfl (Nat.le_of_ble_eq_true rfl) dX9_same_117 ?_
              refine lv_icmp_ne (tgt := 127) hx hb dX9_same_120 (by decide) (fun c_29 => ?_) (fun c_29 => ?_)
              · have hB := ifN c_29 hB
                refine lv_iconst (v := 1) hx hb dX9_same_127 (by decide) ?_
                refine lv_iload hx hb dX9_same_128 (lv_at hl 5 rfl) ?_
                refine lj_ishl hx hb dX9_same_130 ?_
                refine lv_iconst (v := -1) hx hb dX9_same_131 (by decide) ?_
                refine lv_ixor hx hb dX9_same_132 ?_
                refine lv_iand hx hb dX9_same_133 ?_
                refine lv_istore_n (lv' := [(2, .int (z24_0 &&& ((jshl (1 : Int32) z24_1) ^^^ (-1 : Int32)))), (0, .ref a_t), (1, .int z1_2), (3, .int z1_2), (4, .int z5_0), (5, .int z24_1)]) hx hb dX9_same_134 rfl hl (by decide) rfl (fun ls hl => ?_)
                refine lv_iinc (v := z24_1 + (1 : Int32)) (lv' := [(5, .int (z24_1 + (1 : Int32))), (2, .int (z24_0 &&& ((jshl (1 : Int32) z24_1) ^^^ (-1 : Int32)))), (0, .ref a_t), (1, .int z1_2), (3, .int z1_2), (4, .int z5_0)]) hx hb dX9_same_135 hl (k := 5) rfl (inc_ok (by decide)) (by decide) rfl (fun ls hl => ?_)
                refine lv_goto (tgt := 89) hx hb dX9_same_138 (by decide) ?_
                have hK := leafK hB hK
                have hK := elimL hK
                exact hK ls (lv_sub hl [2, 3, 1, 4, 5, 0] rfl)
              · have hB := ifP c_29 hB
                refine lv_iconst (v := -1) hx hb dX9_same_123 (by decide) ?_
                refine lv_goto (tgt := 133) hx hb dX9_same_124 (by decide) ?_
                refine lv_iand hx hb dX9_same_133 ?_
                refine lv_istore_n (lv' := [(2, .int (z24_0 &&& (-1 : Int32))), (0, .ref a_t), (1, .int z1_2), (3, .int z1_2), (4, .int z5_0), (5, .int z24_1)]) hx hb dX9_same_134 rfl hl (by decide) rfl (fun ls hl => ?_)
                refine lv_iinc (v := z24_1 + (1 : Int32)) (lv' := [(5, .int (z24_1 + (1 : Int32))), (2, .int (z24_0 &&& (-1 : Int32))), (0, .ref a_t), (1, .int z1_2), (3, .int z1_2), (4, .int z5_0)]) hx hb dX9_same_135 hl (k := 5) rfl (inc_ok (by decide)) (by decide) rfl (fun ls hl => ?_)
                refine lv_goto (tgt := 89) hx hb dX9_same_138 (by decide) ?_
                have hK := leafK hB hK
                have hK := elimL hK
                exact hK ls (lv_sub hl [2, 3, 1, 4, 5, 0] rfl)
    · have hB := ifN c_6 hB
      refine lv_iload hx hb dX9_same_41 (lv_at hl 4 rfl) ?_
      refine lv_if_ne (tgt := 56) hx hb dX9_same_43 (by decide) (fun c_30 => ?_) (fun c_30 => ?_)
      · have hB := ifN c_30 hB
        refine lv_iconst (v := 1) hx hb dX9_same_56 (by decide) ?_
        refine lv_goto (tgt := 61) hx hb dX9_same_57 (by decide) ?_
        refine lv_istore (lv' := [(4, .int (1 : Int32)), (0, .ref a_t), (1, .int z1_0), (2, .int z1_1), (3, .int z1_2), (5, .int z5_1)]) hx hb dX9_same_61 hl (by decide) rfl (fun ls hl => ?_)
        refine lv_iinc (v := z5_1 + (1 : Int32)) (lv' := [(5, .int (z5_1 + (1 : Int32))), (4, .int (1 : Int32)), (0, .ref a_t), (1, .int z1_0), (2, .int z1_1), (3, .int z1_2)]) hx hb dX9_same_63 hl (k := 5) rfl (inc_ok (by decide)) (by decide) rfl (fun ls hl => ?_)
        refine lv_goto (tgt := 30) hx hb dX9_same_66 (by decide) ?_
        have hK := leafK hB hK
        have hK := elimL hK
        exact hK ls (lv_sub hl [2, 3, 4, 5, 1, 0] rfl)
      · have hB := ifP c_30 hB
        refine lv_aload_n hx hb dX9_same_46 rfl (lv_at hl 0 rfl) ?_
        refine lv_iload hx hb dX9_same_47 (lv_at hl 5 rfl) ?_
        refine lv_iload_n hx hb dX9_same_49 rfl (lv_at hl 3 rfl) ?_
        obtain ⟨q31, hq31, hB⟩ := bnd hB
        refine kr_V (WC := wd_X9_mayCome cs a_t a_t_text a_t_opinions a_t_lines a_t_draftBook a_t_scribes a_t_turn a_t_bent a_t_need a_t_now a_t_isKept a_t_far a_t_marginOf a_t_marginSays v_t_trace v_t_typed v_t_needTold v_t_at v_t_start v_t_sort v_t_value v_t_fault v_t_target v_t_went v_t_ender v_t_had v_t_margins g_t_opinions g_t_lines g_t_turn g_t_bent g_t_need g_t_now) (As := [.int z5_1, .int z1_2]) (rest := []) (r0 := q31) ⟨hx, hb, hml, hown, hg⟩ (k_X9_mayCome l G cs a_t a_t_text a_t_opinions a_t_lines a_t_draftBook a_t_scribes a_t_turn a_t_bent a_t_need a_t_now a_t_isKept a_t_far a_t_marginOf a_t_marginSays v_t_trace v_t_typed v_t_needTold v_t_at v_t_start v_t_sort v_t_value v_t_fault v_t_target v_t_went v_t_ender v_t_had v_t_margins g_t_opinions g_t_lines g_t_turn g_t_bent g_t_need g_t_now z5_1 z1_2 q31 hq31) gM_X9_155 mI_X9_mayCome (rmk rfl) hP hKT hN 0 rfl rfl [0, 1, 2, 4, 5, 6, 7] rfl rfl hl.1 rfl (Nat.le_of_ble_eq_true rfl) dX9_same_50 ?_
        refine lv_if_eq (tgt := 60) hx hb dX9_same_53 (by decide) (fun c_32 => ?_) (fun c_32 => ?_)
        · have hB := ifP c_32 hB
          refine lv_iconst (v := 0) hx hb dX9_same_60 (by decide) ?_
          refine lv_istore (lv' := [(4, .int (0 : Int32)), (0, .ref a_t), (1, .int z1_0), (2, .int z1_1), (3, .int z1_2), (5, .int z5_1)]) hx hb dX9_same_61 hl (by decide) rfl (fun ls hl => ?_)
          refine lv_iinc (v := z5_1 + (1 : Int32)) (lv' := [(5, .int (z5_1 + (1 : Int32))), (4, .int (0 : Int32)), (0, .ref a_t), (1, .int z1_0), (2, .int z1_1), (3, .int z1_2)]) hx hb dX9_same_63 hl (k := 5) rfl (inc_ok (by decide)) (by decide) rfl (fun ls hl => ?_)
          refine lv_goto (tgt := 30) hx hb dX9_same_66 (by decide) ?_
          have hK := leafK hB hK
          have hK := elimL hK
          exact hK ls (lv_sub hl [2, 3, 4, 5, 1, 0] rfl)
        · have hB := ifN c_32 hB
          refine lv_iconst (v := 1) hx hb dX9_same_56 (by decide) ?_
          refine lv_goto (tgt := 61) hx hb dX9_same_57 (by decide) ?_
          refine lv_istore (lv' := [(4, .int (1 : Int32)), (0, .ref a_t), (1, .int z1_0), (2, .int z1_1), (3, .int z1_2), (5, .int z5_1)]) hx hb dX9_same_61 hl (by decide) rfl (fun ls hl => ?_)
          refine lv_iinc (v := z5_1 + (1 : Int32)) (lv' := [(5, .int (z5_1 + (1 : Int32))), (4, .int (1 : Int32)), (0, .ref a_t), (1, .int z1_0), (2, .int z1_1), (3, .int z1_2)]) hx hb dX9_same_63 hl (k := 5) rfl (inc_ok (by decide)) (by decide) rfl (fun ls hl => ?_)
          refine lv_goto (tgt := 30) hx hb dX9_same_66 (by decide) ?_
          have hK := leafK hB hK
          have hK := elimL hK
          exact hK ls (lv_sub hl [2, 3, 4, 5, 1, 0] rfl)
def wd_X9_isSo (cs : Nat → ClassId) (a_t a_t_text a_t_opinions a_t_lines a_t_draftBook a_t_scribes a_t_turn a_t_bent a_t_need a_t_now a_t_isKept a_t_far a_t_marginOf a_t_marginSays : Nat) (v_t_trace : Int64) (v_t_typed : Int32) (v_t_needTold : Int32) (v_t_at : Int32) (v_t_start : Int32) (v_t_sort : Int32) (v_t_value : Int32) (v_t_fault : Int32) (v_t_target : Int32) (v_t_went : Int32) (v_t_ender : Int32) (v_t_had : Int32) (v_t_margins : Int32) (g_t_opinions : Nat → Int32) (g_t_marginOf : Nat → Int32) (g_t_marginSays : Nat → Int32) : va_W := [(a_t, .inr (9, [.long v_t_trace, .ref a_t_text, .int v_t_typed, .ref a_t_opinions, .ref a_t_lines, .ref a_t_draftBook, .ref a_t_scribes, .ref a_t_turn, .ref a_t_bent, .ref a_t_need, .int v_t_needTold, .int v_t_at, .int v_t_start, .int v_t_sort, .int v_t_value, .int v_t_fault, .ref a_t_now, .ref a_t_isKept, .int v_t_target, .int v_t_went, .int v_t_ender, .int v_t_had, .ref a_t_far, .ref a_t_marginOf, .ref a_t_marginSays, .int v_t_margins])), (a_t_opinions, .inl (cs 0, 2, .inl g_t_opinions)), (a_t_marginOf, .inl (cs 0, 6, .inl g_t_marginOf)), (a_t_marginSays, .inl (cs 0, 6, .inl g_t_marginSays))]
def rm_X9_isSo : Room := { frames := 0, cells := 0, slots := 0, locals := 0 }
theorem mI_X9_isSo : MI yX9_isSo RX9 cX9_isSo 5 (some .boolean) 2 := ⟨gI_X9_isSo, gE_X9_isSo, gN_X9, gC_X9_isSo, by decide +kernel⟩
set_option maxHeartbeats 4000000 in
set_option maxRecDepth 100000 in
theorem k_X9_isSo (l : Launch) (G : va_G) (cs : Nat → ClassId) (a_t a_t_text a_t_opinions a_t_lines a_t_draftBook a_t_scribes a_t_turn a_t_bent a_t_need a_t_now a_t_isKept a_t_far a_t_marginOf a_t_marginSays : Nat) (v_t_trace : Int64) (v_t_typed : Int32) (v_t_needTold : Int32) (v_t_at : Int32) (v_t_start : Int32) (v_t_sort : Int32) (v_t_value : Int32) (v_t_fault : Int32) (v_t_target : Int32) (v_t_went : Int32) (v_t_ender : Int32) (v_t_had : Int32) (v_t_margins : Int32) (g_t_opinions : Nat → Int32) (g_t_marginOf : Nat → Int32) (g_t_marginSays : Nat → Int32) (p1 p2 : Int32) (R0 : Int32) (hB : f_X9_isSo v_t_margins g_t_opinions g_t_marginOf g_t_marginSays p1 p2 = some R0) : Met l yX9_isSo (.code yX9_isSo cX9_isSo 5 (some .boolean) :: GW) rm_X9_isSo (PcR G cs [.ref a_t, .int p1, .int p2] (wd_X9_isSo cs a_t a_t_text a_t_opinions a_t_lines a_t_draftBook a_t_scribes a_t_turn a_t_bent a_t_need a_t_now a_t_isKept a_t_far a_t_marginOf a_t_marginSays v_t_trace v_t_typed v_t_needTold v_t_at v_t_start v_t_sort v_t_value v_t_fault v_t_target v_t_went v_t_ender v_t_had v_t_margins g_t_opinions g_t_marginOf g_t_marginSays)) (vp_Si (fun r => r = R0)) 0 0 (fun _ => False) := by
  refine Met.ofW (cc := cX9_isSo) (maxL := 5) (ret := (some .boolean)) (by decide) rfl ?_
  intro p e s m args below meth c s₁ B hml hv
  obtain ⟨rfl, hP, hK, hN⟩ := hv
  have hx := B.exec
  have hb := B.bytes
  have hr := B.returns
  have hts := atoms_spec (ws := .code yX9_isSo cX9_isSo 5 (some .boolean) :: GW) B.pre
  have hg : ∀ w ∈ GW, w.before _ s = true := fun w h => hts w (List.mem_cons_of_mem _ h)
  have hown : s.vm.findClass RX9 = some m.cls := findClass_of_methodNamed B.named
  have hlocks := B.notSynchronized
  have hl := lv_entry ([.ref a_t, .int p1, .int p2]) (n := 5) (Nat.le_of_ble_eq_true rfl)
  rw [lg_entry_eq]
  generalize (lg_sl ([.ref a_t, .int p1, .int p2]) ++ List.replicate (5 - (lg_sl ([.ref a_t, .int p1, .int p2])).length) Slot.unset).toArray = ls at hl ⊢
  have hl : lv_has ls 5 [(0, .ref a_t), (1, .int p1), (2, .int p2)] := hl
  obtain ⟨y, hB, hK0⟩ : ∃ y, f_X9_isSo v_t_margins g_t_opinions g_t_marginOf g_t_marginSays p1 p2 = some y ∧ KEnd R0 y := ⟨R0, hB, rfl⟩
  have hKT := hK
  have hK := hK0
  show W p l e rm_X9_isSo s m ([.ref a_t, .int p1, .int p2] : List Value).toArray below meth c s.heap [] 0 0 (MQ below (vp_Si (fun r => r = R0)) ([.ref a_t, .int p1, .int p2] : List Value).toArray s 0 0 (fun _ => False)) (F0 m 0 ls [])
  refine lv_iconst (v := 1) hx hb dX9_isSo_0 (by decide) ?_
  refine lv_istore_n (lv' := [(3, .int (1 : Int32)), (0, .ref a_t), (1, .int p1), (2, .int p2)]) hx hb dX9_isSo_1 rfl hl (by decide) rfl (fun ls hl => ?_)
  refine lv_iconst (v := 0) hx hb dX9_isSo_2 (by decide) ?_
  refine lv_istore (lv' := [(4, .int (0 : Int32)), (3, .int (1 : Int32)), (0, .ref a_t), (1, .int p1), (2, .int p2)]) hx hb dX9_isSo_3 hl (by decide) rfl (fun ls hl => ?_)
  refine lp_ind (Wh := fun (z1 : Int32 × Int32) => ∀ (ls : Array Slot), lv_has ls 5 [(0, .ref a_t), (1, .int p1), (2, .int p2), (3, .int z1.1), (4, .int z1.2)] → W p l e rm_X9_isSo s m ([.ref a_t, .int p1, .int p2] : List Value).toArray below meth c s.heap [] 0 0 (MQ below (vp_Si (fun r => r = R0)) ([.ref a_t, .int p1, .int p2] : List Value).toArray s 0 0 (fun _ => False)) (F0 m 5 ls [])) ?_ FU _ _ hB hK ls (lv_sub hl [2, 3, 4, 1, 0] rfl)
  rintro ⟨z1_0, z1_1⟩ y hB hK ls hl
  have hl : lv_has ls 5 [(0, .ref a_t), (1, .int p1), (2, .int p2), (3, .int z1_0), (4, .int z1_1)] := hl
  refine lv_iload hx hb dX9_isSo_5 (lv_at hl 4 rfl) ?_
  refine lv_aload_n hx hb dX9_isSo_7 rfl (lv_at hl 0 rfl) ?_
  refine va_get (D := G) (ci := 9) (v := .int v_t_margins) (C := RX9) (T := TX9) (N := 26) hx hb hg inX9 hown hKT hP 0 rfl rfl 25 (by decide) (hg _ gF_X9_102) (fun _ h9 => h9) rfl dX9_isSo_8 ?_
  refine lv_icmp_ge (tgt := 58) hx hb dX9_isSo_11 (by decide) (fun c_2 => ?_) (fun c_2 => ?_)
  · have hB := ifP c_2 hB
    refine lv_iload_n hx hb dX9_isSo_58 rfl (lv_at hl 3 rfl) ?_
    obtain ⟨h_3, hB⟩ := ifG hB
    have hK := leafK hB hK
    have hK := elimR hK
    have hK : z1_0 = R0 := hK
    subst hK
    exact W.zret (v := z1_0) (ty := .boolean) hx hb hr (nar01 h_3) (fun t ht hW => ⟨_, rfl, rfl, ht⟩) (fun _ h => by cases h) dX9_isSo_59
  · have hB := ifN c_2 hB
    refine lv_iload_n hx hb dX9_isSo_14 rfl (lv_at hl 3 rfl) ?_
    refine lv_if_eq (tgt := 50) hx hb dX9_isSo_15 (by decide) (fun c_4 => ?_) (fun c_4 => ?_)
    · have hB := ifP c_4 hB
      refine lv_iconst (v := 0) hx hb dX9_isSo_50 (by decide) ?_
      refine lv_istore_n (lv' := [(3, .int (0 : Int32)), (0, .ref a_t), (1, .int p1), (2, .int p2), (4, .int z1_1)]) hx hb dX9_isSo_51 rfl hl (by decide) rfl (fun ls hl => ?_)
      refine lv_iinc (v := z1_1 + (1 : Int32)) (lv' := [(4, .int (z1_1 + (1 : Int32))), (3, .int (0 : Int32)), (0, .ref a_t), (1, .int p1), (2, .int p2)]) hx hb dX9_isSo_52 hl (k := 4) rfl (inc_ok (by decide)) (by decide) rfl (fun ls hl => ?_)
      refine lv_goto (tgt := 5) hx hb dX9_isSo_55 (by decide) ?_
      have hK := leafK hB hK
      have hK := elimL hK
      exact hK ls (lv_sub hl [2, 3, 4, 1, 0] rfl)
    · have hB := ifN c_4 hB
      refine lv_iload_n hx hb dX9_isSo_18 rfl (lv_at hl 1 rfl) ?_
      refine lv_aload_n hx hb dX9_isSo_19 rfl (lv_at hl 0 rfl) ?_
      refine va_get (D := G) (ci := 9) (v := .ref a_t_marginOf) (C := RX9) (T := TX9) (N := 26) hx hb hg inX9 hown hKT hP 0 rfl rfl 23 (by decide) (hg _ gF_X9_45) (fun _ h9 => h9) rfl dX9_isSo_20 ?_
      refine lv_iload hx hb dX9_isSo_23 (lv_at hl 4 rfl) ?_
      obtain ⟨h_5, hB⟩ := ifS hB
      refine va_iald hx hb hKT hP 2 0 rfl rfl h_5 dX9_isSo_25 ?_
      refine lv_imul hx hb dX9_isSo_26 ?_
      refine lv_iload_n hx hb dX9_isSo_27 rfl (lv_at hl 2 rfl) ?_
      refine lv_iadd hx hb dX9_isSo_28 ?_
      refine lv_aload_n hx hb dX9_isSo_29 rfl (lv_at hl 0 rfl) ?_
      refine va_get (D := G) (ci := 9) (v := .ref a_t_opinions) (C := RX9) (T := TX9) (N := 26) hx hb hg inX9 hown hKT hP 0 rfl rfl 3 (by decide) (hg _ gF_X9_13) (fun _ h9 => h9) rfl dX9_isSo_30 ?_
      refine lv_iconst (v := 0) hx hb dX9_isSo_33 (by decide) ?_
      refine va_iald hx hb hKT hP 1 0 rfl rfl (vinC (by decide)) dX9_isSo_34 ?_
      obtain ⟨h_6, hB⟩ := ifS hB
      refine lj_irem hx hb dX9_isSo_35 h_6 ?_
      refine lv_aload_n hx hb dX9_isSo_36 rfl (lv_at hl 0 rfl) ?_
      refine va_get (D := G) (ci := 9) (v := .ref a_t_marginSays) (C := RX9) (T := TX9) (N := 26) hx hb hg inX9 hown hKT hP 0 rfl rfl 24 (by decide) (hg _ gF_X9_48) (fun _ h9 => h9) rfl dX9_isSo_37 ?_
      refine lv_iload hx hb dX9_isSo_40 (lv_at hl 4 rfl) ?_
      obtain ⟨h_7, hB⟩ := ifS hB
      refine va_iald hx hb hKT hP 3 0 rfl rfl h_7 dX9_isSo_42 ?_
      refine lv_icmp_ne (tgt := 50) hx hb dX9_isSo_43 (by decide) (fun c_8 => ?_) (fun c_8 => ?_)
      · have hB := ifN c_8 hB
        refine lv_iconst (v := 0) hx hb dX9_isSo_50 (by decide) ?_
        refine lv_istore_n (lv' := [(3, .int (0 : Int32)), (0, .ref a_t), (1, .int p1), (2, .int p2), (4, .int z1_1)]) hx hb dX9_isSo_51 rfl hl (by decide) rfl (fun ls hl => ?_)
        refine lv_iinc (v := z1_1 + (1 : Int32)) (lv' := [(4, .int (z1_1 + (1 : Int32))), (3, .int (0 : Int32)), (0, .ref a_t), (1, .int p1), (2, .int p2)]) hx hb dX9_isSo_52 hl (k := 4) rfl (inc_ok (by decide)) (by decide) rfl (fun ls hl => ?_)
        refine lv_goto (tgt := 5) hx hb dX9_isSo_55 (by decide) ?_
        have hK := leafK hB hK
        have hK := elimL hK
        exact hK ls (lv_sub hl [2, 3, 4, 1, 0] rfl)
      · have hB := ifP c_8 hB
        refine lv_iconst (v := 1) hx hb dX9_isSo_46 (by decide) ?_
        refine lv_goto (tgt := 51) hx hb dX9_isSo_47 (by decide) ?_
        refine lv_istore_n (lv' := [(3, .int (1 : Int32)), (0, .ref a_t), (1, .int p1), (2, .int p2), (4, .int z1_1)]) hx hb dX9_isSo_51 rfl hl (by decide) rfl (fun ls hl => ?_)
        refine lv_iinc (v := z1_1 + (1 : Int32)) (lv' := [(4, .int (z1_1 + (1 : Int32))), (3, .int (1 : Int32)), (0, .ref a_t), (1, .int p1), (2, .int p2)]) hx hb dX9_isSo_52 hl (k := 4) rfl (inc_ok (by decide)) (by decide) rfl (fun ls hl => ?_)
        refine lv_goto (tgt := 5) hx hb dX9_isSo_55 (by decide) ?_
        have hK := leafK hB hK
        have hK := elimL hK
        exact hK ls (lv_sub hl [2, 3, 4, 1, 0] rfl)
def wd_X9_now (cs : Nat → ClassId) (a_t a_t_text a_t_opinions a_t_lines a_t_draftBook a_t_scribes a_t_turn a_t_bent a_t_need a_t_now a_t_isKept a_t_far a_t_marginOf a_t_marginSays : Nat) (v_t_trace : Int64) (v_t_typed : Int32) (v_t_needTold : Int32) (v_t_at : Int32) (v_t_start : Int32) (v_t_sort : Int32) (v_t_value : Int32) (v_t_fault : Int32) (v_t_target : Int32) (v_t_went : Int32) (v_t_ender : Int32) (v_t_had : Int32) (v_t_margins : Int32) (g_t_opinions : Nat → Int32) (g_t_lines : Nat → Int32) (g_t_scribes : Nat → Int32) (g_t_turn : Nat → Int32) (g_t_bent : Nat → Int32) (g_t_need : Nat → Int32) (g_t_now : Nat → Int32) (g_t_marginOf : Nat → Int32) (g_t_marginSays : Nat → Int32) : va_W := [(a_t, .inr (9, [.long v_t_trace, .ref a_t_text, .int v_t_typed, .ref a_t_opinions, .ref a_t_lines, .ref a_t_draftBook, .ref a_t_scribes, .ref a_t_turn, .ref a_t_bent, .ref a_t_need, .int v_t_needTold, .int v_t_at, .int v_t_start, .int v_t_sort, .int v_t_value, .int v_t_fault, .ref a_t_now, .ref a_t_isKept, .int v_t_target, .int v_t_went, .int v_t_ender, .int v_t_had, .ref a_t_far, .ref a_t_marginOf, .ref a_t_marginSays, .int v_t_margins])), (a_t_opinions, .inl (cs 0, 2, .inl g_t_opinions)), (a_t_lines, .inl (cs 0, 2, .inl g_t_lines)), (a_t_scribes, .inl (cs 0, 2, .inl g_t_scribes)), (a_t_turn, .inl (cs 0, 12, .inl g_t_turn)), (a_t_bent, .inl (cs 0, 12, .inl g_t_bent)), (a_t_need, .inl (cs 0, 2, .inl g_t_need)), (a_t_now, .inl (cs 0, 300, .inl g_t_now)), (a_t_marginOf, .inl (cs 0, 6, .inl g_t_marginOf)), (a_t_marginSays, .inl (cs 0, 6, .inl g_t_marginSays))]
def rm_X9_now : Room := { frames := 5, cells := 0, slots := 0, locals := 117 }
theorem mI_X9_now : MI yX9_now RX9 cX9_now 4 (some .int) 1 := ⟨gI_X9_now, gE_X9_now, gN_X9, gC_X9_now, by decide +kernel⟩
set_option maxHeartbeats 4000000 in
set_option maxRecDepth 100000 in
theorem k_X9_now (l : Launch) (G : va_G) (cs : Nat → ClassId) (a_t a_t_text a_t_opinions a_t_lines a_t_draftBook a_t_scribes a_t_turn a_t_bent a_t_need a_t_now a_t_isKept a_t_far a_t_marginOf a_t_marginSays : Nat) (v_t_trace : Int64) (v_t_typed : Int32) (v_t_needTold : Int32) (v_t_at : Int32) (v_t_start : Int32) (v_t_sort : Int32) (v_t_value : Int32) (v_t_fault : Int32) (v_t_target : Int32) (v_t_went : Int32) (v_t_ender : Int32) (v_t_had : Int32) (v_t_margins : Int32) (g_t_opinions : Nat → Int32) (g_t_lines : Nat → Int32) (g_t_scribes : Nat → Int32) (g_t_turn : Nat → Int32) (g_t_bent : Nat → Int32) (g_t_need : Nat → Int32) (g_t_now : Nat → Int32) (g_t_marginOf : Nat → Int32) (g_t_marginSays : Nat → Int32) (p1 : Int32) (R0 : Int32) (hB : f_X9_now v_t_margins g_t_opinions g_t_lines g_t_scribes g_t_turn g_t_bent g_t_need g_t_now g_t_marginOf g_t_marginSays p1 = some R0) : Met l yX9_now (.code yX9_now cX9_now 4 (some .int) :: GW) rm_X9_now (PcR G cs [.ref a_t, .int p1] (wd_X9_now cs a_t a_t_text a_t_opinions a_t_lines a_t_draftBook a_t_scribes a_t_turn a_t_bent a_t_need a_t_now a_t_isKept a_t_far a_t_marginOf a_t_marginSays v_t_trace v_t_typed v_t_needTold v_t_at v_t_start v_t_sort v_t_value v_t_fault v_t_target v_t_went v_t_ender v_t_had v_t_margins g_t_opinions g_t_lines g_t_scribes g_t_turn g_t_bent g_t_need g_t_now g_t_marginOf g_t_marginSays)) (vp_Si (fun r => r = R0)) 0 0 (fun _ => False) := by
  refine Met.ofW (cc := cX9_now) (maxL := 4) (ret := (some .int)) (by decide) rfl ?_
  intro p e s m args below meth c s₁ B hml hv
  obtain ⟨rfl, hP, hK, hN⟩ := hv
  have hx := B.exec
  have hb := B.bytes
  have hr := B.returns
  have hts := atoms_spec (ws := .code yX9_now cX9_now 4 (some .int) :: GW) B.pre
  have hg : ∀ w ∈ GW, w.before _ s = true := fun w h => hts w (List.mem_cons_of_mem _ h)
  have hown : s.vm.findClass RX9 = some m.cls := findClass_of_methodNamed B.named
  have hlocks := B.notSynchronized
  have hl := lv_entry ([.ref a_t, .int p1]) (n := 4) (Nat.le_of_ble_eq_true rfl)
  rw [lg_entry_eq]
  generalize (lg_sl ([.ref a_t, .int p1]) ++ List.replicate (4 - (lg_sl ([.ref a_t, .int p1])).length) Slot.unset).toArray = ls at hl ⊢
  have hl : lv_has ls 4 [(0, .ref a_t), (1, .int p1)] := hl
  obtain ⟨y, hB, hK0⟩ : ∃ y, f_X9_now v_t_margins g_t_opinions g_t_lines g_t_scribes g_t_turn g_t_bent g_t_need g_t_now g_t_marginOf g_t_marginSays p1 = some y ∧ KEnd R0 y := ⟨R0, hB, rfl⟩
  have hKT := hK
  have hK := hK0
  show W p l e rm_X9_now s m ([.ref a_t, .int p1] : List Value).toArray below meth c s.heap [] 0 0 (MQ below (vp_Si (fun r => r = R0)) ([.ref a_t, .int p1] : List Value).toArray s 0 0 (fun _ => False)) (F0 m 0 ls [])
  refine lv_iconst (v := 0) hx hb dX9_now_0 (by decide) ?_
  refine lv_istore_n (lv' := [(2, .int (0 : Int32)), (0, .ref a_t), (1, .int p1)]) hx hb dX9_now_1 rfl hl (by decide) rfl (fun ls hl => ?_)
  refine lv_iload_n hx hb dX9_now_2 rfl (lv_at hl 2 rfl) ?_
  by_cases c_16_0 : p1 = 0
  · have hB := ifP c_16_0 hB
    refine lv_tableIn (off := 37) (tgt := 40) hx hb dX9_now_3 (by rw [c_16_0]; decide) (by rw [c_16_0]; decide) (by rw [c_16_0]; decide) (by decide) ?_
    refine lv_aload_n hx hb dX9_now_40 rfl (lv_at hl 1 rfl) ?_
    refine va_get (D := G) (ci := 9) (v := .ref a_t_now) (C := RX9) (T := TX9) (N := 26) hx hb hg inX9 hown hKT hP 0 rfl rfl 16 (by decide) (hg _ gF_X9_35) (fun _ h9 => h9) rfl dX9_now_41 ?_
    refine lv_iconst (v := 1) hx hb dX9_now_44 (by decide) ?_
    refine va_iald hx hb hKT hP 7 0 rfl rfl (vinC (by decide)) dX9_now_45 ?_
    have hK := leafK hB hK
    have hK : (g_t_now (1 : Int32).toNatClampNeg) = R0 := hK
    subst hK
    exact W.iret (v := g_t_now (1 : Int32).toNatClampNeg) hx hb hr (fun t ht hW => ⟨_, rfl, rfl, ht⟩) (fun _ h => by cases h) dX9_now_46
  have hB := ifN c_16_0 hB
  by_cases c_16_1 : p1 = 1
  · have hB := ifP c_16_1 hB
    refine lv_tableIn (off := 44) (tgt := 47) hx hb dX9_now_3 (by rw [c_16_1]; decide) (by rw [c_16_1]; decide) (by rw [c_16_1]; decide) (by decide) ?_
    refine lv_aload_n hx hb dX9_now_47 rfl (lv_at hl 1 rfl) ?_
    refine va_get (D := G) (ci := 9) (v := .ref a_t_now) (C := RX9) (T := TX9) (N := 26) hx hb hg inX9 hown hKT hP 0 rfl rfl 16 (by decide) (hg _ gF_X9_35) (fun _ h9 => h9) rfl dX9_now_48 ?_
    refine lv_bipush (v := 8) hx hb dX9_now_51 (by decide) ?_
    refine va_iald hx hb hKT hP 7 0 rfl rfl (vinC (by decide)) dX9_now_53 ?_
    have hK := leafK hB hK
    have hK : (g_t_now (8 : Int32).toNatClampNeg) = R0 := hK
    subst hK
    exact W.iret (v := g_t_now (8 : Int32).toNatClampNeg) hx hb hr (fun t ht hW => ⟨_, rfl, rfl, ht⟩) (fun _ h => by cases h) dX9_now_54
  have hB := ifN c_16_1 hB
  by_cases c_16_2 : p1 = 2
  · have hB := ifP c_16_2 hB
    refine lv_tableIn (off := 52) (tgt := 55) hx hb dX9_now_3 (by rw [c_16_2]; decide) (by rw [c_16_2]; decide) (by rw [c_16_2]; decide) (by decide) ?_
    refine lv_iconst (v := 0) hx hb dX9_now_55 (by decide) ?_
    refine lv_istore_n (lv' := [(3, .int (0 : Int32)), (2, .int (0 : Int32)), (0, .ref a_t), (1, .int p1)]) hx hb dX9_now_56 rfl hl (by decide) rfl (fun ls hl => ?_)
    refine lp_ind (Wh := fun (z1 : Int32 × Int32) => ∀ (ls : Array Slot), lv_has ls 4 [(0, .ref a_t), (2, .int z1.1), (3, .int z1.2)] → W p l e rm_X9_now s m ([.ref a_t, .int p1] : List Value).toArray below meth c s.heap [] 0 0 (MQ below (vp_Si (fun r => r = R0)) ([.ref a_t, .int p1] : List Value).toArray s 0 0 (fun _ => False)) (F0 m 57 ls [])) ?_ FU _ _ hB hK ls (lv_sub hl [2, 1, 0] rfl)
    rintro ⟨z1_0, z1_1⟩ y hB hK ls hl
    have hl : lv_has ls 4 [(0, .ref a_t), (2, .int z1_0), (3, .int z1_1)] := hl
    refine lv_iload_n hx hb dX9_now_57 rfl (lv_at hl 2 rfl) ?_
    refine lv_aload_n hx hb dX9_now_58 rfl (lv_at hl 0 rfl) ?_
    refine va_get (D := G) (ci := 9) (v := .ref a_t_scribes) (C := RX9) (T := TX9) (N := 26) hx hb hg inX9 hown hKT hP 0 rfl rfl 6 (by decide) (hg _ gF_X9_23) (fun _ h9 => h9) rfl dX9_now_59 ?_
    refine lv_iconst (v := 0) hx hb dX9_now_62 (by decide) ?_
    refine va_iald hx hb hKT hP 3 0 rfl rfl (vinC (by decide)) dX9_now_63 ?_
    refine lv_icmp_ge (tgt := 97) hx hb dX9_now_64 (by decide) (fun c_2 => ?_) (fun c_2 => ?_)
    · have hB := ifP c_2 hB
      refine lv_iload_n hx hb dX9_now_97 rfl (lv_at hl 1 rfl) ?_
      have hK := leafK hB hK
      have hK := elimR hK
      have hK : z1_0 = R0 := hK
      subst hK
      exact W.iret (v := z1_0) hx hb hr (fun t ht hW => ⟨_, rfl, rfl, ht⟩) (fun _ h => by cases h) dX9_now_98
    · have hB := ifN c_2 hB
      refine lv_iload_n hx hb dX9_now_67 rfl (lv_at hl 1 rfl) ?_
      refine lv_aload_n hx hb dX9_now_68 rfl (lv_at hl 0 rfl) ?_
      refine lv_iload_n hx hb dX9_now_69 rfl (lv_at hl 2 rfl) ?_
      refine lv_aload_n hx hb dX9_now_70 rfl (lv_at hl 0 rfl) ?_
      refine va_get (D := G) (ci := 9) (v := .ref a_t_now) (C := RX9) (T := TX9) (N := 26) hx hb hg inX9 hown hKT hP 0 rfl rfl 16 (by decide) (hg _ gF_X9_35) (fun _ h9 => h9) rfl dX9_now_71 ?_
      refine lv_iconst (v := 0) hx hb dX9_now_74 (by decide) ?_
      refine va_iald hx hb hKT hP 7 0 rfl rfl (vinC (by decide)) dX9_now_75 ?_
      obtain ⟨q3, hq3, hB⟩ := bnd hB
      refine kr_V (WC := wd_X9_isConvinced cs a_t a_t_text a_t_opinions a_t_lines a_t_draftBook a_t_scribes a_t_turn a_t_bent a_t_need a_t_now a_t_isKept a_t_far a_t_marginOf a_t_marginSays v_t_trace v_t_typed v_t_needTold v_t_at v_t_start v_t_sort v_t_value v_t_fault v_t_target v_t_went v_t_ender v_t_had v_t_margins g_t_opinions g_t_lines g_t_turn g_t_bent g_t_need) (As := [.int z1_1, .int (g_t_now (0 : Int32).toNatClampNeg)]) (rest := [.int z1_0]) (r0 := q3) ⟨hx, hb, hml, hown, hg⟩ (k_X9_isConvinced l G cs a_t a_t_text a_t_opinions a_t_lines a_t_draftBook a_t_scribes a_t_turn a_t_bent a_t_need a_t_now a_t_isKept a_t_far a_t_marginOf a_t_marginSays v_t_trace v_t_typed v_t_needTold v_t_at v_t_start v_t_sort v_t_value v_t_fault v_t_target v_t_went v_t_ender v_t_had v_t_margins g_t_opinions g_t_lines g_t_turn g_t_bent g_t_need z1_1 (g_t_now (0 : Int32).toNatClampNeg) q3 hq3) gM_X9_136 mI_X9_isConvinced (rmk rfl) hP hKT hN 0 rfl rfl [0, 1, 2, 4, 5, 6] rfl rfl hl.1 rfl (Nat.le_of_ble_eq_true rfl) dX9_now_76 ?_
      refine lv_if_eq (tgt := 88) hx hb dX9_now_79 (by decide) (fun c_4 => ?_) (fun c_4 => ?_)
      · have hB := ifP c_4 hB
        refine lv_iconst (v := 0) hx hb dX9_now_88 (by decide) ?_
        refine lv_ior hx hb dX9_now_89 ?_
        refine lv_istore_n (lv' := [(2, .int (z1_0 ||| (0 : Int32))), (0, .ref a_t), (3, .int z1_1)]) hx hb dX9_now_90 rfl hl (by decide) rfl (fun ls hl => ?_)
        refine lv_iinc (v := z1_1 + (1 : Int32)) (lv' := [(3, .int (z1_1 + (1 : Int32))), (2, .int (z1_0 ||| (0 : Int32))), (0, .ref a_t)]) hx hb dX9_now_91 hl (k := 2) rfl (inc_ok (by decide)) (by decide) rfl (fun ls hl => ?_)
        refine lv_goto (tgt := 57) hx hb dX9_now_94 (by decide) ?_
        have hK := leafK hB hK
        have hK := elimL hK
        exact hK ls (lv_sub hl [2, 1, 0] rfl)
      · have hB := ifN c_4 hB
        refine lv_iconst (v := 1) hx hb dX9_now_82 (by decide) ?_
        refine lv_iload_n hx hb dX9_now_83 rfl (lv_at hl 2 rfl) ?_
        refine lj_ishl hx hb dX9_now_84 ?_
        refine lv_goto (tgt := 89) hx hb dX9_now_85 (by decide) ?_
        refine lv_ior hx hb dX9_now_89 ?_
        refine lv_istore_n (lv' := [(2, .int (z1_0 ||| (jshl (1 : Int32) z1_1))), (0, .ref a_t), (3, .int z1_1)]) hx hb dX9_now_90 rfl hl (by decide) rfl (fun ls hl => ?_)
        refine lv_iinc (v := z1_1 + (1 : Int32)) (lv' := [(3, .int (z1_1 + (1 : Int32))), (2, .int (z1_0 ||| (jshl (1 : Int32) z1_1))), (0, .ref a_t)]) hx hb dX9_now_91 hl (k := 2) rfl (inc_ok (by decide)) (by decide) rfl (fun ls hl => ?_)
        refine lv_goto (tgt := 57) hx hb dX9_now_94 (by decide) ?_
        have hK := leafK hB hK
        have hK := elimL hK
        exact hK ls (lv_sub hl [2, 1, 0] rfl)
  have hB := ifN c_16_2 hB
  by_cases c_16_3 : p1 = 3
  · have hB := ifP c_16_3 hB
    refine lv_tableIn (off := 96) (tgt := 99) hx hb dX9_now_3 (by rw [c_16_3]; decide) (by rw [c_16_3]; decide) (by rw [c_16_3]; decide) (by decide) ?_
    refine lv_iconst (v := 0) hx hb dX9_now_99 (by decide) ?_
    refine lv_istore_n (lv' := [(3, .int (0 : Int32)), (2, .int (0 : Int32)), (0, .ref a_t), (1, .int p1)]) hx hb dX9_now_100 rfl hl (by decide) rfl (fun ls hl => ?_)
    refine lp_ind (Wh := fun (z5 : Int32 × Int32) => ∀ (ls : Array Slot), lv_has ls 4 [(0, .ref a_t), (2, .int z5.1), (3, .int z5.2)] → W p l e rm_X9_now s m ([.ref a_t, .int p1] : List Value).toArray below meth c s.heap [] 0 0 (MQ below (vp_Si (fun r => r = R0)) ([.ref a_t, .int p1] : List Value).toArray s 0 0 (fun _ => False)) (F0 m 101 ls [])) ?_ FU _ _ hB hK ls (lv_sub hl [2, 1, 0] rfl)
    rintro ⟨z5_0, z5_1⟩ y hB hK ls hl
    have hl : lv_has ls 4 [(0, .ref a_t), (2, .int z5_0), (3, .int z5_1)] := hl
    refine lv_iload_n hx hb dX9_now_101 rfl (lv_at hl 2 rfl) ?_
    refine lv_aload_n hx hb dX9_now_102 rfl (lv_at hl 0 rfl) ?_
    refine va_get (D := G) (ci := 9) (v := .ref a_t_scribes) (C := RX9) (T := TX9) (N := 26) hx hb hg inX9 hown hKT hP 0 rfl rfl 6 (by decide) (hg _ gF_X9_23) (fun _ h9 => h9) rfl dX9_now_103 ?_
    refine lv_iconst (v := 0) hx hb dX9_now_106 (by decide) ?_
    refine va_iald hx hb hKT hP 3 0 rfl rfl (vinC (by decide)) dX9_now_107 ?_
    refine lv_icmp_ge (tgt := 135) hx hb dX9_now_108 (by decide) (fun c_6 => ?_) (fun c_6 => ?_)
    · have hB := ifP c_6 hB
      refine lv_iload_n hx hb dX9_now_135 rfl (lv_at hl 1 rfl) ?_
      have hK := leafK hB hK
      have hK := elimR hK
      have hK : z5_0 = R0 := hK
      subst hK
      exact W.iret (v := z5_0) hx hb hr (fun t ht hW => ⟨_, rfl, rfl, ht⟩) (fun _ h => by cases h) dX9_now_136
    · have hB := ifN c_6 hB
      refine lv_iload_n hx hb dX9_now_111 rfl (lv_at hl 1 rfl) ?_
      refine lv_aload_n hx hb dX9_now_112 rfl (lv_at hl 0 rfl) ?_
      refine lv_iload_n hx hb dX9_now_113 rfl (lv_at hl 2 rfl) ?_
      obtain ⟨q7, hq7, hB⟩ := bnd hB
      refine kr_V (WC := wd_X9_fromOf cs a_t a_t_text a_t_opinions a_t_lines a_t_draftBook a_t_scribes a_t_turn a_t_bent a_t_need a_t_now a_t_isKept a_t_far a_t_marginOf a_t_marginSays v_t_trace v_t_typed v_t_needTold v_t_at v_t_start v_t_sort v_t_value v_t_fault v_t_target v_t_went v_t_ender v_t_had v_t_margins g_t_opinions g_t_lines g_t_turn g_t_bent g_t_need g_t_now) (As := [.int z5_1]) (rest := [.int z5_0]) (r0 := q7) ⟨hx, hb, hml, hown, hg⟩ (k_X9_fromOf l G cs a_t a_t_text a_t_opinions a_t_lines a_t_draftBook a_t_scribes a_t_turn a_t_bent a_t_need a_t_now a_t_isKept a_t_far a_t_marginOf a_t_marginSays v_t_trace v_t_typed v_t_needTold v_t_at v_t_start v_t_sort v_t_value v_t_fault v_t_target v_t_went v_t_ender v_t_had v_t_margins g_t_opinions g_t_lines g_t_turn g_t_bent g_t_need g_t_now z5_1 q7 hq7) gM_X9_158 mI_X9_fromOf (rmk rfl) hP hKT hN 0 rfl rfl [0, 1, 2, 4, 5, 6, 7] rfl rfl hl.1 rfl (Nat.le_of_ble_eq_true rfl) dX9_now_114 ?_
      refine lv_if_le (tgt := 126) hx hb dX9_now_117 (by decide) (fun c_8 => ?_) (fun c_8 => ?_)
      · have hB := ifP c_8 hB
        refine lv_iconst (v := 0) hx hb dX9_now_126 (by decide) ?_
        refine lv_ior hx hb dX9_now_127 ?_
        refine lv_istore_n (lv' := [(2, .int (z5_0 ||| (0 : Int32))), (0, .ref a_t), (3, .int z5_1)]) hx hb dX9_now_128 rfl hl (by decide) rfl (fun ls hl => ?_)
        refine lv_iinc (v := z5_1 + (1 : Int32)) (lv' := [(3, .int (z5_1 + (1 : Int32))), (2, .int (z5_0 ||| (0 : Int32))), (0, .ref a_t)]) hx hb dX9_now_129 hl (k := 2) rfl (inc_ok (by decide)) (by decide) rfl (fun ls hl => ?_)
        refine lv_goto (tgt := 101) hx hb dX9_now_132 (by decide) ?_
        have hK := leafK hB hK
        have hK := elimL hK
        exact hK ls (lv_sub hl [2, 1, 0] rfl)
      · have hB := ifN c_8 hB
        refine lv_iconst (v := 1) hx hb dX9_now_120 (by decide) ?_
        refine lv_iload_n hx hb dX9_now_121 rfl (lv_at hl 2 rfl) ?_
        refine lj_ishl hx hb dX9_now_122 ?_
        refine lv_goto (tgt := 127) hx hb dX9_now_123 (by decide) ?_
        refine lv_ior hx hb dX9_now_127 ?_
        refine lv_istore_n (lv' := [(2, .int (z5_0 ||| (jshl (1 : Int32) z5_1))), (0, .ref a_t), (3, .int z5_1)]) hx hb dX9_now_128 rfl hl (by decide) rfl (fun ls hl => ?_)
        refine lv_iinc (v := z5_1 + (1 : Int32)) (lv' := [(3, .int (z5_1 + (1 : Int32))), (2, .int (z5_0 ||| (jshl (1 : Int32) z5_1))), (0, .ref a_t)]) hx hb dX9_now_129 hl (k := 2) rfl (inc_ok (by decide)) (by decide) rfl (fun ls hl => ?_)
        refine lv_goto (tgt := 101) hx hb dX9_now_132 (by decide) ?_
        have hK := leafK hB hK
        have hK := elimL hK
        exact hK ls (lv_sub hl [2, 1, 0] rfl)
  have hB := ifN c_16_3 hB
  by_cases c_16_4 : p1 = 4
  · have hB := ifP c_16_4 hB
    refine lv_tableIn (off := 134) (tgt := 137) hx hb dX9_now_3 (by rw [c_16_4]; decide) (by rw [c_16_4]; decide) (by rw [c_16_4]; decide) (by decide) ?_
    refine lv_aload_n hx hb dX9_now_137 rfl (lv_at hl 1 rfl) ?_
    obtain ⟨q9, hq9, hB⟩ := bnd hB
    refine kr_V (WC := wd_X9_same cs a_t a_t_text a_t_opinions a_t_lines a_t_draftBook a_t_scribes a_t_turn a_t_bent a_t_need a_t_now a_t_isKept a_t_far a_t_marginOf a_t_marginSays v_t_trace v_t_typed v_t_needTold v_t_at v_t_start v_t_sort v_t_value v_t_fault v_t_target v_t_went v_t_ender v_t_had v_t_margins g_t_opinions g_t_lines g_t_scribes g_t_turn g_t_bent g_t_need g_t_now) (As := []) (rest := []) (r0 := q9) ⟨hx, hb, hml, hown, hg⟩ (k_X9_same l G cs a_t a_t_text a_t_opinions a_t_lines a_t_draftBook a_t_scribes a_t_turn a_t_bent a_t_need a_t_now a_t_isKept a_t_far a_t_marginOf a_t_marginSays v_t_trace v_t_typed v_t_needTold v_t_at v_t_start v_t_sort v_t_value v_t_fault v_t_target v_t_went v_t_ender v_t_had v_t_margins g_t_opinions g_t_lines g_t_scribes g_t_turn g_t_bent g_t_need g_t_now q9 hq9) gM_X9_161 mI_X9_same (rmk rfl) hP hKT hN 0 rfl rfl [0, 1, 2, 3, 4, 5, 6, 7] rfl rfl hl.1 rfl (Nat.le_of_ble_eq_true rfl) dX9_now_138 ?_
    have hK := leafK hB hK
    have hK : q9 = R0 := hK
    subst hK
    exact W.iret (v := q9) hx hb hr (fun t ht hW => ⟨_, rfl, rfl, ht⟩) (fun _ h => by cases h) dX9_now_141
  have hB := ifN c_16_4 hB
  by_cases c_16_5 : p1 = 5
  · have hB := ifP c_16_5 hB
    refine lv_tableIn (off := 139) (tgt := 142) hx hb dX9_now_3 (by rw [c_16_5]; decide) (by rw [c_16_5]; decide) (by rw [c_16_5]; decide) (by decide) ?_
    refine lv_iconst (v := 0) hx hb dX9_now_142 (by decide) ?_
    refine lv_istore_n (lv' := [(3, .int (0 : Int32)), (2, .int (0 : Int32)), (0, .ref a_t), (1, .int p1)]) hx hb dX9_now_143 rfl hl (by decide) rfl (fun ls hl => ?_)
    refine lp_ind (Wh := fun (z10 : Int32 × Int32) => ∀ (ls : Array Slot), lv_has ls 4 [(0, .ref a_t), (2, .int z10.1), (3, .int z10.2)] → W p l e rm_X9_now s m ([.ref a_t, .int p1] : List Value).toArray below meth c s.heap [] 0 0 (MQ below (vp_Si (fun r => r = R0)) ([.ref a_t, .int p1] : List Value).toArray s 0 0 (fun _ => False)) (F0 m 144 ls [])) ?_ FU _ _ hB hK ls (lv_sub hl [2, 1, 0] rfl)
    rintro ⟨z10_0, z10_1⟩ y hB hK ls hl
    have hl : lv_has ls 4 [(0, .ref a_t), (2, .int z10_0), (3, .int z10_1)] := hl
    refine lv_iload_n hx hb dX9_now_144 rfl (lv_at hl 2 rfl) ?_
    refine lv_aload_n hx hb dX9_now_145 rfl (lv_at hl 0 rfl) ?_
    refine va_get (D := G) (ci := 9) (v := .ref a_t_scribes) (C := RX9) (T := TX9) (N := 26) hx hb hg inX9 hown hKT hP 0 rfl rfl 6 (by decide) (hg _ gF_X9_23) (fun _ h9 => h9) rfl dX9_now_146 ?_
    refine lv_iconst (v := 0) hx hb dX9_now_149 (by decide) ?_
    refine va_iald hx hb hKT hP 3 0 rfl rfl (vinC (by decide)) dX9_now_150 ?_
    refine lv_icmp_ge (tgt := 189) hx hb dX9_now_151 (by decide) (fun c_11 => ?_) (fun c_11 => ?_)
    · have hB := ifP c_11 hB
      refine lv_iload_n hx hb dX9_now_189 rfl (lv_at hl 1 rfl) ?_
      have hK := leafK hB hK
      have hK := elimR hK
      have hK : z10_0 = R0 := hK
      subst hK
      exact W.iret (v := z10_0) hx hb hr (fun t ht hW => ⟨_, rfl, rfl, ht⟩) (fun _ h => by cases h) dX9_now_190
    · have hB := ifN c_11 hB
      refine lv_iload_n hx hb dX9_now_154 rfl (lv_at hl 1 rfl) ?_
      refine lv_aload_n hx hb dX9_now_155 rfl (lv_at hl 0 rfl) ?_
      refine lv_aload_n hx hb dX9_now_156 rfl (lv_at hl 0 rfl) ?_
      refine va_get (D := G) (ci := 9) (v := .ref a_t_turn) (C := RX9) (T := TX9) (N := 26) hx hb hg inX9 hown hKT hP 0 rfl rfl 7 (by decide) (hg _ gF_X9_26) (fun _ h9 => h9) rfl dX9_now_157 ?_
      refine lv_iload_n hx hb dX9_now_160 rfl (lv_at hl 2 rfl) ?_
      obtain ⟨h_12, hB⟩ := ifS hB
      refine va_iald hx hb hKT hP 4 0 rfl rfl h_12 dX9_now_161 ?_
      refine lv_aload_n hx hb dX9_now_162 rfl (lv_at hl 0 rfl) ?_
      refine va_get (D := G) (ci := 9) (v := .ref a_t_bent) (C := RX9) (T := TX9) (N := 26) hx hb hg inX9 hown hKT hP 0 rfl rfl 8 (by decide) (hg _ gF_X9_29) (fun _ h9 => h9) rfl dX9_now_163 ?_
      refine lv_iload_n hx hb dX9_now_166 rfl (lv_at hl 2 rfl) ?_
      obtain ⟨h_13, hB⟩ := ifS hB
      refine va_iald hx hb hKT hP 5 0 rfl rfl h_13 dX9_now_167 ?_
      obtain ⟨q14, hq14, hB⟩ := bnd hB
      refine kr_V (WC := wd_X9_isSo cs a_t a_t_text a_t_opinions a_t_lines a_t_draftBook a_t_scribes a_t_turn a_t_bent a_t_need a_t_now a_t_isKept a_t_far a_t_marginOf a_t_marginSays v_t_trace v_t_typed v_t_needTold v_t_at v_t_start v_t_sort v_t_value v_t_fault v_t_target v_t_went v_t_ender v_t_had v_t_margins g_t_opinions g_t_marginOf g_t_marginSays) (As := [.int (g_t_turn z10_1.toNatClampNeg), .int (g_t_bent z10_1.toNatClampNeg)]) (rest := [.int z10_0]) (r0 := q14) ⟨hx, hb, hml, hown, hg⟩ (k_X9_isSo l G cs a_t a_t_text a_t_opinions a_t_lines a_t_draftBook a_t_scribes a_t_turn a_t_bent a_t_need a_t_now a_t_isKept a_t_far a_t_marginOf a_t_marginSays v_t_trace v_t_typed v_t_needTold v_t_at v_t_start v_t_sort v_t_value v_t_fault v_t_target v_t_went v_t_ender v_t_had v_t_margins g_t_opinions g_t_marginOf g_t_marginSays (g_t_turn z10_1.toNatClampNeg) (g_t_bent z10_1.toNatClampNeg) q14 hq14) gM_X9_164 mI_X9_isSo (rmk rfl) hP hKT hN 0 rfl rfl [0, 1, 8, 9] rfl rfl hl.1 rfl (Nat.le_of_ble_eq_true rfl) dX9_now_168 ?_
      refine lv_if_eq (tgt := 180) hx hb dX9_now_171 (by decide) (fun c_15 => ?_) (fun c_15 => ?_)
      · have hB := ifP c_15 hB
        refine lv_iconst (v := 0) hx hb dX9_now_180 (by decide) ?_
        refine lv_ior hx hb dX9_now_181 ?_
        refine lv_istore_n (lv' := [(2, .int (z10_0 ||| (0 : Int32))), (0, .ref a_t), (3, .int z10_1)]) hx hb dX9_now_182 rfl hl (by decide) rfl (fun ls hl => ?_)
        refine lv_iinc (v := z10_1 + (1 : Int32)) (lv' := [(3, .int (z10_1 + (1 : Int32))), (2, .int (z10_0 ||| (0 : Int32))), (0, .ref a_t)]) hx hb dX9_now_183 hl (k := 2) rfl (inc_ok (by decide)) (by decide) rfl (fun ls hl => ?_)
        refine lv_goto (tgt := 144) hx hb dX9_now_186 (by decide) ?_
        have hK := leafK hB hK
        have hK := elimL hK
        exact hK ls (lv_sub hl [2, 1, 0] rfl)
      · have hB := ifN c_15 hB
        refine lv_iconst (v := 1) hx hb dX9_now_174 (by decide) ?_
        refine lv_iload_n hx hb dX9_now_175 rfl (lv_at hl 2 rfl) ?_
        refine lj_ishl hx hb dX9_now_176 ?_
        refine lv_goto (tgt := 181) hx hb dX9_now_177 (by decide) ?_
        refine lv_ior hx hb dX9_now_181 ?_
        refine lv_istore_n (lv' := [(2, .int (z10_0 ||| (jshl (1 : Int32) z10_1))), (0, .ref a_t), (3, .int z10_1)]) hx hb dX9_now_182 rfl hl (by decide) rfl (fun ls hl => ?_)
        refine lv_iinc (v := z10_1 + (1 : Int32)) (lv' := [(3, .int (z10_1 + (1 : Int32))), (2, .int (z10_0 ||| (jshl (1 : Int32) z10_1))), (0, .ref a_t)]) hx hb dX9_now_183 hl (k := 2) rfl (inc_ok (by decide)) (by decide) rfl (fun ls hl => ?_)
        refine lv_goto (tgt := 144) hx hb dX9_now_186 (by decide) ?_
        have hK := leafK hB hK
        have hK := elimL hK
        exact hK ls (lv_sub hl [2, 1, 0] rfl)
  have hB := ifN c_16_5 hB
  have c_16_0t := lv_neT (a := 0) c_16_0 rfl
  have c_16_1t := lv_neT (a := 1) c_16_1 rfl
  have c_16_2t := lv_neT (a := 2) c_16_2 rfl
  have c_16_3t := lv_neT (a := 3) c_16_3 rfl
  have c_16_4t := lv_neT (a := 4) c_16_4 rfl
  have c_16_5t := lv_neT (a := 5) c_16_5 rfl
  refine lv_tableOut (tgt := 191) hx hb dX9_now_3 (by omega) (by decide) ?_
  refine lv_iconst (v := -1) hx hb dX9_now_191 (by decide) ?_
  have hK := leafK hB hK
  have hK : (-1 : Int32) = R0 := hK
  subst hK
  exact W.iret (v := (-1 : Int32)) hx hb hr (fun t ht hW => ⟨_, rfl, rfl, ht⟩) (fun _ h => by cases h) dX9_now_192
def wd_X9_go (cs : Nat → ClassId) (a_t a_t_text a_t_opinions a_t_lines a_t_draftBook a_t_scribes a_t_turn a_t_bent a_t_need a_t_now a_t_isKept a_t_far a_t_marginOf a_t_marginSays : Nat) (v_t_trace : Int64) (v_t_typed : Int32) (v_t_needTold : Int32) (v_t_at : Int32) (v_t_start : Int32) (v_t_sort : Int32) (v_t_value : Int32) (v_t_fault : Int32) (v_t_target : Int32) (v_t_went : Int32) (v_t_ender : Int32) (v_t_had : Int32) (v_t_margins : Int32) (g_t_opinions : Nat → Int32) (g_t_lines : Nat → Int32) (g_t_turn : Nat → Int32) (g_t_bent : Nat → Int32) (g_t_need : Nat → Int32) : va_W := [(a_t, .inr (9, [.long v_t_trace, .ref a_t_text, .int v_t_typed, .ref a_t_opinions, .ref a_t_lines, .ref a_t_draftBook, .ref a_t_scribes, .ref a_t_turn, .ref a_t_bent, .ref a_t_need, .int v_t_needTold, .int v_t_at, .int v_t_start, .int v_t_sort, .int v_t_value, .int v_t_fault, .ref a_t_now, .ref a_t_isKept, .int v_t_target, .int v_t_went, .int v_t_ender, .int v_t_had, .ref a_t_far, .ref a_t_marginOf, .ref a_t_marginSays, .int v_t_margins])), (a_t_opinions, .inl (cs 0, 2, .inl g_t_opinions)), (a_t_lines, .inl (cs 0, 2, .inl g_t_lines)), (a_t_turn, .inl (cs 0, 12, .inl g_t_turn)), (a_t_bent, .inl (cs 0, 12, .inl g_t_bent)), (a_t_need, .inl (cs 0, 2, .inl g_t_need))]
def rm_X9_go : Room := { frames := 3, cells := 0, slots := 0, locals := 70 }
theorem mI_X9_go : MI yX9_go RX9 cX9_go 5 none 3 := ⟨gI_X9_go, gE_X9_go, gN_X9, gC_X9_go, by decide +kernel⟩
set_option maxHeartbeats 4000000 in
set_option maxRecDepth 100000 in
theorem k_X9_go (l : Launch) (G : va_G) (cs : Nat → ClassId) (a_t a_t_text a_t_opinions a_t_lines a_t_draftBook a_t_scribes a_t_turn a_t_bent a_t_need a_t_now a_t_isKept a_t_far a_t_marginOf a_t_marginSays : Nat) (v_t_trace : Int64) (v_t_typed : Int32) (v_t_needTold : Int32) (v_t_at : Int32) (v_t_start : Int32) (v_t_sort : Int32) (v_t_value : Int32) (v_t_fault : Int32) (v_t_target : Int32) (v_t_went : Int32) (v_t_ender : Int32) (v_t_had : Int32) (v_t_margins : Int32) (g_t_opinions : Nat → Int32) (g_t_lines : Nat → Int32) (g_t_turn : Nat → Int32) (g_t_bent : Nat → Int32) (g_t_need : Nat → Int32) (p1 p2 p3 : Int32) (sz : Nat) (R0 : Int32 × Int32 × Int32) (hB : f_X9_go g_t_opinions g_t_lines g_t_turn g_t_bent g_t_need p1 p2 p3 = some R0) : Met l yX9_go (.code yX9_go cX9_go 5 none :: GW) rm_X9_go (PcW G cs [.ref a_t, .int p1, .int p2, .int p3] (wd_X9_go cs a_t a_t_text a_t_opinions a_t_lines a_t_draftBook a_t_scribes a_t_turn a_t_bent a_t_need a_t_now a_t_isKept a_t_far a_t_marginOf a_t_marginSays v_t_trace v_t_typed v_t_needTold v_t_at v_t_start v_t_sort v_t_value v_t_fault v_t_target v_t_went v_t_ender v_t_had v_t_margins g_t_opinions g_t_lines g_t_turn g_t_bent g_t_need) sz) (QcV G (va_A (wd_X9_go cs a_t a_t_text a_t_opinions a_t_lines a_t_draftBook a_t_scribes a_t_turn a_t_bent a_t_need a_t_now a_t_isKept a_t_far a_t_marginOf a_t_marginSays v_t_trace v_t_typed v_t_needTold v_t_at v_t_start v_t_sort v_t_value v_t_fault v_t_target v_t_went v_t_ender v_t_had v_t_margins g_t_opinions g_t_lines g_t_turn g_t_bent g_t_need) sz) (wd_X9_go cs a_t a_t_text a_t_opinions a_t_lines a_t_draftBook a_t_scribes a_t_turn a_t_bent a_t_need a_t_now a_t_isKept a_t_far a_t_marginOf a_t_marginSays v_t_trace v_t_typed v_t_needTold v_t_at v_t_start v_t_sort v_t_value v_t_fault v_t_target R0.1 R0.2.1 R0.2.2 v_t_margins g_t_opinions g_t_lines g_t_turn g_t_bent g_t_need)) 0 0 (va_A (wd_X9_go cs a_t a_t_text a_t_opinions a_t_lines a_t_draftBook a_t_scribes a_t_turn a_t_bent a_t_need a_t_now a_t_isKept a_t_far a_t_marginOf a_t_marginSays v_t_trace v_t_typed v_t_needTold v_t_at v_t_start v_t_sort v_t_value v_t_fault v_t_target v_t_went v_t_ender v_t_had v_t_margins g_t_opinions g_t_lines g_t_turn g_t_bent g_t_need) sz) := by
  refine Met.ofW (cc := cX9_go) (maxL := 5) (ret := none) (by decide) rfl ?_
  intro p e s m args below meth c s₁ B hml hv
  obtain ⟨rfl, hsz, hP, hD0, hK, hN⟩ := hv
  have hx := B.exec
  have hb := B.bytes
  have hr := B.returns
  have hts := atoms_spec (ws := .code yX9_go cX9_go 5 none :: GW) B.pre
  have hg : ∀ w ∈ GW, w.before _ s = true := fun w h => hts w (List.mem_cons_of_mem _ h)
  have hown : s.vm.findClass RX9 = some m.cls := findClass_of_methodNamed B.named
  have hlocks := B.notSynchronized
  subst hsz
  have hD := hD0.self (sz := s.heap.size)
  generalize hAe : va_A (wd_X9_go cs a_t a_t_text a_t_opinions a_t_lines a_t_draftBook a_t_scribes a_t_turn a_t_bent a_t_need a_t_now a_t_isKept a_t_far a_t_marginOf a_t_marginSays v_t_trace v_t_typed v_t_needTold v_t_at v_t_start v_t_sort v_t_value v_t_fault v_t_target v_t_went v_t_ender v_t_had v_t_margins g_t_opinions g_t_lines g_t_turn g_t_bent g_t_need) s.heap.size = A at hD ⊢
  have hA : ∀ q : Nat, s.heap.size ≤ q → A q := fun q h => by rw [← hAe]; exact Or.inr h
  have hS : va_S A s.heap s.heap [] := va_S.rf
  have hl := lv_entry ([.ref a_t, .int p1, .int p2, .int p3]) (n := 5) (Nat.le_of_ble_eq_true rfl)
  rw [lg_entry_eq]
  generalize (lg_sl ([.ref a_t, .int p1, .int p2, .int p3]) ++ List.replicate (5 - (lg_sl ([.ref a_t, .int p1, .int p2, .int p3])).length) Slot.unset).toArray = ls at hl ⊢
  have hl : lv_has ls 5 [(0, .ref a_t), (1, .int p1), (2, .int p2), (3, .int p3)] := hl
  obtain ⟨y, hB, hK0⟩ : ∃ y, f_X9_go g_t_opinions g_t_lines g_t_turn g_t_bent g_t_need p1 p2 p3 = some y ∧ KEnd R0 y := ⟨R0, hB, rfl⟩
  have hKT := hK
  have hK := hK0
  obtain ⟨H, hHe⟩ : ∃ H, H = s.heap := ⟨_, rfl⟩
  obtain ⟨locs, hLe⟩ : ∃ L : List Loc, L = [] := ⟨_, rfl⟩
  rw [← hHe] at hP
  have hS : va_S A s.heap H locs := by rw [hHe, hLe]; exact hS
  show W p l e rm_X9_go s m ([.ref a_t, .int p1, .int p2, .int p3] : List Value).toArray below meth c s.heap [] 0 0 _ _
  suffices hgo : W p l e rm_X9_go s m ([.ref a_t, .int p1, .int p2, .int p3] : List Value).toArray below meth c H locs 0 0 (MQ below (QcV G A (wd_X9_go cs a_t a_t_text a_t_opinions a_t_lines a_t_draftBook a_t_scribes a_t_turn a_t_bent a_t_need a_t_now a_t_isKept a_t_far a_t_marginOf a_t_marginSays v_t_trace v_t_typed v_t_needTold v_t_at v_t_start v_t_sort v_t_value v_t_fault v_t_target R0.1 R0.2.1 R0.2.2 v_t_margins g_t_opinions g_t_lines g_t_turn g_t_bent g_t_need)) ([.ref a_t, .int p1, .int p2, .int p3] : List Value).toArray s 0 0 A) (F0 m 0 ls []) by rw [hHe, hLe] at hgo; exact hgo
  refine lv_aload_n hx hb dX9_go_0 rfl (lv_at hl 0 rfl) ?_
  refine lv_iload_n hx hb dX9_go_1 rfl (lv_at hl 1 rfl) ?_
  refine va_put (D := G) (ci := 9) (v := .int p1) (ty := .int) (C := RX9) (T := TX9) (N := 26) hx hb hg inX9 tyX9 tyX9_ok nmX9 hown hKT hP hD hS 0 rfl rfl 19 (by decide) (hg _ gF_X9_167) (fun _ h9 => h9) rfl (by decide +kernel) rfl rfl (Nat.le_of_ble_eq_true rfl) dX9_go_2 (fun H locs hP hD hS => ?_)
  have hP : va_P G vwCl (wd_X9_go cs a_t a_t_text a_t_opinions a_t_lines a_t_draftBook a_t_scribes a_t_turn a_t_bent a_t_need a_t_now a_t_isKept a_t_far a_t_marginOf a_t_marginSays v_t_trace v_t_typed v_t_needTold v_t_at v_t_start v_t_sort v_t_value v_t_fault v_t_target p1 v_t_ender v_t_had v_t_margins g_t_opinions g_t_lines g_t_turn g_t_bent g_t_need) H := hP
  have hD : va_D A (wd_X9_go cs a_t a_t_text a_t_opinions a_t_lines a_t_draftBook a_t_scribes a_t_turn a_t_bent a_t_need a_t_now a_t_isKept a_t_far a_t_marginOf a_t_marginSays v_t_trace v_t_typed v_t_needTold v_t_at v_t_start v_t_sort v_t_value v_t_fault v_t_target p1 v_t_ender v_t_had v_t_margins g_t_opinions g_t_lines g_t_turn g_t_bent g_t_need) := hD
  refine lv_aload_n hx hb dX9_go_5 rfl (lv_at hl 0 rfl) ?_
  refine lv_bipush (v := -9) hx hb dX9_go_6 (by decide) ?_
  refine va_put (D := G) (ci := 9) (v := .int (-9 : Int32)) (ty := .int) (C := RX9) (T := TX9) (N := 26) hx hb hg inX9 tyX9 tyX9_ok nmX9 hown hKT hP hD hS 0 rfl rfl 20 (by decide) (hg _ gF_X9_170) (fun _ h9 => h9) rfl (by decide +kernel) rfl rfl (Nat.le_of_ble_eq_true rfl) dX9_go_8 (fun H locs hP hD hS => ?_)
  have hP : va_P G vwCl (wd_X9_go cs a_t a_t_text a_t_opinions a_t_lines a_t_draftBook a_t_scribes a_t_turn a_t_bent a_t_need a_t_now a_t_isKept a_t_far a_t_marginOf a_t_marginSays v_t_trace v_t_typed v_t_needTold v_t_at v_t_start v_t_sort v_t_value v_t_fault v_t_target p1 (-9 : Int32) v_t_had v_t_margins g_t_opinions g_t_lines g_t_turn g_t_bent g_t_need) H := hP
  have hD : va_D A (wd_X9_go cs a_t a_t_text a_t_opinions a_t_lines a_t_draftBook a_t_scribes a_t_turn a_t_bent a_t_need a_t_now a_t_isKept a_t_far a_t_marginOf a_t_marginSays v_t_trace v_t_typed v_t_needTold v_t_at v_t_start v_t_sort v_t_value v_t_fault v_t_target p1 (-9 : Int32) v_t_had v_t_margins g_t_opinions g_t_lines g_t_turn g_t_bent g_t_need) := hD
  refine lv_aload_n hx hb dX9_go_11 rfl (lv_at hl 0 rfl) ?_
  refine lv_iconst (v := 0) hx hb dX9_go_12 (by decide) ?_
  refine va_put (D := G) (ci := 9) (v := .int (0 : Int32)) (ty := .int) (C := RX9) (T := TX9) (N := 26) hx hb hg inX9 tyX9 tyX9_ok nmX9 hown hKT hP hD hS 0 rfl rfl 21 (by decide) (hg _ gF_X9_173) (fun _ h9 => h9) rfl (by decide +kernel) rfl rfl (Nat.le_of_ble_eq_true rfl) dX9_go_13 (fun H locs hP hD hS => ?_)
  have hP : va_P G vwCl (wd_X9_go cs a_t a_t_text a_t_opinions a_t_lines a_t_draftBook a_t_scribes a_t_turn a_t_bent a_t_need a_t_now a_t_isKept a_t_far a_t_marginOf a_t_marginSays v_t_trace v_t_typed v_t_needTold v_t_at v_t_start v_t_sort v_t_value v_t_fault v_t_target p1 (-9 : Int32) (0 : Int32) v_t_margins g_t_opinions g_t_lines g_t_turn g_t_bent g_t_need) H := hP
  have hD : va_D A (wd_X9_go cs a_t a_t_text a_t_opinions a_t_lines a_t_draftBook a_t_scribes a_t_turn a_t_bent a_t_need a_t_now a_t_isKept a_t_far a_t_marginOf a_t_marginSays v_t_trace v_t_typed v_t_needTold v_t_at v_t_start v_t_sort v_t_value v_t_fault v_t_target p1 (-9 : Int32) (0 : Int32) v_t_margins g_t_opinions g_t_lines g_t_turn g_t_bent g_t_need) := hD
  refine lv_iconst (v := -1) hx hb dX9_go_16 (by decide) ?_
  refine lv_istore (lv' := [(4, .int (-1 : Int32)), (0, .ref a_t), (1, .int p1), (2, .int p2), (3, .int p3)]) hx hb dX9_go_17 hl (by decide) rfl (fun ls hl => ?_)
  refine lp_ind (Wh := fun (z1 : Int32 × Int32 × Int32 × Int32) => ∀ (H : Heap) (locs : List Loc), va_P G vwCl (wd_X9_go cs a_t a_t_text a_t_opinions a_t_lines a_t_draftBook a_t_scribes a_t_turn a_t_bent a_t_need a_t_now a_t_isKept a_t_far a_t_marginOf a_t_marginSays v_t_trace v_t_typed v_t_needTold v_t_at v_t_start v_t_sort v_t_value v_t_fault v_t_target z1.2.1 z1.2.2.1 z1.2.2.2 v_t_margins g_t_opinions g_t_lines g_t_turn g_t_bent g_t_need) H → va_D A (wd_X9_go cs a_t a_t_text a_t_opinions a_t_lines a_t_draftBook a_t_scribes a_t_turn a_t_bent a_t_need a_t_now a_t_isKept a_t_far a_t_marginOf a_t_marginSays v_t_trace v_t_typed v_t_needTold v_t_at v_t_start v_t_sort v_t_value v_t_fault v_t_target z1.2.1 z1.2.2.1 z1.2.2.2 v_t_margins g_t_opinions g_t_lines g_t_turn g_t_bent g_t_need) → va_S A s.heap H locs → ∀ (ls : Array Slot), lv_has ls 5 [(0, .ref a_t), (2, .int p2), (3, .int p3), (4, .int z1.1)] → W p l e rm_X9_go s m ([.ref a_t, .int p1, .int p2, .int p3] : List Value).toArray below meth c H locs 0 0 (MQ below (QcV G A (wd_X9_go cs a_t a_t_text a_t_opinions a_t_lines a_t_draftBook a_t_scribes a_t_turn a_t_bent a_t_need a_t_now a_t_isKept a_t_far a_t_marginOf a_t_marginSays v_t_trace v_t_typed v_t_needTold v_t_at v_t_start v_t_sort v_t_value v_t_fault v_t_target R0.1 R0.2.1 R0.2.2 v_t_margins g_t_opinions g_t_lines g_t_turn g_t_bent g_t_need)) ([.ref a_t, .int p1, .int p2, .int p3] : List Value).toArray s 0 0 A) (F0 m 19 ls [])) ?_ FU _ _ hB hK H locs hP hD hS ls (lv_sub hl [1, 3, 4, 0] rfl)
  rintro ⟨z1_0, z1_1, z1_2, z1_3⟩ y hB hK H locs hP hD hS ls hl
  have hl : lv_has ls 5 [(0, .ref a_t), (2, .int p2), (3, .int p3), (4, .int z1_0)] := hl
  have hP : va_P G vwCl (wd_X9_go cs a_t a_t_text a_t_opinions a_t_lines a_t_draftBook a_t_scribes a_t_turn a_t_bent a_t_need a_t_now a_t_isKept a_t_far a_t_marginOf a_t_marginSays v_t_trace v_t_typed v_t_needTold v_t_at v_t_start v_t_sort v_t_value v_t_fault v_t_target z1_1 z1_2 z1_3 v_t_margins g_t_opinions g_t_lines g_t_turn g_t_bent g_t_need) H := hP
  have hD : va_D A (wd_X9_go cs a_t a_t_text a_t_opinions a_t_lines a_t_draftBook a_t_scribes a_t_turn a_t_bent a_t_need a_t_now a_t_isKept a_t_far a_t_marginOf a_t_marginSays v_t_trace v_t_typed v_t_needTold v_t_at v_t_start v_t_sort v_t_value v_t_fault v_t_target z1_1 z1_2 z1_3 v_t_margins g_t_opinions g_t_lines g_t_turn g_t_bent g_t_need) := hD
  refine lv_aload_n hx hb dX9_go_19 rfl (lv_at hl 0 rfl) ?_
  refine va_get (D := G) (ci := 9) (v := .int z1_2) (C := RX9) (T := TX9) (N := 26) hx hb hg inX9 hown hKT hP 0 rfl rfl 20 (by decide) (hg _ gF_X9_170) (fun _ h9 => h9) rfl dX9_go_20 ?_
  refine lv_bipush (v := -9) hx hb dX9_go_23 (by decide) ?_
  refine lv_icmp_ne (tgt := 108) hx hb dX9_go_25 (by decide) (fun c_2 => ?_) (fun c_2 => ?_)
  · have hB := ifN c_2 hB
    have hK := leafK hB hK
    have hK := elimR hK
    have hK : (z1_1, z1_2, z1_3) = R0 := hK
    subst hK
    exact W.vret hx hb hr (fun t ht hW => ⟨⟨(), rfl, trivial, by rw [ht]; exact hP, hD⟩, hS.F ht⟩) hS.2.2 dX9_go_108
  · have hB := ifP c_2 hB
    refine lv_aload_n hx hb dX9_go_28 rfl (lv_at hl 0 rfl) ?_
    refine va_get (D := G) (ci := 9) (v := .int z1_3) (C := RX9) (T := TX9) (N := 26) hx hb hg inX9 hown hKT hP 0 rfl rfl 21 (by decide) (hg _ gF_X9_173) (fun _ h9 => h9) rfl dX9_go_29 ?_
    refine lv_iload_n hx hb dX9_go_32 rfl (lv_at hl 2 rfl) ?_
    refine lv_icmp_ge (tgt := 108) hx hb dX9_go_33 (by decide) (fun c_3 => ?_) (fun c_3 => ?_)
    · have hB := ifP c_3 hB
      have hK := leafK hB hK
      have hK := elimR hK
      have hK : (z1_1, z1_2, z1_3) = R0 := hK
      subst hK
      exact W.vret hx hb hr (fun t ht hW => ⟨⟨(), rfl, trivial, by rw [ht]; exact hP, hD⟩, hS.F ht⟩) hS.2.2 dX9_go_108
    · have hB := ifN c_3 hB
      refine lv_iload_n hx hb dX9_go_36 rfl (lv_at hl 1 rfl) ?_
      refine lv_if_eq (tgt := 108) hx hb dX9_go_37 (by decide) (fun c_4 => ?_) (fun c_4 => ?_)
      · have hB := ifP c_4 hB
        have hK := leafK hB hK
        have hK := elimR hK
        have hK : (z1_1, z1_2, z1_3) = R0 := hK
        subst hK
        exact W.vret hx hb hr (fun t ht hW => ⟨⟨(), rfl, trivial, by rw [ht]; exact hP, hD⟩, hS.F ht⟩) hS.2.2 dX9_go_108
      · have hB := ifN c_4 hB
        refine lv_iload hx hb dX9_go_40 (lv_at hl 3 rfl) ?_
        refine lv_iconst (v := 1) hx hb dX9_go_42 (by decide) ?_
        refine lv_iadd hx hb dX9_go_43 ?_
        refine lv_bipush (v := 6) hx hb dX9_go_44 (by decide) ?_
        refine lj_irem hx hb dX9_go_46 (by decide) ?_
        refine lv_istore (lv' := [(4, .int (jrem (z1_0 + (1 : Int32)) (6 : Int32))), (0, .ref a_t), (2, .int p2), (3, .int p3)]) hx hb dX9_go_47 hl (by decide) rfl (fun ls hl => ?_)
        refine lv_iload_n hx hb dX9_go_49 rfl (lv_at hl 2 rfl) ?_
        refine lv_iload hx hb dX9_go_50 (lv_at hl 0 rfl) ?_
        refine lj_ishr hx hb dX9_go_52 ?_
        refine lv_iconst (v := 1) hx hb dX9_go_53 (by decide) ?_
        refine lv_iand hx hb dX9_go_54 ?_
        refine lv_iconst (v := 1) hx hb dX9_go_55 (by decide) ?_
        refine lv_icmp_ne (tgt := 19) hx hb dX9_go_56 (by decide) (fun c_5 => ?_) (fun c_5 => ?_)
        · have hB := ifN c_5 hB
          have hK := leafK hB hK
          have hK := elimL hK
          exact hK H locs hP hD hS ls (lv_sub hl [1, 2, 3, 0] rfl)
        · have hB := ifP c_5 hB
          refine lv_aload_n hx hb dX9_go_59 rfl (lv_at hl 1 rfl) ?_
          refine lv_iload hx hb dX9_go_60 (lv_at hl 0 rfl) ?_
          refine lv_aload_n hx hb dX9_go_62 rfl (lv_at hl 1 rfl) ?_
          refine va_get (D := G) (ci := 9) (v := .int z1_1) (C := RX9) (T := TX9) (N := 26) hx hb hg inX9 hown hKT hP 0 rfl rfl 19 (by decide) (hg _ gF_X9_167) (fun _ h9 => h9) rfl dX9_go_63 ?_
          obtain ⟨q6, hq6, hB⟩ := bnd hB
          refine kr_V (WC := wd_X9_isConvinced cs a_t a_t_text a_t_opinions a_t_lines a_t_draftBook a_t_scribes a_t_turn a_t_bent a_t_need a_t_now a_t_isKept a_t_far a_t_marginOf a_t_marginSays v_t_trace v_t_typed v_t_needTold v_t_at v_t_start v_t_sort v_t_value v_t_fault v_t_target z1_1 z1_2 z1_3 v_t_margins g_t_opinions g_t_lines g_t_turn g_t_bent g_t_need) (As := [.int (jrem (z1_0 + (1 : Int32)) (6 : Int32)), .int z1_1]) (rest := []) (r0 := q6) ⟨hx, hb, hml, hown, hg⟩ (k_X9_isConvinced l G cs a_t a_t_text a_t_opinions a_t_lines a_t_draftBook a_t_scribes a_t_turn a_t_bent a_t_need a_t_now a_t_isKept a_t_far a_t_marginOf a_t_marginSays v_t_trace v_t_typed v_t_needTold v_t_at v_t_start v_t_sort v_t_value v_t_fault v_t_target z1_1 z1_2 z1_3 v_t_margins g_t_opinions g_t_lines g_t_turn g_t_bent g_t_need (jrem (z1_0 + (1 : Int32)) (6 : Int32)) z1_1 q6 hq6) gM_X9_136 mI_X9_isConvinced (rmk rfl) hP hKT hN 0 rfl rfl [0, 1, 2, 3, 4, 5] rfl rfl hl.1 rfl (Nat.le_of_ble_eq_true rfl) dX9_go_66 ?_
          refine lv_if_eq (tgt := 81) hx hb dX9_go_69 (by decide) (fun c_7 => ?_) (fun c_7 => ?_)
          · have hB := ifP c_7 hB
            refine lv_aload_n hx hb dX9_go_81 rfl (lv_at hl 1 rfl) ?_
            refine lv_aload_n hx hb dX9_go_82 rfl (lv_at hl 1 rfl) ?_
            refine lv_iload hx hb dX9_go_83 (lv_at hl 0 rfl) ?_
            refine lv_aload_n hx hb dX9_go_85 rfl (lv_at hl 1 rfl) ?_
            refine va_get (D := G) (ci := 9) (v := .int z1_1) (C := RX9) (T := TX9) (N := 26) hx hb hg inX9 hown hKT hP 0 rfl rfl 19 (by decide) (hg _ gF_X9_167) (fun _ h9 => h9) rfl dX9_go_86 ?_
            obtain ⟨q8, hq8, hB⟩ := bnd hB
            refine kr_V (WC := wd_X9_copyOf cs a_t a_t_text a_t_opinions a_t_lines a_t_draftBook a_t_scribes a_t_turn a_t_bent a_t_need a_t_now a_t_isKept a_t_far a_t_marginOf a_t_marginSays v_t_trace v_t_typed v_t_needTold v_t_at v_t_start v_t_sort v_t_value v_t_fault v_t_target z1_1 z1_2 z1_3 v_t_margins g_t_opinions g_t_lines g_t_turn g_t_bent) (As := [.int (jrem (z1_0 + (1 : Int32)) (6 : Int32)), .int z1_1]) (rest := [.ref a_t]) (r0 := q8) ⟨hx, hb, hml, hown, hg⟩ (k_X9_copyOf l G cs a_t a_t_text a_t_opinions a_t_lines a_t_draftBook a_t_scribes a_t_turn a_t_bent a_t_need a_t_now a_t_isKept a_t_far a_t_marginOf a_t_marginSays v_t_trace v_t_typed v_t_needTold v_t_at v_t_start v_t_sort v_t_value v_t_fault v_t_target z1_1 z1_2 z1_3 v_t_margins g_t_opinions g_t_lines g_t_turn g_t_bent (jrem (z1_0 + (1 : Int32)) (6 : Int32)) z1_1 q8 hq8) gM_X9_126 mI_X9_copyOf (rmk rfl) hP hKT hN 0 rfl rfl [0, 1, 2, 3, 4] rfl rfl hl.1 rfl (Nat.le_of_ble_eq_true rfl) dX9_go_89 ?_
            refine va_put (D := G) (ci := 9) (v := .int q8) (ty := .int) (C := RX9) (T := TX9) (N := 26) hx hb hg inX9 tyX9 tyX9_ok nmX9 hown hKT hP hD hS 0 rfl rfl 19 (by decide) (hg _ gF_X9_167) (fun _ h9 => h9) rfl (by decide +kernel) rfl rfl (Nat.le_of_ble_eq_true rfl) dX9_go_92 (fun H locs hP hD hS => ?_)
            have hP : va_P G vwCl (wd_X9_go cs a_t a_t_text a_t_opinions a_t_lines a_t_draftBook a_t_scribes a_t_turn a_t_bent a_t_need a_t_now a_t_isKept a_t_far a_t_marginOf a_t_marginSays v_t_trace v_t_typed v_t_needTold v_t_at v_t_start v_t_sort v_t_value v_t_fault v_t_target q8 z1_2 z1_3 v_t_margins g_t_opinions g_t_lines g_t_turn g_t_bent g_t_need) H := hP
            have hD : va_D A (wd_X9_go cs a_t a_t_text a_t_opinions a_t_lines a_t_draftBook a_t_scribes a_t_turn a_t_bent a_t_need a_t_now a_t_isKept a_t_far a_t_marginOf a_t_marginSays v_t_trace v_t_typed v_t_needTold v_t_at v_t_start v_t_sort v_t_value v_t_fault v_t_target q8 z1_2 z1_3 v_t_margins g_t_opinions g_t_lines g_t_turn g_t_bent g_t_need) := hD
            refine lv_aload_n hx hb dX9_go_95 rfl (lv_at hl 1 rfl) ?_
            refine lv_dup hx hb dX9_go_96 rfl ?_
            refine va_get (D := G) (ci := 9) (v := .int z1_3) (C := RX9) (T := TX9) (N := 26) hx hb hg inX9 hown hKT hP 0 rfl rfl 21 (by decide) (hg _ gF_X9_173) (fun _ h9 => h9) rfl dX9_go_97 ?_
            refine lv_iconst (v := 1) hx hb dX9_go_100 (by decide) ?_
            refine lv_iadd hx hb dX9_go_101 ?_
            refine va_put (D := G) (ci := 9) (v := .int (z1_3 + (1 : Int32))) (ty := .int) (C := RX9) (T := TX9) (N := 26) hx hb hg inX9 tyX9 tyX9_ok nmX9 hown hKT hP hD hS 0 rfl rfl 21 (by decide) (hg _ gF_X9_173) (fun _ h9 => h9) rfl (by decide +kernel) rfl rfl (Nat.le_of_ble_eq_true rfl) dX9_go_102 (fun H locs hP hD hS => ?_)
            have hP : va_P G vwCl (wd_X9_go cs a_t a_t_text a_t_opinions a_t_lines a_t_draftBook a_t_scribes a_t_turn a_t_bent a_t_need a_t_now a_t_isKept a_t_far a_t_marginOf a_t_marginSays v_t_trace v_t_typed v_t_needTold v_t_at v_t_start v_t_sort v_t_value v_t_fault v_t_target q8 z1_2 (z1_3 + (1 : Int32)) v_t_margins g_t_opinions g_t_lines g_t_turn g_t_bent g_t_need) H := hP
            have hD : va_D A (wd_X9_go cs a_t a_t_text a_t_opinions a_t_lines a_t_draftBook a_t_scribes a_t_turn a_t_bent a_t_need a_t_now a_t_isKept a_t_far a_t_marginOf a_t_marginSays v_t_trace v_t_typed v_t_needTold v_t_at v_t_start v_t_sort v_t_value v_t_fault v_t_target q8 z1_2 (z1_3 + (1 : Int32)) v_t_margins g_t_opinions g_t_lines g_t_turn g_t_bent g_t_need) := hD
            refine lv_goto (tgt := 19) hx hb dX9_go_105 (by decide) ?_
            have hK := leafK hB hK
            have hK := elimL hK
            exact hK H locs hP hD hS ls (lv_sub hl [1, 2, 3, 0] rfl)
          · have hB := ifN c_7 hB
            refine lv_aload_n hx hb dX9_go_72 rfl (lv_at hl 1 rfl) ?_
            refine lv_iload hx hb dX9_go_73 (lv_at hl 0 rfl) ?_
            refine va_put (D := G) (ci := 9) (v := .int (jrem (z1_0 + (1 : Int32)) (6 : Int32))) (ty := .int) (C := RX9) (T := TX9) (N := 26) hx hb hg inX9 tyX9 tyX9_ok nmX9 hown hKT hP hD hS 0 rfl rfl 20 (by decide) (hg _ gF_X9_170) (fun _ h9 => h9) rfl (by decide +kernel) rfl rfl (Nat.le_of_ble_eq_true rfl) dX9_go_75 (fun H locs hP hD hS => ?_)
            have hP : va_P G vwCl (wd_X9_go cs a_t a_t_text a_t_opinions a_t_lines a_t_draftBook a_t_scribes a_t_turn a_t_bent a_t_need a_t_now a_t_isKept a_t_far a_t_marginOf a_t_marginSays v_t_trace v_t_typed v_t_needTold v_t_at v_t_start v_t_sort v_t_value v_t_fault v_t_target z1_1 (jrem (z1_0 + (1 : Int32)) (6 : Int32)) z1_3 v_t_margins g_t_opinions g_t_lines g_t_turn g_t_bent g_t_need) H := hP
            have hD : va_D A (wd_X9_go cs a_t a_t_text a_t_opinions a_t_lines a_t_draftBook a_t_scribes a_t_turn a_t_bent a_t_need a_t_now a_t_isKept a_t_far a_t_marginOf a_t_marginSays v_t_trace v_t_typed v_t_needTold v_t_at v_t_start v_t_sort v_t_value v_t_fault v_t_target z1_1 (jrem (z1_0 + (1 : Int32)) (6 : Int32)) z1_3 v_t_margins g_t_opinions g_t_lines g_t_turn g_t_bent g_t_need) := hD
            refine lv_goto (tgt := 19) hx hb dX9_go_78 (by decide) ?_
            have hK := leafK hB hK
            have hK := elimL hK
            exact hK H locs hP hD hS ls (lv_sub hl [1, 2, 3, 0] rfl)
