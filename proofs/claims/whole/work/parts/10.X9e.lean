def wd_X9_forget (cs : Nat → ClassId) (a_t a_t_text a_t_opinions a_t_lines a_t_draftBook a_t_scribes a_t_turn a_t_bent a_t_need a_t_now a_t_isKept a_t_far a_t_marginOf a_t_marginSays : Nat) (v_t_trace : Int64) (v_t_typed : Int32) (v_t_needTold : Int32) (v_t_at : Int32) (v_t_start : Int32) (v_t_sort : Int32) (v_t_value : Int32) (v_t_fault : Int32) (v_t_target : Int32) (v_t_went : Int32) (v_t_ender : Int32) (v_t_had : Int32) (v_t_margins : Int32) : va_W := [(a_t, .inr (9, [.long v_t_trace, .ref a_t_text, .int v_t_typed, .ref a_t_opinions, .ref a_t_lines, .ref a_t_draftBook, .ref a_t_scribes, .ref a_t_turn, .ref a_t_bent, .ref a_t_need, .int v_t_needTold, .int v_t_at, .int v_t_start, .int v_t_sort, .int v_t_value, .int v_t_fault, .ref a_t_now, .ref a_t_isKept, .int v_t_target, .int v_t_went, .int v_t_ender, .int v_t_had, .ref a_t_far, .ref a_t_marginOf, .ref a_t_marginSays, .int v_t_margins]))]
def rm_X9_forget : Room := { frames := 0, cells := 0, slots := 0, locals := 0 }
theorem mI_X9_forget : MI yX9_forget RX9 cX9_forget 2 (some .int) 0 := ⟨gI_X9_forget, gE_X9_forget, gN_X9, gC_X9_forget, by decide +kernel⟩
set_option maxHeartbeats 4000000 in
set_option maxRecDepth 100000 in
theorem k_X9_forget (l : Launch) (G : va_G) (cs : Nat → ClassId) (a_t a_t_text a_t_opinions a_t_lines a_t_draftBook a_t_scribes a_t_turn a_t_bent a_t_need a_t_now a_t_isKept a_t_far a_t_marginOf a_t_marginSays : Nat) (v_t_trace : Int64) (v_t_typed : Int32) (v_t_needTold : Int32) (v_t_at : Int32) (v_t_start : Int32) (v_t_sort : Int32) (v_t_value : Int32) (v_t_fault : Int32) (v_t_target : Int32) (v_t_went : Int32) (v_t_ender : Int32) (v_t_had : Int32) (v_t_margins : Int32) (sz : Nat) (R0 : Int32 × Int32) (hB : f_X9_forget v_t_margins = some R0) : Met l yX9_forget (.code yX9_forget cX9_forget 2 (some .int) :: GW) rm_X9_forget (PcW G cs [.ref a_t] (wd_X9_forget cs a_t a_t_text a_t_opinions a_t_lines a_t_draftBook a_t_scribes a_t_turn a_t_bent a_t_need a_t_now a_t_isKept a_t_far a_t_marginOf a_t_marginSays v_t_trace v_t_typed v_t_needTold v_t_at v_t_start v_t_sort v_t_value v_t_fault v_t_target v_t_went v_t_ender v_t_had v_t_margins) sz) (QcI G (va_A (wd_X9_forget cs a_t a_t_text a_t_opinions a_t_lines a_t_draftBook a_t_scribes a_t_turn a_t_bent a_t_need a_t_now a_t_isKept a_t_far a_t_marginOf a_t_marginSays v_t_trace v_t_typed v_t_needTold v_t_at v_t_start v_t_sort v_t_value v_t_fault v_t_target v_t_went v_t_ender v_t_had v_t_margins) sz) (wd_X9_forget cs a_t a_t_text a_t_opinions a_t_lines a_t_draftBook a_t_scribes a_t_turn a_t_bent a_t_need a_t_now a_t_isKept a_t_far a_t_marginOf a_t_marginSays v_t_trace v_t_typed v_t_needTold v_t_at v_t_start v_t_sort v_t_value v_t_fault v_t_target v_t_went v_t_ender v_t_had R0.2) R0.1) 0 0 (va_A (wd_X9_forget cs a_t a_t_text a_t_opinions a_t_lines a_t_draftBook a_t_scribes a_t_turn a_t_bent a_t_need a_t_now a_t_isKept a_t_far a_t_marginOf a_t_marginSays v_t_trace v_t_typed v_t_needTold v_t_at v_t_start v_t_sort v_t_value v_t_fault v_t_target v_t_went v_t_ender v_t_had v_t_margins) sz) := by
  refine Met.ofW (cc := cX9_forget) (maxL := 2) (ret := (some .int)) (by decide) rfl ?_
  intro p e s m args below meth c s₁ B hml hv
  obtain ⟨rfl, hsz, hP, hD0, hK, hN⟩ := hv
  have hx := B.exec
  have hb := B.bytes
  have hr := B.returns
  have hts := atoms_spec (ws := .code yX9_forget cX9_forget 2 (some .int) :: GW) B.pre
  have hg : ∀ w ∈ GW, w.before _ s = true := fun w h => hts w (List.mem_cons_of_mem _ h)
  have hown : s.vm.findClass RX9 = some m.cls := findClass_of_methodNamed B.named
  have hlocks := B.notSynchronized
  subst hsz
  have hD := hD0.self (sz := s.heap.size)
  generalize hAe : va_A (wd_X9_forget cs a_t a_t_text a_t_opinions a_t_lines a_t_draftBook a_t_scribes a_t_turn a_t_bent a_t_need a_t_now a_t_isKept a_t_far a_t_marginOf a_t_marginSays v_t_trace v_t_typed v_t_needTold v_t_at v_t_start v_t_sort v_t_value v_t_fault v_t_target v_t_went v_t_ender v_t_had v_t_margins) s.heap.size = A at hD ⊢
  have hA : ∀ q : Nat, s.heap.size ≤ q → A q := fun q h => by rw [← hAe]; exact Or.inr h
  have hS : va_S A s.heap s.heap [] := va_S.rf
  have hl := lv_entry ([.ref a_t]) (n := 2) (Nat.le_of_ble_eq_true rfl)
  rw [lg_entry_eq]
  generalize (lg_sl ([.ref a_t]) ++ List.replicate (2 - (lg_sl ([.ref a_t])).length) Slot.unset).toArray = ls at hl ⊢
  have hl : lv_has ls 2 [(0, .ref a_t)] := hl
  obtain ⟨y, hB, hK0⟩ : ∃ y, f_X9_forget v_t_margins = some y ∧ KEnd R0 y := ⟨R0, hB, rfl⟩
  have hKT := hK
  have hK := hK0
  obtain ⟨H, hHe⟩ : ∃ H, H = s.heap := ⟨_, rfl⟩
  obtain ⟨locs, hLe⟩ : ∃ L : List Loc, L = [] := ⟨_, rfl⟩
  rw [← hHe] at hP
  have hS : va_S A s.heap H locs := by rw [hHe, hLe]; exact hS
  show W p l e rm_X9_forget s m ([.ref a_t] : List Value).toArray below meth c s.heap [] 0 0 _ _
  suffices hgo : W p l e rm_X9_forget s m ([.ref a_t] : List Value).toArray below meth c H locs 0 0 (MQ below (QcI G A (wd_X9_forget cs a_t a_t_text a_t_opinions a_t_lines a_t_draftBook a_t_scribes a_t_turn a_t_bent a_t_need a_t_now a_t_isKept a_t_far a_t_marginOf a_t_marginSays v_t_trace v_t_typed v_t_needTold v_t_at v_t_start v_t_sort v_t_value v_t_fault v_t_target v_t_went v_t_ender v_t_had R0.2) R0.1) ([.ref a_t] : List Value).toArray s 0 0 A) (F0 m 0 ls []) by rw [hHe, hLe] at hgo; exact hgo
  refine lv_aload_n hx hb dX9_forget_0 rfl (lv_at hl 0 rfl) ?_
  refine va_get (D := G) (ci := 9) (v := .int v_t_margins) (C := RX9) (T := TX9) (N := 26) hx hb hg inX9 hown hKT hP 0 rfl rfl 25 (by decide) (hg _ gF_X9_102) (fun _ h9 => h9) rfl dX9_forget_1 ?_
  refine lv_istore_n (lv' := [(1, .int v_t_margins), (0, .ref a_t)]) hx hb dX9_forget_4 rfl hl (by decide) rfl (fun ls hl => ?_)
  refine lv_aload_n hx hb dX9_forget_5 rfl (lv_at hl 1 rfl) ?_
  refine lv_iconst (v := 0) hx hb dX9_forget_6 (by decide) ?_
  refine va_put (D := G) (ci := 9) (v := .int (0 : Int32)) (ty := .int) (C := RX9) (T := TX9) (N := 26) hx hb hg inX9 tyX9 tyX9_ok nmX9 hown hKT hP hD hS 0 rfl rfl 25 (by decide) (hg _ gF_X9_102) (fun _ h9 => h9) rfl (by decide +kernel) rfl rfl (Nat.le_of_ble_eq_true rfl) dX9_forget_7 (fun H locs hP hD hS => ?_)
  have hP : va_P G vwCl (wd_X9_forget cs a_t a_t_text a_t_opinions a_t_lines a_t_draftBook a_t_scribes a_t_turn a_t_bent a_t_need a_t_now a_t_isKept a_t_far a_t_marginOf a_t_marginSays v_t_trace v_t_typed v_t_needTold v_t_at v_t_start v_t_sort v_t_value v_t_fault v_t_target v_t_went v_t_ender v_t_had (0 : Int32)) H := hP
  have hD : va_D A (wd_X9_forget cs a_t a_t_text a_t_opinions a_t_lines a_t_draftBook a_t_scribes a_t_turn a_t_bent a_t_need a_t_now a_t_isKept a_t_far a_t_marginOf a_t_marginSays v_t_trace v_t_typed v_t_needTold v_t_at v_t_start v_t_sort v_t_value v_t_fault v_t_target v_t_went v_t_ender v_t_had (0 : Int32)) := hD
  refine lv_iload_n hx hb dX9_forget_10 rfl (lv_at hl 0 rfl) ?_
  have hK := leafK hB hK
  have hK : (v_t_margins, (0 : Int32)) = R0 := hK
  subst hK
  exact W.iret (v := v_t_margins) hx hb hr (fun t ht hW => ⟨⟨_, (), rfl, rfl, by rw [ht]; exact hP, hD⟩, hS.F ht⟩) hS.2.2 dX9_forget_11
def wd_X9_fit (cs : Nat → ClassId) (a_t a_t_text a_t_opinions a_t_lines a_t_draftBook a_t_scribes a_t_turn a_t_bent a_t_need a_t_now a_t_isKept a_t_far a_t_marginOf a_t_marginSays : Nat) (v_t_trace : Int64) (v_t_typed : Int32) (v_t_needTold : Int32) (v_t_at : Int32) (v_t_start : Int32) (v_t_sort : Int32) (v_t_value : Int32) (v_t_fault : Int32) (v_t_target : Int32) (v_t_went : Int32) (v_t_ender : Int32) (v_t_had : Int32) (v_t_margins : Int32) (g_t_opinions : Nat → Int32) (g_t_marginOf : Nat → Int32) (g_t_marginSays : Nat → Int32) : va_W := [(a_t, .inr (9, [.long v_t_trace, .ref a_t_text, .int v_t_typed, .ref a_t_opinions, .ref a_t_lines, .ref a_t_draftBook, .ref a_t_scribes, .ref a_t_turn, .ref a_t_bent, .ref a_t_need, .int v_t_needTold, .int v_t_at, .int v_t_start, .int v_t_sort, .int v_t_value, .int v_t_fault, .ref a_t_now, .ref a_t_isKept, .int v_t_target, .int v_t_went, .int v_t_ender, .int v_t_had, .ref a_t_far, .ref a_t_marginOf, .ref a_t_marginSays, .int v_t_margins])), (a_t_opinions, .inl (cs 0, 2, .inl g_t_opinions)), (a_t_marginOf, .inl (cs 0, 6, .inl g_t_marginOf)), (a_t_marginSays, .inl (cs 0, 6, .inl g_t_marginSays))]
def rm_X9_fit : Room := { frames := 1, cells := 0, slots := 0, locals := 24 }
theorem mI_X9_fit : MI yX9_fit RX9 cX9_fit 10 (some .int) 1 := ⟨gI_X9_fit, gE_X9_fit, gN_X9, gC_X9_fit, by decide +kernel⟩
set_option maxHeartbeats 4000000 in
set_option maxRecDepth 100000 in
theorem k_X9_fit (l : Launch) (G : va_G) (cs : Nat → ClassId) (a_t a_t_text a_t_opinions a_t_lines a_t_draftBook a_t_scribes a_t_turn a_t_bent a_t_need a_t_now a_t_isKept a_t_far a_t_marginOf a_t_marginSays : Nat) (v_t_trace : Int64) (v_t_typed : Int32) (v_t_needTold : Int32) (v_t_at : Int32) (v_t_start : Int32) (v_t_sort : Int32) (v_t_value : Int32) (v_t_fault : Int32) (v_t_target : Int32) (v_t_went : Int32) (v_t_ender : Int32) (v_t_had : Int32) (v_t_margins : Int32) (g_t_opinions : Nat → Int32) (g_t_marginOf : Nat → Int32) (g_t_marginSays : Nat → Int32) (p1 : Int32) (R0 : Int32) (hB : f_X9_fit v_t_margins g_t_opinions g_t_marginOf g_t_marginSays p1 = some R0) : Met l yX9_fit (.code yX9_fit cX9_fit 10 (some .int) :: GW) rm_X9_fit (PcR G cs [.ref a_t, .int p1] (wd_X9_fit cs a_t a_t_text a_t_opinions a_t_lines a_t_draftBook a_t_scribes a_t_turn a_t_bent a_t_need a_t_now a_t_isKept a_t_far a_t_marginOf a_t_marginSays v_t_trace v_t_typed v_t_needTold v_t_at v_t_start v_t_sort v_t_value v_t_fault v_t_target v_t_went v_t_ender v_t_had v_t_margins g_t_opinions g_t_marginOf g_t_marginSays)) (vp_Si (fun r => r = R0)) 0 0 (fun _ => False) := by
  refine Met.ofW (cc := cX9_fit) (maxL := 10) (ret := (some .int)) (by decide) rfl ?_
  intro p e s m args below meth c s₁ B hml hv
  obtain ⟨rfl, hP, hK, hN⟩ := hv
  have hx := B.exec
  have hb := B.bytes
  have hr := B.returns
  have hts := atoms_spec (ws := .code yX9_fit cX9_fit 10 (some .int) :: GW) B.pre
  have hg : ∀ w ∈ GW, w.before _ s = true := fun w h => hts w (List.mem_cons_of_mem _ h)
  have hown : s.vm.findClass RX9 = some m.cls := findClass_of_methodNamed B.named
  have hlocks := B.notSynchronized
  have hl := lv_entry ([.ref a_t, .int p1]) (n := 10) (Nat.le_of_ble_eq_true rfl)
  rw [lg_entry_eq]
  generalize (lg_sl ([.ref a_t, .int p1]) ++ List.replicate (10 - (lg_sl ([.ref a_t, .int p1])).length) Slot.unset).toArray = ls at hl ⊢
  have hl : lv_has ls 10 [(0, .ref a_t), (1, .int p1)] := hl
  obtain ⟨y, hB, hK0⟩ : ∃ y, f_X9_fit v_t_margins g_t_opinions g_t_marginOf g_t_marginSays p1 = some y ∧ KEnd R0 y := ⟨R0, hB, rfl⟩
  have hKT := hK
  have hK := hK0
  show W p l e rm_X9_fit s m ([.ref a_t, .int p1] : List Value).toArray below meth c s.heap [] 0 0 (MQ below (vp_Si (fun r => r = R0)) ([.ref a_t, .int p1] : List Value).toArray s 0 0 (fun _ => False)) (F0 m 0 ls [])
  refine lv_iload_n hx hb dX9_fit_0 rfl (lv_at hl 1 rfl) ?_
  refine lv_iconst (v := 0) hx hb dX9_fit_1 (by decide) ?_
  refine lv_iconst (v := 2) hx hb dX9_fit_2 (by decide) ?_
  obtain ⟨q1, hq1, hB⟩ := bnd hB
  refine kr_S (WC := wd_X9_in cs ) (As := [.int p1, .int (0 : Int32), .int (2 : Int32)]) (rest := []) (r0 := q1) ⟨hx, hb, hml, hown, hg⟩ (k_X9_in l G cs p1 (0 : Int32) (2 : Int32) q1 hq1) gM_X9_57 mS_X9_in (rmk rfl) hP hKT hN [] rfl rfl hl.1 rfl (Nat.le_of_ble_eq_true rfl) dX9_fit_3 ?_
  refine lv_if_ne (tgt := 11) hx hb dX9_fit_6 (by decide) (fun c_2 => ?_) (fun c_2 => ?_)
  · have hB := ifN c_2 hB
    refine lv_aload_n hx hb dX9_fit_11 rfl (lv_at hl 0 rfl) ?_
    refine va_get (D := G) (ci := 9) (v := .ref a_t_opinions) (C := RX9) (T := TX9) (N := 26) hx hb hg inX9 hown hKT hP 0 rfl rfl 3 (by decide) (hg _ gF_X9_13) (fun _ h9 => h9) rfl dX9_fit_12 ?_
    refine lv_iconst (v := 0) hx hb dX9_fit_15 (by decide) ?_
    refine va_iald hx hb hKT hP 1 0 rfl rfl (vinC (by decide)) dX9_fit_16 ?_
    refine lv_istore_n (lv' := [(2, .int (g_t_opinions (0 : Int32).toNatClampNeg)), (0, .ref a_t), (1, .int p1)]) hx hb dX9_fit_17 rfl hl (by decide) rfl (fun ls hl => ?_)
    refine lv_iconst (v := 0) hx hb dX9_fit_18 (by decide) ?_
    refine lv_istore_n (lv' := [(3, .int (0 : Int32)), (2, .int (g_t_opinions (0 : Int32).toNatClampNeg)), (0, .ref a_t), (1, .int p1)]) hx hb dX9_fit_19 rfl hl (by decide) rfl (fun ls hl => ?_)
    refine lv_bipush (v := -9) hx hb dX9_fit_20 (by decide) ?_
    refine lv_istore (lv' := [(4, .int (-9 : Int32)), (3, .int (0 : Int32)), (2, .int (g_t_opinions (0 : Int32).toNatClampNeg)), (0, .ref a_t), (1, .int p1)]) hx hb dX9_fit_22 hl (by decide) rfl (fun ls hl => ?_)
    refine lv_bipush (v := -9) hx hb dX9_fit_24 (by decide) ?_
    refine lv_istore (lv' := [(5, .int (-9 : Int32)), (4, .int (-9 : Int32)), (3, .int (0 : Int32)), (2, .int (g_t_opinions (0 : Int32).toNatClampNeg)), (0, .ref a_t), (1, .int p1)]) hx hb dX9_fit_26 hl (by decide) rfl (fun ls hl => ?_)
    refine lv_iconst (v := 0) hx hb dX9_fit_28 (by decide) ?_
    refine lv_istore (lv' := [(6, .int (0 : Int32)), (5, .int (-9 : Int32)), (4, .int (-9 : Int32)), (3, .int (0 : Int32)), (2, .int (g_t_opinions (0 : Int32).toNatClampNeg)), (0, .ref a_t), (1, .int p1)]) hx hb dX9_fit_29 hl (by decide) rfl (fun ls hl => ?_)
    refine lv_iload_n hx hb dX9_fit_31 rfl (lv_at hl 4 rfl) ?_
    refine lv_iconst (v := 1) hx hb dX9_fit_32 (by decide) ?_
    refine lv_isub hx hb dX9_fit_33 ?_
    refine lv_istore (lv' := [(7, .int ((g_t_opinions (0 : Int32).toNatClampNeg) - (1 : Int32))), (6, .int (0 : Int32)), (5, .int (-9 : Int32)), (4, .int (-9 : Int32)), (3, .int (0 : Int32)), (2, .int (g_t_opinions (0 : Int32).toNatClampNeg)), (0, .ref a_t), (1, .int p1)]) hx hb dX9_fit_34 hl (by decide) rfl (fun ls hl => ?_)
    refine lp_ind (Wh := fun (z3 : Int32 × Int32 × Int32 × Int32 × Int32) => ∀ (ls : Array Slot), lv_has ls 10 [(0, .ref a_t), (1, .int p1), (2, .int (g_t_opinions (0 : Int32).toNatClampNeg)), (3, .int z3.1), (4, .int z3.2.1), (5, .int z3.2.2.1), (6, .int z3.2.2.2.1), (7, .int z3.2.2.2.2)] → W p l e rm_X9_fit s m ([.ref a_t, .int p1] : List Value).toArray below meth c s.heap [] 0 0 (MQ below (vp_Si (fun r => r = R0)) ([.ref a_t, .int p1] : List Value).toArray s 0 0 (fun _ => False)) (F0 m 36 ls [])) ?_ FU _ _ hB hK ls (lv_sub hl [6, 7, 5, 4, 3, 2, 1, 0] rfl)
    rintro ⟨z3_0, z3_1, z3_2, z3_3, z3_4⟩ y hB hK ls hl
    have hl : lv_has ls 10 [(0, .ref a_t), (1, .int p1), (2, .int (g_t_opinions (0 : Int32).toNatClampNeg)), (3, .int z3_0), (4, .int z3_1), (5, .int z3_2), (6, .int z3_3), (7, .int z3_4)] := hl
    refine lv_iload hx hb dX9_fit_36 (lv_at hl 7 rfl) ?_
    refine lv_if_lt (tgt := 148) hx hb dX9_fit_38 (by decide) (fun c_4 => ?_) (fun c_4 => ?_)
    · have hB := ifP c_4 hB
      refine lv_iload_n hx hb dX9_fit_148 rfl (lv_at hl 1 rfl) ?_
      refine lv_if_ne (tgt := 156) hx hb dX9_fit_149 (by decide) (fun c_5 => ?_) (fun c_5 => ?_)
      · have hB := ifN c_5 hB
        refine lv_iload_n hx hb dX9_fit_156 rfl (lv_at hl 1 rfl) ?_
        refine lv_iconst (v := 1) hx hb dX9_fit_157 (by decide) ?_
        refine lv_icmp_ne (tgt := 166) hx hb dX9_fit_158 (by decide) (fun c_6 => ?_) (fun c_6 => ?_)
        · have hB := ifN c_6 hB
          refine lv_iload hx hb dX9_fit_166 (lv_at hl 5 rfl) ?_
          have hK := leafK hB hK
          have hK := elimR hK
          have hK : z3_2 = R0 := hK
          subst hK
          exact W.iret (v := z3_2) hx hb hr (fun t ht hW => ⟨_, rfl, rfl, ht⟩) (fun _ h => by cases h) dX9_fit_168
        · have hB := ifP c_6 hB
          refine lv_iload hx hb dX9_fit_161 (lv_at hl 4 rfl) ?_
          refine lv_goto (tgt := 168) hx hb dX9_fit_163 (by decide) ?_
          have hK := leafK hB hK
          have hK := elimR hK
          have hK : z3_1 = R0 := hK
          subst hK
          exact W.iret (v := z3_1) hx hb hr (fun t ht hW => ⟨_, rfl, rfl, ht⟩) (fun _ h => by cases h) dX9_fit_168
      · have hB := ifP c_5 hB
        refine lv_iload_n hx hb dX9_fit_152 rfl (lv_at hl 3 rfl) ?_
        refine lv_goto (tgt := 168) hx hb dX9_fit_153 (by decide) ?_
        have hK := leafK hB hK
        have hK := elimR hK
        have hK : z3_0 = R0 := hK
        subst hK
        exact W.iret (v := z3_0) hx hb hr (fun t ht hW => ⟨_, rfl, rfl, ht⟩) (fun _ h => by cases h) dX9_fit_168
    · have hB := ifN c_4 hB
      refine lv_iconst (v := 0) hx hb dX9_fit_41 (by decide) ?_
      refine lv_istore (lv' := [(8, .int (0 : Int32)), (0, .ref a_t), (1, .int p1), (2, .int (g_t_opinions (0 : Int32).toNatClampNeg)), (3, .int z3_0), (4, .int z3_1), (5, .int z3_2), (6, .int z3_3), (7, .int z3_4)]) hx hb dX9_fit_42 hl (by decide) rfl (fun ls hl => ?_)
      refine lv_iconst (v := 0) hx hb dX9_fit_44 (by decide) ?_
      refine lv_istore_n (lv' := [(3, .int (0 : Int32)), (8, .int (0 : Int32)), (0, .ref a_t), (1, .int p1), (2, .int (g_t_opinions (0 : Int32).toNatClampNeg)), (4, .int z3_1), (5, .int z3_2), (6, .int z3_3), (7, .int z3_4)]) hx hb dX9_fit_45 rfl hl (by decide) rfl (fun ls hl => ?_)
      refine lv_iload_n hx hb dX9_fit_46 rfl (lv_at hl 4 rfl) ?_
      refine lv_iload_n hx hb dX9_fit_47 rfl (lv_at hl 4 rfl) ?_
      refine lv_imul hx hb dX9_fit_48 ?_
      refine lv_iconst (v := 1) hx hb dX9_fit_49 (by decide) ?_
      refine lv_isub hx hb dX9_fit_50 ?_
      refine lv_istore (lv' := [(9, .int (((g_t_opinions (0 : Int32).toNatClampNeg) * (g_t_opinions (0 : Int32).toNatClampNeg)) - (1 : Int32))), (3, .int (0 : Int32)), (8, .int (0 : Int32)), (0, .ref a_t), (1, .int p1), (2, .int (g_t_opinions (0 : Int32).toNatClampNeg)), (4, .int z3_1), (5, .int z3_2), (6, .int z3_3), (7, .int z3_4)]) hx hb dX9_fit_51 hl (by decide) rfl (fun ls hl => ?_)
      refine lp_ind (Wh := fun (z7 : Int32 × Int32 × Int32 × Int32) => ∀ (ls : Array Slot), lv_has ls 10 [(0, .ref a_t), (1, .int p1), (2, .int (g_t_opinions (0 : Int32).toNatClampNeg)), (3, .int z7.1), (4, .int z7.2.1), (5, .int z3_2), (6, .int z3_3), (7, .int z3_4), (8, .int z7.2.2.1), (9, .int z7.2.2.2)] → W p l e rm_X9_fit s m ([.ref a_t, .int p1] : List Value).toArray below meth c s.heap [] 0 0 (MQ below (vp_Si (fun r => r = R0)) ([.ref a_t, .int p1] : List Value).toArray s 0 0 (fun _ => False)) (F0 m 53 ls [])) ?_ FU _ _ hB hK ls (lv_sub hl [3, 4, 5, 1, 6, 7, 8, 9, 2, 0] rfl)
      rintro ⟨z7_0, z7_1, z7_2, z7_3⟩ y hB hK ls hl
      have hl : lv_has ls 10 [(0, .ref a_t), (1, .int p1), (2, .int (g_t_opinions (0 : Int32).toNatClampNeg)), (3, .int z7_0), (4, .int z7_1), (5, .int z3_2), (6, .int z3_3), (7, .int z3_4), (8, .int z7_2), (9, .int z7_3)] := hl
      refine lv_iload hx hb dX9_fit_53 (lv_at hl 9 rfl) ?_
      refine lv_if_lt (tgt := 117) hx hb dX9_fit_55 (by decide) (fun c_8 => ?_) (fun c_8 => ?_)
      · have hB := ifP c_8 hB
        refine lv_iload_n hx hb dX9_fit_117 rfl (lv_at hl 3 rfl) ?_
        refine lv_if_le (tgt := 142) hx hb dX9_fit_118 (by decide) (fun c_9 => ?_) (fun c_9 => ?_)
        · have hB := ifP c_9 hB
          refine lv_iinc (v := z3_4 + (-1 : Int32)) (lv' := [(7, .int (z3_4 + (-1 : Int32))), (0, .ref a_t), (1, .int p1), (2, .int (g_t_opinions (0 : Int32).toNatClampNeg)), (3, .int z7_0), (4, .int z7_1), (5, .int z3_2), (6, .int z3_3), (8, .int z7_2), (9, .int z7_3)]) hx hb dX9_fit_142 hl (k := 7) rfl (inc_ok (by decide)) (by decide) rfl (fun ls hl => ?_)
          refine lv_goto (tgt := 36) hx hb dX9_fit_145 (by decide) ?_
          have hK := leafK hB hK
          have hK := elimR hK
          have hK := elimL hK
          exact hK ls (lv_sub hl [1, 2, 3, 4, 5, 6, 7, 0] rfl)
        · have hB := ifN c_9 hB
          refine lv_iload hx hb dX9_fit_121 (lv_at hl 8 rfl) ?_
          obtain ⟨q10, hq10, hB⟩ := bnd hB
          refine kr_S (WC := wd_X9_manyOf cs ) (As := [.int z7_2]) (rest := []) (r0 := q10) ⟨hx, hb, hml, hown, hg⟩ (k_X9_manyOf l G cs z7_2 q10 hq10) gM_X9_122 mS_X9_manyOf (rmk rfl) hP hKT hN [] rfl rfl hl.1 rfl (Nat.le_of_ble_eq_true rfl) dX9_fit_123 ?_
          refine lv_iload hx hb dX9_fit_126 (lv_at hl 6 rfl) ?_
          refine lv_icmp_lt (tgt := 142) hx hb dX9_fit_128 (by decide) (fun c_11 => ?_) (fun c_11 => ?_)
          · have hB := ifP c_11 hB
            refine lv_iinc (v := z3_4 + (-1 : Int32)) (lv' := [(7, .int (z3_4 + (-1 : Int32))), (0, .ref a_t), (1, .int p1), (2, .int (g_t_opinions (0 : Int32).toNatClampNeg)), (3, .int z7_0), (4, .int z7_1), (5, .int z3_2), (6, .int z3_3), (8, .int z7_2), (9, .int z7_3)]) hx hb dX9_fit_142 hl (k := 7) rfl (inc_ok (by decide)) (by decide) rfl (fun ls hl => ?_)
            refine lv_goto (tgt := 36) hx hb dX9_fit_145 (by decide) ?_
            have hK := leafK hB hK
            have hK := elimR hK
            have hK := elimL hK
            exact hK ls (lv_sub hl [1, 2, 3, 4, 5, 6, 7, 0] rfl)
          · have hB := ifN c_11 hB
            refine lv_iload hx hb dX9_fit_131 (lv_at hl 7 rfl) ?_
            refine lv_istore (lv' := [(5, .int z3_4), (0, .ref a_t), (1, .int p1), (2, .int (g_t_opinions (0 : Int32).toNatClampNeg)), (3, .int z7_0), (4, .int z7_1), (6, .int z3_3), (7, .int z3_4), (8, .int z7_2), (9, .int z7_3)]) hx hb dX9_fit_133 hl (by decide) rfl (fun ls hl => ?_)
            refine lv_iload hx hb dX9_fit_135 (lv_at hl 8 rfl) ?_
            obtain ⟨q12, hq12, hB⟩ := bnd hB
            refine kr_S (WC := wd_X9_manyOf cs ) (As := [.int z7_2]) (rest := []) (r0 := q12) ⟨hx, hb, hml, hown, hg⟩ (k_X9_manyOf l G cs z7_2 q12 hq12) gM_X9_122 mS_X9_manyOf (rmk rfl) hP hKT hN [] rfl rfl hl.1 rfl (Nat.le_of_ble_eq_true rfl) dX9_fit_137 ?_
            refine lv_istore (lv' := [(6, .int q12), (5, .int z3_4), (0, .ref a_t), (1, .int p1), (2, .int (g_t_opinions (0 : Int32).toNatClampNeg)), (3, .int z7_0), (4, .int z7_1), (7, .int z3_4), (8, .int z7_2), (9, .int z7_3)]) hx hb dX9_fit_140 hl (by decide) rfl (fun ls hl => ?_)
            refine lv_iinc (v := z3_4 + (-1 : Int32)) (lv' := [(7, .int (z3_4 + (-1 : Int32))), (6, .int q12), (5, .int z3_4), (0, .ref a_t), (1, .int p1), (2, .int (g_t_opinions (0 : Int32).toNatClampNeg)), (3, .int z7_0), (4, .int z7_1), (8, .int z7_2), (9, .int z7_3)]) hx hb dX9_fit_142 hl (k := 7) rfl (inc_ok (by decide)) (by decide) rfl (fun ls hl => ?_)
            refine lv_goto (tgt := 36) hx hb dX9_fit_145 (by decide) ?_
            have hK := leafK hB hK
            have hK := elimR hK
            have hK := elimL hK
            exact hK ls (lv_sub hl [3, 4, 5, 6, 7, 2, 1, 0] rfl)
      · have hB := ifN c_8 hB
        refine lv_aload_n hx hb dX9_fit_58 rfl (lv_at hl 0 rfl) ?_
        refine lv_iload hx hb dX9_fit_59 (lv_at hl 9 rfl) ?_
        refine lv_iload_n hx hb dX9_fit_61 rfl (lv_at hl 2 rfl) ?_
        obtain ⟨h_13, hB⟩ := ifS hB
        refine lv_idiv hx hb dX9_fit_62 h_13 ?_
        refine lv_iload hx hb dX9_fit_63 (lv_at hl 9 rfl) ?_
        refine lv_iload_n hx hb dX9_fit_65 rfl (lv_at hl 2 rfl) ?_
        obtain ⟨h_14, hB⟩ := ifS hB
        refine lj_irem hx hb dX9_fit_66 h_14 ?_
        obtain ⟨q15, hq15, hB⟩ := bnd hB
        refine kr_V (WC := wd_X9_isSo cs a_t a_t_text a_t_opinions a_t_lines a_t_draftBook a_t_scribes a_t_turn a_t_bent a_t_need a_t_now a_t_isKept a_t_far a_t_marginOf a_t_marginSays v_t_trace v_t_typed v_t_needTold v_t_at v_t_start v_t_sort v_t_value v_t_fault v_t_target v_t_went v_t_ender v_t_had v_t_margins g_t_opinions g_t_marginOf g_t_marginSays) (As := [.int (z7_3 / (g_t_opinions (0 : Int32).toNatClampNeg)), .int (jrem z7_3 (g_t_opinions (0 : Int32).toNatClampNeg))]) (rest := []) (r0 := q15) ⟨hx, hb, hml, hown, hg⟩ (k_X9_isSo l G cs a_t a_t_text a_t_opinions a_t_lines a_t_draftBook a_t_scribes a_t_turn a_t_bent a_t_need a_t_now a_t_isKept a_t_far a_t_marginOf a_t_marginSays v_t_trace v_t_typed v_t_needTold v_t_at v_t_start v_t_sort v_t_value v_t_fault v_t_target v_t_went v_t_ender v_t_had v_t_margins g_t_opinions g_t_marginOf g_t_marginSays (z7_3 / (g_t_opinions (0 : Int32).toNatClampNeg)) (jrem z7_3 (g_t_opinions (0 : Int32).toNatClampNeg)) q15 hq15) gM_X9_164 mI_X9_isSo (rmk rfl) hP hKT hN 0 rfl rfl [0, 1, 2, 3] rfl rfl hl.1 rfl (Nat.le_of_ble_eq_true rfl) dX9_fit_67 ?_
        refine lv_if_eq (tgt := 111) hx hb dX9_fit_70 (by decide) (fun c_16 => ?_) (fun c_16 => ?_)
        · have hB := ifP c_16 hB
          refine lv_iinc (v := z7_3 + (-1 : Int32)) (lv' := [(9, .int (z7_3 + (-1 : Int32))), (0, .ref a_t), (1, .int p1), (2, .int (g_t_opinions (0 : Int32).toNatClampNeg)), (3, .int z7_0), (4, .int z7_1), (5, .int z3_2), (6, .int z3_3), (7, .int z3_4), (8, .int z7_2)]) hx hb dX9_fit_111 hl (k := 9) rfl (inc_ok (by decide)) (by decide) rfl (fun ls hl => ?_)
          refine lv_goto (tgt := 53) hx hb dX9_fit_114 (by decide) ?_
          have hK := leafK hB hK
          have hK := elimL hK
          exact hK ls (lv_sub hl [1, 2, 3, 4, 5, 6, 7, 8, 9, 0] rfl)
        · have hB := ifN c_16 hB
          refine lv_iload hx hb dX9_fit_73 (lv_at hl 8 rfl) ?_
          refine lv_iconst (v := 1) hx hb dX9_fit_75 (by decide) ?_
          refine lv_iload hx hb dX9_fit_76 (lv_at hl 9 rfl) ?_
          refine lv_iload_n hx hb dX9_fit_78 rfl (lv_at hl 2 rfl) ?_
          obtain ⟨h_17, hB⟩ := ifS hB
          refine lv_idiv hx hb dX9_fit_79 h_17 ?_
          refine lv_iload hx hb dX9_fit_80 (lv_at hl 7 rfl) ?_
          refine lv_imul hx hb dX9_fit_82 ?_
          refine lv_iload hx hb dX9_fit_83 (lv_at hl 9 rfl) ?_
          refine lv_iload_n hx hb dX9_fit_85 rfl (lv_at hl 2 rfl) ?_
          obtain ⟨h_18, hB⟩ := ifS hB
          refine lj_irem hx hb dX9_fit_86 h_18 ?_
          refine lv_iadd hx hb dX9_fit_87 ?_
          refine lv_iload_n hx hb dX9_fit_88 rfl (lv_at hl 2 rfl) ?_
          obtain ⟨h_19, hB⟩ := ifS hB
          refine lj_irem hx hb dX9_fit_89 h_19 ?_
          refine lj_ishl hx hb dX9_fit_90 ?_
          refine lv_ior hx hb dX9_fit_91 ?_
          refine lv_istore (lv' := [(8, .int (z7_2 ||| (jshl (1 : Int32) (jrem (((z7_3 / (g_t_opinions (0 : Int32).toNatClampNeg)) * z3_4) + (jrem z7_3 (g_t_opinions (0 : Int32).toNatClampNeg))) (g_t_opinions (0 : Int32).toNatClampNeg))))), (0, .ref a_t), (1, .int p1), (2, .int (g_t_opinions (0 : Int32).toNatClampNeg)), (3, .int z7_0), (4, .int z7_1), (5, .int z3_2), (6, .int z3_3), (7, .int z3_4), (9, .int z7_3)]) hx hb dX9_fit_92 hl (by decide) rfl (fun ls hl => ?_)
          refine lv_bipush (v := 10) hx hb dX9_fit_94 (by decide) ?_
          refine lv_iload hx hb dX9_fit_96 (lv_at hl 9 rfl) ?_
          refine lv_iload_n hx hb dX9_fit_98 rfl (lv_at hl 3 rfl) ?_
          obtain ⟨h_20, hB⟩ := ifS hB
          refine lv_idiv hx hb dX9_fit_99 h_20 ?_
          refine lv_imul hx hb dX9_fit_100 ?_
          refine lv_iload hx hb dX9_fit_101 (lv_at hl 9 rfl) ?_
          refine lv_iload_n hx hb dX9_fit_103 rfl (lv_at hl 3 rfl) ?_
          obtain ⟨h_21, hB⟩ := ifS hB
          refine lj_irem hx hb dX9_fit_104 h_21 ?_
          refine lv_iadd hx hb dX9_fit_105 ?_
          refine lv_istore (lv' := [(4, .int (((10 : Int32) * (z7_3 / (g_t_opinions (0 : Int32).toNatClampNeg))) + (jrem z7_3 (g_t_opinions (0 : Int32).toNatClampNeg)))), (8, .int (z7_2 ||| (jshl (1 : Int32) (jrem (((z7_3 / (g_t_opinions (0 : Int32).toNatClampNeg)) * z3_4) + (jrem z7_3 (g_t_opinions (0 : Int32).toNatClampNeg))) (g_t_opinions (0 : Int32).toNatClampNeg))))), (0, .ref a_t), (1, .int p1), (2, .int (g_t_opinions (0 : Int32).toNatClampNeg)), (3, .int z7_0), (5, .int z3_2), (6, .int z3_3), (7, .int z3_4), (9, .int z7_3)]) hx hb dX9_fit_106 hl (by decide) rfl (fun ls hl => ?_)
          refine lv_iinc (v := z7_0 + (1 : Int32)) (lv' := [(3, .int (z7_0 + (1 : Int32))), (4, .int (((10 : Int32) * (z7_3 / (g_t_opinions (0 : Int32).toNatClampNeg))) + (jrem z7_3 (g_t_opinions (0 : Int32).toNatClampNeg)))), (8, .int (z7_2 ||| (jshl (1 : Int32) (jrem (((z7_3 / (g_t_opinions (0 : Int32).toNatClampNeg)) * z3_4) + (jrem z7_3 (g_t_opinions (0 : Int32).toNatClampNeg))) (g_t_opinions (0 : Int32).toNatClampNeg))))), (0, .ref a_t), (1, .int p1), (2, .int (g_t_opinions (0 : Int32).toNatClampNeg)), (5, .int z3_2), (6, .int z3_3), (7, .int z3_4), (9, .int z7_3)]) hx hb dX9_fit_108 hl (k := 5) rfl (inc_ok (by decide)) (by decide) rfl (fun ls hl => ?_)
          refine lv_iinc (v := z7_3 + (-1 : Int32)) (lv' := [(9, .int (z7_3 + (-1 : Int32))), (3, .int (z7_0 + (1 : Int32))), (4, .int (((10 : Int32) * (z7_3 / (g_t_opinions (0 : Int32).toNatClampNeg))) + (jrem z7_3 (g_t_opinions (0 : Int32).toNatClampNeg)))), (8, .int (z7_2 ||| (jshl (1 : Int32) (jrem (((z7_3 / (g_t_opinions (0 : Int32).toNatClampNeg)) * z3_4) + (jrem z7_3 (g_t_opinions (0 : Int32).toNatClampNeg))) (g_t_opinions (0 : Int32).toNatClampNeg))))), (0, .ref a_t), (1, .int p1), (2, .int (g_t_opinions (0 : Int32).toNatClampNeg)), (5, .int z3_2), (6, .int z3_3), (7, .int z3_4)]) hx hb dX9_fit_111 hl (k := 9) rfl (inc_ok (by decide)) (by decide) rfl (fun ls hl => ?_)
          refine lv_goto (tgt := 53) hx hb dX9_fit_114 (by decide) ?_
          have hK := leafK hB hK
          have hK := elimL hK
          exact hK ls (lv_sub hl [4, 5, 6, 1, 2, 7, 8, 9, 3, 0] rfl)
  · have hB := ifP c_2 hB
    refine lv_iconst (v := -1) hx hb dX9_fit_9 (by decide) ?_
    have hK := leafK hB hK
    have hK : (-1 : Int32) = R0 := hK
    subst hK
    exact W.iret (v := (-1 : Int32)) hx hb hr (fun t ht hW => ⟨_, rfl, rfl, ht⟩) (fun _ h => by cases h) dX9_fit_10
def wd_X9_mark (cs : Nat → ClassId) (a_t a_t_text a_t_opinions a_t_lines a_t_draftBook a_t_scribes a_t_turn a_t_bent a_t_need a_t_now a_t_isKept a_t_far a_t_marginOf a_t_marginSays : Nat) (v_t_trace : Int64) (v_t_typed : Int32) (v_t_needTold : Int32) (v_t_at : Int32) (v_t_start : Int32) (v_t_sort : Int32) (v_t_value : Int32) (v_t_fault : Int32) (v_t_target : Int32) (v_t_went : Int32) (v_t_ender : Int32) (v_t_had : Int32) (v_t_margins : Int32) (g_t_opinions : Nat → Int32) (g_t_lines : Nat → Int32) (g_t_scribes : Nat → Int32) (g_t_turn : Nat → Int32) (g_t_bent : Nat → Int32) (g_t_now : Nat → Int32) : va_W := [(a_t, .inr (9, [.long v_t_trace, .ref a_t_text, .int v_t_typed, .ref a_t_opinions, .ref a_t_lines, .ref a_t_draftBook, .ref a_t_scribes, .ref a_t_turn, .ref a_t_bent, .ref a_t_need, .int v_t_needTold, .int v_t_at, .int v_t_start, .int v_t_sort, .int v_t_value, .int v_t_fault, .ref a_t_now, .ref a_t_isKept, .int v_t_target, .int v_t_went, .int v_t_ender, .int v_t_had, .ref a_t_far, .ref a_t_marginOf, .ref a_t_marginSays, .int v_t_margins])), (a_t_opinions, .inl (cs 0, 2, .inl g_t_opinions)), (a_t_lines, .inl (cs 0, 2, .inl g_t_lines)), (a_t_scribes, .inl (cs 0, 2, .inl g_t_scribes)), (a_t_turn, .inl (cs 0, 12, .inl g_t_turn)), (a_t_bent, .inl (cs 0, 12, .inl g_t_bent)), (a_t_now, .inl (cs 0, 300, .inl g_t_now))]
def rm_X9_mark : Room := { frames := 2, cells := 0, slots := 0, locals := 48 }
theorem mI_X9_mark : MI yX9_mark RX9 cX9_mark 5 (some .int) 2 := ⟨gI_X9_mark, gE_X9_mark, gN_X9, gC_X9_mark, by decide +kernel⟩
set_option maxHeartbeats 4000000 in
set_option maxRecDepth 100000 in
theorem k_X9_mark (l : Launch) (G : va_G) (cs : Nat → ClassId) (a_t a_t_text a_t_opinions a_t_lines a_t_draftBook a_t_scribes a_t_turn a_t_bent a_t_need a_t_now a_t_isKept a_t_far a_t_marginOf a_t_marginSays : Nat) (v_t_trace : Int64) (v_t_typed : Int32) (v_t_needTold : Int32) (v_t_at : Int32) (v_t_start : Int32) (v_t_sort : Int32) (v_t_value : Int32) (v_t_fault : Int32) (v_t_target : Int32) (v_t_went : Int32) (v_t_ender : Int32) (v_t_had : Int32) (v_t_margins : Int32) (g_t_opinions : Nat → Int32) (g_t_lines : Nat → Int32) (g_t_scribes : Nat → Int32) (g_t_turn : Nat → Int32) (g_t_bent : Nat → Int32) (g_t_now : Nat → Int32) (p1 p2 : Int32) (sz : Nat) (R0 : Int32 × Int64) (hB : f_X9_mark v_t_trace g_t_opinions g_t_lines g_t_scribes g_t_turn g_t_bent g_t_now p1 p2 = some R0) : Met l yX9_mark (.code yX9_mark cX9_mark 5 (some .int) :: GW) rm_X9_mark (PcW G cs [.ref a_t, .int p1, .int p2] (wd_X9_mark cs a_t a_t_text a_t_opinions a_t_lines a_t_draftBook a_t_scribes a_t_turn a_t_bent a_t_need a_t_now a_t_isKept a_t_far a_t_marginOf a_t_marginSays v_t_trace v_t_typed v_t_needTold v_t_at v_t_start v_t_sort v_t_value v_t_fault v_t_target v_t_went v_t_ender v_t_had v_t_margins g_t_opinions g_t_lines g_t_scribes g_t_turn g_t_bent g_t_now) sz) (QcI G (va_A (wd_X9_mark cs a_t a_t_text a_t_opinions a_t_lines a_t_draftBook a_t_scribes a_t_turn a_t_bent a_t_need a_t_now a_t_isKept a_t_far a_t_marginOf a_t_marginSays v_t_trace v_t_typed v_t_needTold v_t_at v_t_start v_t_sort v_t_value v_t_fault v_t_target v_t_went v_t_ender v_t_had v_t_margins g_t_opinions g_t_lines g_t_scribes g_t_turn g_t_bent g_t_now) sz) (wd_X9_mark cs a_t a_t_text a_t_opinions a_t_lines a_t_draftBook a_t_scribes a_t_turn a_t_bent a_t_need a_t_now a_t_isKept a_t_far a_t_marginOf a_t_marginSays R0.2 v_t_typed v_t_needTold v_t_at v_t_start v_t_sort v_t_value v_t_fault v_t_target v_t_went v_t_ender v_t_had v_t_margins g_t_opinions g_t_lines g_t_scribes g_t_turn g_t_bent g_t_now) R0.1) 0 0 (va_A (wd_X9_mark cs a_t a_t_text a_t_opinions a_t_lines a_t_draftBook a_t_scribes a_t_turn a_t_bent a_t_need a_t_now a_t_isKept a_t_far a_t_marginOf a_t_marginSays v_t_trace v_t_typed v_t_needTold v_t_at v_t_start v_t_sort v_t_value v_t_fault v_t_target v_t_went v_t_ender v_t_had v_t_margins g_t_opinions g_t_lines g_t_scribes g_t_turn g_t_bent g_t_now) sz) := by
  refine Met.ofW (cc := cX9_mark) (maxL := 5) (ret := (some .int)) (by decide) rfl ?_
  intro p e s m args below meth c s₁ B hml hv
  obtain ⟨rfl, hsz, hP, hD0, hK, hN⟩ := hv
  have hx := B.exec
  have hb := B.bytes
  have hr := B.returns
  have hts := atoms_spec (ws := .code yX9_mark cX9_mark 5 (some .int) :: GW) B.pre
  have hg : ∀ w ∈ GW, w.before _ s = true := fun w h => hts w (List.mem_cons_of_mem _ h)
  have hown : s.vm.findClass RX9 = some m.cls := findClass_of_methodNamed B.named
  have hlocks := B.notSynchronized
  subst hsz
  have hD := hD0.self (sz := s.heap.size)
  generalize hAe : va_A (wd_X9_mark cs a_t a_t_text a_t_opinions a_t_lines a_t_draftBook a_t_scribes a_t_turn a_t_bent a_t_need a_t_now a_t_isKept a_t_far a_t_marginOf a_t_marginSays v_t_trace v_t_typed v_t_needTold v_t_at v_t_start v_t_sort v_t_value v_t_fault v_t_target v_t_went v_t_ender v_t_had v_t_margins g_t_opinions g_t_lines g_t_scribes g_t_turn g_t_bent g_t_now) s.heap.size = A at hD ⊢
  have hA : ∀ q : Nat, s.heap.size ≤ q → A q := fun q h => by rw [← hAe]; exact Or.inr h
  have hS : va_S A s.heap s.heap [] := va_S.rf
  have hl := lv_entry ([.ref a_t, .int p1, .int p2]) (n := 5) (Nat.le_of_ble_eq_true rfl)
  rw [lg_entry_eq]
  generalize (lg_sl ([.ref a_t, .int p1, .int p2]) ++ List.replicate (5 - (lg_sl ([.ref a_t, .int p1, .int p2])).length) Slot.unset).toArray = ls at hl ⊢
  have hl : lv_has ls 5 [(0, .ref a_t), (1, .int p1), (2, .int p2)] := hl
  obtain ⟨y, hB, hK0⟩ : ∃ y, f_X9_mark v_t_trace g_t_opinions g_t_lines g_t_scribes g_t_turn g_t_bent g_t_now p1 p2 = some y ∧ KEnd R0 y := ⟨R0, hB, rfl⟩
  have hKT := hK
  have hK := hK0
  obtain ⟨H, hHe⟩ : ∃ H, H = s.heap := ⟨_, rfl⟩
  obtain ⟨locs, hLe⟩ : ∃ L : List Loc, L = [] := ⟨_, rfl⟩
  rw [← hHe] at hP
  have hS : va_S A s.heap H locs := by rw [hHe, hLe]; exact hS
  show W p l e rm_X9_mark s m ([.ref a_t, .int p1, .int p2] : List Value).toArray below meth c s.heap [] 0 0 _ _
  suffices hgo : W p l e rm_X9_mark s m ([.ref a_t, .int p1, .int p2] : List Value).toArray below meth c H locs 0 0 (MQ below (QcI G A (wd_X9_mark cs a_t a_t_text a_t_opinions a_t_lines a_t_draftBook a_t_scribes a_t_turn a_t_bent a_t_need a_t_now a_t_isKept a_t_far a_t_marginOf a_t_marginSays R0.2 v_t_typed v_t_needTold v_t_at v_t_start v_t_sort v_t_value v_t_fault v_t_target v_t_went v_t_ender v_t_had v_t_margins g_t_opinions g_t_lines g_t_scribes g_t_turn g_t_bent g_t_now) R0.1) ([.ref a_t, .int p1, .int p2] : List Value).toArray s 0 0 A) (F0 m 0 ls []) by rw [hHe, hLe] at hgo; exact hgo
  refine lv_iload_n hx hb dX9_mark_0 rfl (lv_at hl 1 rfl) ?_
  refine lv_iconst (v := 0) hx hb dX9_mark_1 (by decide) ?_
  refine lv_iconst (v := 5) hx hb dX9_mark_2 (by decide) ?_
  obtain ⟨q1, hq1, hB⟩ := bnd hB
  refine kr_S (WC := wd_X9_in cs ) (As := [.int p1, .int (0 : Int32), .int (5 : Int32)]) (rest := []) (r0 := q1) ⟨hx, hb, hml, hown, hg⟩ (k_X9_in l G cs p1 (0 : Int32) (5 : Int32) q1 hq1) gM_X9_57 mS_X9_in (rmk rfl) hP hKT hN [] rfl rfl hl.1 rfl (Nat.le_of_ble_eq_true rfl) dX9_mark_3 ?_
  refine lv_if_eq (tgt := 17) hx hb dX9_mark_6 (by decide) (fun c_2 => ?_) (fun c_2 => ?_)
  · have hB := ifP c_2 hB
    refine lv_ldc (v := -1000000) hx hb hown (hg _ gK_X9_186) dX9_mark_17 ?_
    have hK := leafK hB hK
    have hK : ((-1000000 : Int32), v_t_trace) = R0 := hK
    subst hK
    exact W.iret (v := (-1000000 : Int32)) hx hb hr (fun t ht hW => ⟨⟨_, (), rfl, rfl, by rw [ht]; exact hP, hD⟩, hS.F ht⟩) hS.2.2 dX9_mark_19
  · have hB := ifN c_2 hB
    refine lv_aload_n hx hb dX9_mark_9 rfl (lv_at hl 0 rfl) ?_
    refine lv_iload_n hx hb dX9_mark_10 rfl (lv_at hl 2 rfl) ?_
    obtain ⟨q3, hq3, hB⟩ := bnd hB
    refine kr_V (WC := wd_X9_isScribe cs a_t a_t_text a_t_opinions a_t_lines a_t_draftBook a_t_scribes a_t_turn a_t_bent a_t_need a_t_now a_t_isKept a_t_far a_t_marginOf a_t_marginSays v_t_trace v_t_typed v_t_needTold v_t_at v_t_start v_t_sort v_t_value v_t_fault v_t_target v_t_went v_t_ender v_t_had v_t_margins g_t_scribes) (As := [.int p2]) (rest := []) (r0 := q3) ⟨hx, hb, hml, hown, hg⟩ (k_X9_isScribe l G cs a_t a_t_text a_t_opinions a_t_lines a_t_draftBook a_t_scribes a_t_turn a_t_bent a_t_need a_t_now a_t_isKept a_t_far a_t_marginOf a_t_marginSays v_t_trace v_t_typed v_t_needTold v_t_at v_t_start v_t_sort v_t_value v_t_fault v_t_target v_t_went v_t_ender v_t_had v_t_margins g_t_scribes p2 q3 hq3) gM_X9_133 mI_X9_isScribe (rmk rfl) hP hKT hN 0 rfl rfl [0, 3] rfl rfl hl.1 rfl (Nat.le_of_ble_eq_true rfl) dX9_mark_11 ?_
    refine lv_if_ne (tgt := 20) hx hb dX9_mark_14 (by decide) (fun c_4 => ?_) (fun c_4 => ?_)
    · have hB := ifN c_4 hB
      refine lv_aload_n hx hb dX9_mark_20 rfl (lv_at hl 0 rfl) ?_
      refine lv_iload_n hx hb dX9_mark_21 rfl (lv_at hl 2 rfl) ?_
      refine lv_aload_n hx hb dX9_mark_22 rfl (lv_at hl 0 rfl) ?_
      refine va_get (D := G) (ci := 9) (v := .ref a_t_now) (C := RX9) (T := TX9) (N := 26) hx hb hg inX9 hown hKT hP 0 rfl rfl 16 (by decide) (hg _ gF_X9_35) (fun _ h9 => h9) rfl dX9_mark_23 ?_
      refine lv_iconst (v := 0) hx hb dX9_mark_26 (by decide) ?_
      refine va_iald hx hb hKT hP 6 0 rfl rfl (vinC (by decide)) dX9_mark_27 ?_
      obtain ⟨q5, hq5, hB⟩ := bnd hB
      refine kr_V (WC := wd_X9_disagrees cs a_t a_t_text a_t_opinions a_t_lines a_t_draftBook a_t_scribes a_t_turn a_t_bent a_t_need a_t_now a_t_isKept a_t_far a_t_marginOf a_t_marginSays v_t_trace v_t_typed v_t_needTold v_t_at v_t_start v_t_sort v_t_value v_t_fault v_t_target v_t_went v_t_ender v_t_had v_t_margins g_t_opinions g_t_lines g_t_turn g_t_bent) (As := [.int p2, .int (g_t_now (0 : Int32).toNatClampNeg)]) (rest := []) (r0 := q5) ⟨hx, hb, hml, hown, hg⟩ (k_X9_disagrees l G cs a_t a_t_text a_t_opinions a_t_lines a_t_draftBook a_t_scribes a_t_turn a_t_bent a_t_need a_t_now a_t_isKept a_t_far a_t_marginOf a_t_marginSays v_t_trace v_t_typed v_t_needTold v_t_at v_t_start v_t_sort v_t_value v_t_fault v_t_target v_t_went v_t_ender v_t_had v_t_margins g_t_opinions g_t_lines g_t_turn g_t_bent p2 (g_t_now (0 : Int32).toNatClampNeg) q5 hq5) gM_X9_119 mI_X9_disagrees (rmk rfl) hP hKT hN 0 rfl rfl [0, 1, 2, 4, 5] rfl rfl hl.1 rfl (Nat.le_of_ble_eq_true rfl) dX9_mark_28 ?_
      obtain ⟨q6, hq6, hB⟩ := bnd hB
      refine kr_S (WC := wd_X9_manyOf cs ) (As := [.int q5]) (rest := []) (r0 := q6) ⟨hx, hb, hml, hown, hg⟩ (k_X9_manyOf l G cs q5 q6 hq6) gM_X9_122 mS_X9_manyOf (rmk rfl) hP hKT hN [] rfl rfl hl.1 rfl (Nat.le_of_ble_eq_true rfl) dX9_mark_31 ?_
      refine lv_istore_n (lv' := [(3, .int q6), (0, .ref a_t), (1, .int p1), (2, .int p2)]) hx hb dX9_mark_34 rfl hl (by decide) rfl (fun ls hl => ?_)
      refine lv_iload_n hx hb dX9_mark_35 rfl (lv_at hl 0 rfl) ?_
      refine lv_aload_n hx hb dX9_mark_36 rfl (lv_at hl 1 rfl) ?_
      refine va_get (D := G) (ci := 9) (v := .ref a_t_now) (C := RX9) (T := TX9) (N := 26) hx hb hg inX9 hown hKT hP 0 rfl rfl 16 (by decide) (hg _ gF_X9_35) (fun _ h9 => h9) rfl dX9_mark_37 ?_
      refine lv_iconst (v := 2) hx hb dX9_mark_40 (by decide) ?_
      refine lv_iload_n hx hb dX9_mark_41 rfl (lv_at hl 3 rfl) ?_
      refine lv_iadd hx hb dX9_mark_42 ?_
      obtain ⟨h_7, hB⟩ := ifS hB
      refine va_iald hx hb hKT hP 6 0 rfl rfl h_7 dX9_mark_43 ?_
      refine lv_isub hx hb dX9_mark_44 ?_
      refine lv_istore (lv' := [(4, .int (q6 - (g_t_now ((2 : Int32) + p2).toNatClampNeg))), (3, .int q6), (0, .ref a_t), (1, .int p1), (2, .int p2)]) hx hb dX9_mark_45 hl (by decide) rfl (fun ls hl => ?_)
      refine lv_iload_n hx hb dX9_mark_47 rfl (lv_at hl 3 rfl) ?_
      by_cases c_11_0 : p1 = 0
      · have hB := ifP c_11_0 hB
        refine lv_tableIn (off := 36) (tgt := 84) hx hb dX9_mark_48 (by rw [c_11_0]; decide) (by rw [c_11_0]; decide) (by rw [c_11_0]; decide) (by decide) ?_
        refine lv_aload_n hx hb dX9_mark_84 rfl (lv_at hl 2 rfl) ?_
        refine lv_dup hx hb dX9_mark_85 rfl ?_
        refine va_get (D := G) (ci := 9) (v := .long v_t_trace) (C := RX9) (T := TX9) (N := 26) hx hb hg inX9 hown hKT hP 0 rfl rfl 0 (by decide) (hg _ gF_X9_187) (fun _ h9 => h9) rfl dX9_mark_86 ?_
        refine lv_lconst (v := 1) hx hb dX9_mark_89 (by decide) ?_
        refine lv_ladd hx hb dX9_mark_90 ?_
        refine va_put (D := G) (ci := 9) (v := .long (v_t_trace + (1 : Int64))) (ty := .long) (C := RX9) (T := TX9) (N := 26) hx hb hg inX9 tyX9 tyX9_ok nmX9 hown hKT hP hD hS 0 rfl rfl 0 (by decide) (hg _ gF_X9_187) (fun _ h9 => h9) rfl (by decide +kernel) rfl rfl (Nat.le_of_ble_eq_true rfl) dX9_mark_91 (fun H locs hP hD hS => ?_)
        have hP : va_P G vwCl (wd_X9_mark cs a_t a_t_text a_t_opinions a_t_lines a_t_draftBook a_t_scribes a_t_turn a_t_bent a_t_need a_t_now a_t_isKept a_t_far a_t_marginOf a_t_marginSays (v_t_trace + (1 : Int64)) v_t_typed v_t_needTold v_t_at v_t_start v_t_sort v_t_value v_t_fault v_t_target v_t_went v_t_ender v_t_had v_t_margins g_t_opinions g_t_lines g_t_scribes g_t_turn g_t_bent g_t_now) H := hP
        have hD : va_D A (wd_X9_mark cs a_t a_t_text a_t_opinions a_t_lines a_t_draftBook a_t_scribes a_t_turn a_t_bent a_t_need a_t_now a_t_isKept a_t_far a_t_marginOf a_t_marginSays (v_t_trace + (1 : Int64)) v_t_typed v_t_needTold v_t_at v_t_start v_t_sort v_t_value v_t_fault v_t_target v_t_went v_t_ender v_t_had v_t_margins g_t_opinions g_t_lines g_t_scribes g_t_turn g_t_bent g_t_now) := hD
        refine lv_iload_n hx hb dX9_mark_94 rfl (lv_at hl 1 rfl) ?_
        have hK := leafK hB hK
        have hK : (q6, v_t_trace + (1 : Int64)) = R0 := hK
        subst hK
        exact W.iret (v := q6) hx hb hr (fun t ht hW => ⟨⟨_, (), rfl, rfl, by rw [ht]; exact hP, hD⟩, hS.F ht⟩) hS.2.2 dX9_mark_95
      have hB := ifN c_11_0 hB
      by_cases c_11_1 : p1 = 1
      · have hB := ifP c_11_1 hB
        refine lv_tableIn (off := 48) (tgt := 96) hx hb dX9_mark_48 (by rw [c_11_1]; decide) (by rw [c_11_1]; decide) (by rw [c_11_1]; decide) (by decide) ?_
        refine lv_aload_n hx hb dX9_mark_96 rfl (lv_at hl 2 rfl) ?_
        refine lv_dup hx hb dX9_mark_97 rfl ?_
        refine va_get (D := G) (ci := 9) (v := .long v_t_trace) (C := RX9) (T := TX9) (N := 26) hx hb hg inX9 hown hKT hP 0 rfl rfl 0 (by decide) (hg _ gF_X9_187) (fun _ h9 => h9) rfl dX9_mark_98 ?_
        refine lv_ldc2 (v := 11) hx hb hown (hg _ gQ_X9_191) dX9_mark_101 ?_
        refine lv_ladd hx hb dX9_mark_104 ?_
        refine va_put (D := G) (ci := 9) (v := .long (v_t_trace + (11 : Int64))) (ty := .long) (C := RX9) (T := TX9) (N := 26) hx hb hg inX9 tyX9 tyX9_ok nmX9 hown hKT hP hD hS 0 rfl rfl 0 (by decide) (hg _ gF_X9_187) (fun _ h9 => h9) rfl (by decide +kernel) rfl rfl (Nat.le_of_ble_eq_true rfl) dX9_mark_105 (fun H locs hP hD hS => ?_)
        have hP : va_P G vwCl (wd_X9_mark cs a_t a_t_text a_t_opinions a_t_lines a_t_draftBook a_t_scribes a_t_turn a_t_bent a_t_need a_t_now a_t_isKept a_t_far a_t_marginOf a_t_marginSays (v_t_trace + (11 : Int64)) v_t_typed v_t_needTold v_t_at v_t_start v_t_sort v_t_value v_t_fault v_t_target v_t_went v_t_ender v_t_had v_t_margins g_t_opinions g_t_lines g_t_scribes g_t_turn g_t_bent g_t_now) H := hP
        have hD : va_D A (wd_X9_mark cs a_t a_t_text a_t_opinions a_t_lines a_t_draftBook a_t_scribes a_t_turn a_t_bent a_t_need a_t_now a_t_isKept a_t_far a_t_marginOf a_t_marginSays (v_t_trace + (11 : Int64)) v_t_typed v_t_needTold v_t_at v_t_start v_t_sort v_t_value v_t_fault v_t_target v_t_went v_t_ender v_t_had v_t_margins g_t_opinions g_t_lines g_t_scribes g_t_turn g_t_bent g_t_now) := hD
        refine lv_iload_n hx hb dX9_mark_108 rfl (lv_at hl 1 rfl) ?_
        refine lv_aload_n hx hb dX9_mark_109 rfl (lv_at hl 2 rfl) ?_
        refine va_get (D := G) (ci := 9) (v := .ref a_t_turn) (C := RX9) (T := TX9) (N := 26) hx hb hg inX9 hown hKT hP 0 rfl rfl 7 (by decide) (hg _ gF_X9_26) (fun _ h9 => h9) rfl dX9_mark_110 ?_
        refine lv_iload_n hx hb dX9_mark_113 rfl (lv_at hl 4 rfl) ?_
        obtain ⟨h_8, hB⟩ := ifS hB
        refine va_iald hx hb hKT hP 4 0 rfl rfl h_8 dX9_mark_114 ?_
        refine lv_iadd hx hb dX9_mark_115 ?_
        have hK := leafK hB hK
        have hK : (q6 + (g_t_turn p2.toNatClampNeg), v_t_trace + (11 : Int64)) = R0 := hK
        subst hK
        exact W.iret (v := q6 + (g_t_turn p2.toNatClampNeg)) hx hb hr (fun t ht hW => ⟨⟨_, (), rfl, rfl, by rw [ht]; exact hP, hD⟩, hS.F ht⟩) hS.2.2 dX9_mark_116
      have hB := ifN c_11_1 hB
      by_cases c_11_2 : p1 = 2
      · have hB := ifP c_11_2 hB
        refine lv_tableIn (off := 69) (tgt := 117) hx hb dX9_mark_48 (by rw [c_11_2]; decide) (by rw [c_11_2]; decide) (by rw [c_11_2]; decide) (by decide) ?_
        refine lv_aload_n hx hb dX9_mark_117 rfl (lv_at hl 2 rfl) ?_
        refine lv_dup hx hb dX9_mark_118 rfl ?_
        refine va_get (D := G) (ci := 9) (v := .long v_t_trace) (C := RX9) (T := TX9) (N := 26) hx hb hg inX9 hown hKT hP 0 rfl rfl 0 (by decide) (hg _ gF_X9_187) (fun _ h9 => h9) rfl dX9_mark_119 ?_
        refine lv_ldc2 (v := 101) hx hb hown (hg _ gQ_X9_193) dX9_mark_122 ?_
        refine lv_ladd hx hb dX9_mark_125 ?_
        refine va_put (D := G) (ci := 9) (v := .long (v_t_trace + (101 : Int64))) (ty := .long) (C := RX9) (T := TX9) (N := 26) hx hb hg inX9 tyX9 tyX9_ok nmX9 hown hKT hP hD hS 0 rfl rfl 0 (by decide) (hg _ gF_X9_187) (fun _ h9 => h9) rfl (by decide +kernel) rfl rfl (Nat.le_of_ble_eq_true rfl) dX9_mark_126 (fun H locs hP hD hS => ?_)
        have hP : va_P G vwCl (wd_X9_mark cs a_t a_t_text a_t_opinions a_t_lines a_t_draftBook a_t_scribes a_t_turn a_t_bent a_t_need a_t_now a_t_isKept a_t_far a_t_marginOf a_t_marginSays (v_t_trace + (101 : Int64)) v_t_typed v_t_needTold v_t_at v_t_start v_t_sort v_t_value v_t_fault v_t_target v_t_went v_t_ender v_t_had v_t_margins g_t_opinions g_t_lines g_t_scribes g_t_turn g_t_bent g_t_now) H := hP
        have hD : va_D A (wd_X9_mark cs a_t a_t_text a_t_opinions a_t_lines a_t_draftBook a_t_scribes a_t_turn a_t_bent a_t_need a_t_now a_t_isKept a_t_far a_t_marginOf a_t_marginSays (v_t_trace + (101 : Int64)) v_t_typed v_t_needTold v_t_at v_t_start v_t_sort v_t_value v_t_fault v_t_target v_t_went v_t_ender v_t_had v_t_margins g_t_opinions g_t_lines g_t_scribes g_t_turn g_t_bent g_t_now) := hD
        refine lv_iload hx hb dX9_mark_129 (lv_at hl 0 rfl) ?_
        have hK := leafK hB hK
        have hK : (q6 - (g_t_now ((2 : Int32) + p2).toNatClampNeg), v_t_trace + (101 : Int64)) = R0 := hK
        subst hK
        exact W.iret (v := q6 - (g_t_now ((2 : Int32) + p2).toNatClampNeg)) hx hb hr (fun t ht hW => ⟨⟨_, (), rfl, rfl, by rw [ht]; exact hP, hD⟩, hS.F ht⟩) hS.2.2 dX9_mark_131
      have hB := ifN c_11_2 hB
      by_cases c_11_3 : p1 = 3
      · have hB := ifP c_11_3 hB
        refine lv_tableIn (off := 84) (tgt := 132) hx hb dX9_mark_48 (by rw [c_11_3]; decide) (by rw [c_11_3]; decide) (by rw [c_11_3]; decide) (by decide) ?_
        refine lv_aload_n hx hb dX9_mark_132 rfl (lv_at hl 2 rfl) ?_
        refine lv_dup hx hb dX9_mark_133 rfl ?_
        refine va_get (D := G) (ci := 9) (v := .long v_t_trace) (C := RX9) (T := TX9) (N := 26) hx hb hg inX9 hown hKT hP 0 rfl rfl 0 (by decide) (hg _ gF_X9_187) (fun _ h9 => h9) rfl dX9_mark_134 ?_
        refine lv_ldc2 (v := 1011) hx hb hown (hg _ gQ_X9_195) dX9_mark_137 ?_
        refine lv_ladd hx hb dX9_mark_140 ?_
        refine va_put (D := G) (ci := 9) (v := .long (v_t_trace + (1011 : Int64))) (ty := .long) (C := RX9) (T := TX9) (N := 26) hx hb hg inX9 tyX9 tyX9_ok nmX9 hown hKT hP hD hS 0 rfl rfl 0 (by decide) (hg _ gF_X9_187) (fun _ h9 => h9) rfl (by decide +kernel) rfl rfl (Nat.le_of_ble_eq_true rfl) dX9_mark_141 (fun H locs hP hD hS => ?_)
        have hP : va_P G vwCl (wd_X9_mark cs a_t a_t_text a_t_opinions a_t_lines a_t_draftBook a_t_scribes a_t_turn a_t_bent a_t_need a_t_now a_t_isKept a_t_far a_t_marginOf a_t_marginSays (v_t_trace + (1011 : Int64)) v_t_typed v_t_needTold v_t_at v_t_start v_t_sort v_t_value v_t_fault v_t_target v_t_went v_t_ender v_t_had v_t_margins g_t_opinions g_t_lines g_t_scribes g_t_turn g_t_bent g_t_now) H := hP
        have hD : va_D A (wd_X9_mark cs a_t a_t_text a_t_opinions a_t_lines a_t_draftBook a_t_scribes a_t_turn a_t_bent a_t_need a_t_now a_t_isKept a_t_far a_t_marginOf a_t_marginSays (v_t_trace + (1011 : Int64)) v_t_typed v_t_needTold v_t_at v_t_start v_t_sort v_t_value v_t_fault v_t_target v_t_went v_t_ender v_t_had v_t_margins g_t_opinions g_t_lines g_t_scribes g_t_turn g_t_bent g_t_now) := hD
        refine lv_iconst (v := 2) hx hb dX9_mark_144 (by decide) ?_
        refine lv_iload_n hx hb dX9_mark_145 rfl (lv_at hl 1 rfl) ?_
        refine lv_aload_n hx hb dX9_mark_146 rfl (lv_at hl 2 rfl) ?_
        refine va_get (D := G) (ci := 9) (v := .ref a_t_turn) (C := RX9) (T := TX9) (N := 26) hx hb hg inX9 hown hKT hP 0 rfl rfl 7 (by decide) (hg _ gF_X9_26) (fun _ h9 => h9) rfl dX9_mark_147 ?_
        refine lv_iload_n hx hb dX9_mark_150 rfl (lv_at hl 4 rfl) ?_
        obtain ⟨h_9, hB⟩ := ifS hB
        refine va_iald hx hb hKT hP 4 0 rfl rfl h_9 dX9_mark_151 ?_
        refine lv_iadd hx hb dX9_mark_152 ?_
        refine lv_imul hx hb dX9_mark_153 ?_
        have hK := leafK hB hK
        have hK : ((2 : Int32) * (q6 + (g_t_turn p2.toNatClampNeg)), v_t_trace + (1011 : Int64)) = R0 := hK
        subst hK
        exact W.iret (v := (2 : Int32) * (q6 + (g_t_turn p2.toNatClampNeg))) hx hb hr (fun t ht hW => ⟨⟨_, (), rfl, rfl, by rw [ht]; exact hP, hD⟩, hS.F ht⟩) hS.2.2 dX9_mark_154
      have hB := ifN c_11_3 hB
      by_cases c_11_4 : p1 = 4
      · have hB := ifP c_11_4 hB
        refine lv_tableIn (off := 107) (tgt := 155) hx hb dX9_mark_48 (by rw [c_11_4]; decide) (by rw [c_11_4]; decide) (by rw [c_11_4]; decide) (by decide) ?_
        refine lv_aload_n hx hb dX9_mark_155 rfl (lv_at hl 2 rfl) ?_
        refine lv_dup hx hb dX9_mark_156 rfl ?_
        refine va_get (D := G) (ci := 9) (v := .long v_t_trace) (C := RX9) (T := TX9) (N := 26) hx hb hg inX9 hown hKT hP 0 rfl rfl 0 (by decide) (hg _ gF_X9_187) (fun _ h9 => h9) rfl dX9_mark_157 ?_
        refine lv_ldc2 (v := 10101) hx hb hown (hg _ gQ_X9_197) dX9_mark_160 ?_
        refine lv_ladd hx hb dX9_mark_163 ?_
        refine va_put (D := G) (ci := 9) (v := .long (v_t_trace + (10101 : Int64))) (ty := .long) (C := RX9) (T := TX9) (N := 26) hx hb hg inX9 tyX9 tyX9_ok nmX9 hown hKT hP hD hS 0 rfl rfl 0 (by decide) (hg _ gF_X9_187) (fun _ h9 => h9) rfl (by decide +kernel) rfl rfl (Nat.le_of_ble_eq_true rfl) dX9_mark_164 (fun H locs hP hD hS => ?_)
        have hP : va_P G vwCl (wd_X9_mark cs a_t a_t_text a_t_opinions a_t_lines a_t_draftBook a_t_scribes a_t_turn a_t_bent a_t_need a_t_now a_t_isKept a_t_far a_t_marginOf a_t_marginSays (v_t_trace + (10101 : Int64)) v_t_typed v_t_needTold v_t_at v_t_start v_t_sort v_t_value v_t_fault v_t_target v_t_went v_t_ender v_t_had v_t_margins g_t_opinions g_t_lines g_t_scribes g_t_turn g_t_bent g_t_now) H := hP
        have hD : va_D A (wd_X9_mark cs a_t a_t_text a_t_opinions a_t_lines a_t_draftBook a_t_scribes a_t_turn a_t_bent a_t_need a_t_now a_t_isKept a_t_far a_t_marginOf a_t_marginSays (v_t_trace + (10101 : Int64)) v_t_typed v_t_needTold v_t_at v_t_start v_t_sort v_t_value v_t_fault v_t_target v_t_went v_t_ender v_t_had v_t_margins g_t_opinions g_t_lines g_t_scribes g_t_turn g_t_bent g_t_now) := hD
        refine lv_iload hx hb dX9_mark_167 (lv_at hl 0 rfl) ?_
        refine lv_aload_n hx hb dX9_mark_169 rfl (lv_at hl 2 rfl) ?_
        refine va_get (D := G) (ci := 9) (v := .ref a_t_bent) (C := RX9) (T := TX9) (N := 26) hx hb hg inX9 hown hKT hP 0 rfl rfl 8 (by decide) (hg _ gF_X9_29) (fun _ h9 => h9) rfl dX9_mark_170 ?_
        refine lv_iload_n hx hb dX9_mark_173 rfl (lv_at hl 4 rfl) ?_
        obtain ⟨h_10, hB⟩ := ifS hB
        refine va_iald hx hb hKT hP 5 0 rfl rfl h_10 dX9_mark_174 ?_
        refine lv_iadd hx hb dX9_mark_175 ?_
        have hK := leafK hB hK
        have hK : ((q6 - (g_t_now ((2 : Int32) + p2).toNatClampNeg)) + (g_t_bent p2.toNatClampNeg), v_t_trace + (10101 : Int64)) = R0 := hK
        subst hK
        exact W.iret (v := (q6 - (g_t_now ((2 : Int32) + p2).toNatClampNeg)) + (g_t_bent p2.toNatClampNeg)) hx hb hr (fun t ht hW => ⟨⟨_, (), rfl, rfl, by rw [ht]; exact hP, hD⟩, hS.F ht⟩) hS.2.2 dX9_mark_176
      have hB := ifN c_11_4 hB
      have c_11_0t := lv_neT (a := 0) c_11_0 rfl
      have c_11_1t := lv_neT (a := 1) c_11_1 rfl
      have c_11_2t := lv_neT (a := 2) c_11_2 rfl
      have c_11_3t := lv_neT (a := 3) c_11_3 rfl
      have c_11_4t := lv_neT (a := 4) c_11_4 rfl
      refine lv_tableOut (tgt := 177) hx hb dX9_mark_48 (by omega) (by decide) ?_
      refine lv_aload_n hx hb dX9_mark_177 rfl (lv_at hl 2 rfl) ?_
      refine lv_dup hx hb dX9_mark_178 rfl ?_
      refine va_get (D := G) (ci := 9) (v := .long v_t_trace) (C := RX9) (T := TX9) (N := 26) hx hb hg inX9 hown hKT hP 0 rfl rfl 0 (by decide) (hg _ gF_X9_187) (fun _ h9 => h9) rfl dX9_mark_179 ?_
      refine lv_ldc2 (v := 100001) hx hb hown (hg _ gQ_X9_199) dX9_mark_182 ?_
      refine lv_ladd hx hb dX9_mark_185 ?_
      refine va_put (D := G) (ci := 9) (v := .long (v_t_trace + (100001 : Int64))) (ty := .long) (C := RX9) (T := TX9) (N := 26) hx hb hg inX9 tyX9 tyX9_ok nmX9 hown hKT hP hD hS 0 rfl rfl 0 (by decide) (hg _ gF_X9_187) (fun _ h9 => h9) rfl (by decide +kernel) rfl rfl (Nat.le_of_ble_eq_true rfl) dX9_mark_186 (fun H locs hP hD hS => ?_)
      have hP : va_P G vwCl (wd_X9_mark cs a_t a_t_text a_t_opinions a_t_lines a_t_draftBook a_t_scribes a_t_turn a_t_bent a_t_need a_t_now a_t_isKept a_t_far a_t_marginOf a_t_marginSays (v_t_trace + (100001 : Int64)) v_t_typed v_t_needTold v_t_at v_t_start v_t_sort v_t_value v_t_fault v_t_target v_t_went v_t_ender v_t_had v_t_margins g_t_opinions g_t_lines g_t_scribes g_t_turn g_t_bent g_t_now) H := hP
      have hD : va_D A (wd_X9_mark cs a_t a_t_text a_t_opinions a_t_lines a_t_draftBook a_t_scribes a_t_turn a_t_bent a_t_need a_t_now a_t_isKept a_t_far a_t_marginOf a_t_marginSays (v_t_trace + (100001 : Int64)) v_t_typed v_t_needTold v_t_at v_t_start v_t_sort v_t_value v_t_fault v_t_target v_t_went v_t_ender v_t_had v_t_margins g_t_opinions g_t_lines g_t_scribes g_t_turn g_t_bent g_t_now) := hD
      refine lv_iload_n hx hb dX9_mark_189 rfl (lv_at hl 1 rfl) ?_
      refine lv_aload_n hx hb dX9_mark_190 rfl (lv_at hl 2 rfl) ?_
      refine va_get (D := G) (ci := 9) (v := .ref a_t_now) (C := RX9) (T := TX9) (N := 26) hx hb hg inX9 hown hKT hP 0 rfl rfl 16 (by decide) (hg _ gF_X9_35) (fun _ h9 => h9) rfl dX9_mark_191 ?_
      refine lv_iconst (v := 1) hx hb dX9_mark_194 (by decide) ?_
      refine va_iald hx hb hKT hP 6 0 rfl rfl (vinC (by decide)) dX9_mark_195 ?_
      refine lv_iadd hx hb dX9_mark_196 ?_
      have hK := leafK hB hK
      have hK : (q6 + (g_t_now (1 : Int32).toNatClampNeg), v_t_trace + (100001 : Int64)) = R0 := hK
      subst hK
      exact W.iret (v := q6 + (g_t_now (1 : Int32).toNatClampNeg)) hx hb hr (fun t ht hW => ⟨⟨_, (), rfl, rfl, by rw [ht]; exact hP, hD⟩, hS.F ht⟩) hS.2.2 dX9_mark_197
    · have hB := ifP c_4 hB
      refine lv_ldc (v := -1000000) hx hb hown (hg _ gK_X9_186) dX9_mark_17 ?_
      have hK := leafK hB hK
      have hK : ((-1000000 : Int32), v_t_trace) = R0 := hK
      subst hK
      exact W.iret (v := (-1000000 : Int32)) hx hb hr (fun t ht hW => ⟨⟨_, (), rfl, rfl, by rw [ht]; exact hP, hD⟩, hS.F ht⟩) hS.2.2 dX9_mark_19
def wd_X9_keep (cs : Nat → ClassId) (a_t a_t_text a_t_opinions a_t_lines a_t_draftBook a_t_scribes a_t_turn a_t_bent a_t_need a_t_now a_t_isKept a_t_far a_t_marginOf a_t_marginSays : Nat) (v_t_trace : Int64) (v_t_typed : Int32) (v_t_needTold : Int32) (v_t_at : Int32) (v_t_start : Int32) (v_t_sort : Int32) (v_t_value : Int32) (v_t_fault : Int32) (v_t_target : Int32) (v_t_went : Int32) (v_t_ender : Int32) (v_t_had : Int32) (v_t_margins : Int32) (g_t_now : Nat → Int32) (g_t_isKept : Nat → Int32) : va_W := [(a_t, .inr (9, [.long v_t_trace, .ref a_t_text, .int v_t_typed, .ref a_t_opinions, .ref a_t_lines, .ref a_t_draftBook, .ref a_t_scribes, .ref a_t_turn, .ref a_t_bent, .ref a_t_need, .int v_t_needTold, .int v_t_at, .int v_t_start, .int v_t_sort, .int v_t_value, .int v_t_fault, .ref a_t_now, .ref a_t_isKept, .int v_t_target, .int v_t_went, .int v_t_ender, .int v_t_had, .ref a_t_far, .ref a_t_marginOf, .ref a_t_marginSays, .int v_t_margins])), (a_t_now, .inl (cs 0, 300, .inl g_t_now)), (a_t_isKept, .inl (cs 2, 2, .inl g_t_isKept))]
def rm_X9_keep : Room := { frames := 1, cells := 0, slots := 0, locals := 22 }
theorem mI_X9_keep : MI yX9_keep RX9 cX9_keep 3 (some .int) 1 := ⟨gI_X9_keep, gE_X9_keep, gN_X9, gC_X9_keep, by decide +kernel⟩
set_option maxHeartbeats 4000000 in
set_option maxRecDepth 100000 in
theorem k_X9_keep (l : Launch) (G : va_G) (cs : Nat → ClassId) (a_t a_t_text a_t_opinions a_t_lines a_t_draftBook a_t_scribes a_t_turn a_t_bent a_t_need a_t_now a_t_isKept a_t_far a_t_marginOf a_t_marginSays : Nat) (v_t_trace : Int64) (v_t_typed : Int32) (v_t_needTold : Int32) (v_t_at : Int32) (v_t_start : Int32) (v_t_sort : Int32) (v_t_value : Int32) (v_t_fault : Int32) (v_t_target : Int32) (v_t_went : Int32) (v_t_ender : Int32) (v_t_had : Int32) (v_t_margins : Int32) (g_t_now : Nat → Int32) (g_t_isKept : Nat → Int32) (p1 : Int32) (sz : Nat) (R0 : Int32 × (Nat → Int32) × (Nat → Int32)) (hB : f_X9_keep g_t_now g_t_isKept p1 = some R0) : Met l yX9_keep (.code yX9_keep cX9_keep 3 (some .int) :: GW) rm_X9_keep (PcW G cs [.ref a_t, .int p1] (wd_X9_keep cs a_t a_t_text a_t_opinions a_t_lines a_t_draftBook a_t_scribes a_t_turn a_t_bent a_t_need a_t_now a_t_isKept a_t_far a_t_marginOf a_t_marginSays v_t_trace v_t_typed v_t_needTold v_t_at v_t_start v_t_sort v_t_value v_t_fault v_t_target v_t_went v_t_ender v_t_had v_t_margins g_t_now g_t_isKept) sz) (QcI G (va_A (wd_X9_keep cs a_t a_t_text a_t_opinions a_t_lines a_t_draftBook a_t_scribes a_t_turn a_t_bent a_t_need a_t_now a_t_isKept a_t_far a_t_marginOf a_t_marginSays v_t_trace v_t_typed v_t_needTold v_t_at v_t_start v_t_sort v_t_value v_t_fault v_t_target v_t_went v_t_ender v_t_had v_t_margins g_t_now g_t_isKept) sz) (wd_X9_keep cs a_t a_t_text a_t_opinions a_t_lines a_t_draftBook a_t_scribes a_t_turn a_t_bent a_t_need a_t_now a_t_isKept a_t_far a_t_marginOf a_t_marginSays v_t_trace v_t_typed v_t_needTold v_t_at v_t_start v_t_sort v_t_value v_t_fault v_t_target v_t_went v_t_ender v_t_had v_t_margins R0.2.1 R0.2.2) R0.1) 0 0 (va_A (wd_X9_keep cs a_t a_t_text a_t_opinions a_t_lines a_t_draftBook a_t_scribes a_t_turn a_t_bent a_t_need a_t_now a_t_isKept a_t_far a_t_marginOf a_t_marginSays v_t_trace v_t_typed v_t_needTold v_t_at v_t_start v_t_sort v_t_value v_t_fault v_t_target v_t_went v_t_ender v_t_had v_t_margins g_t_now g_t_isKept) sz) := by
  refine Met.ofW (cc := cX9_keep) (maxL := 3) (ret := (some .int)) (by decide) rfl ?_
  intro p e s m args below meth c s₁ B hml hv
  obtain ⟨rfl, hsz, hP, hD0, hK, hN⟩ := hv
  have hx := B.exec
  have hb := B.bytes
  have hr := B.returns
  have hts := atoms_spec (ws := .code yX9_keep cX9_keep 3 (some .int) :: GW) B.pre
  have hg : ∀ w ∈ GW, w.before _ s = true := fun w h => hts w (List.mem_cons_of_mem _ h)
  have hown : s.vm.findClass RX9 = some m.cls := findClass_of_methodNamed B.named
  have hlocks := B.notSynchronized
  subst hsz
  have hD := hD0.self (sz := s.heap.size)
  generalize hAe : va_A (wd_X9_keep cs a_t a_t_text a_t_opinions a_t_lines a_t_draftBook a_t_scribes a_t_turn a_t_bent a_t_need a_t_now a_t_isKept a_t_far a_t_marginOf a_t_marginSays v_t_trace v_t_typed v_t_needTold v_t_at v_t_start v_t_sort v_t_value v_t_fault v_t_target v_t_went v_t_ender v_t_had v_t_margins g_t_now g_t_isKept) s.heap.size = A at hD ⊢
  have hA : ∀ q : Nat, s.heap.size ≤ q → A q := fun q h => by rw [← hAe]; exact Or.inr h
  have hS : va_S A s.heap s.heap [] := va_S.rf
  have hl := lv_entry ([.ref a_t, .int p1]) (n := 3) (Nat.le_of_ble_eq_true rfl)
  rw [lg_entry_eq]
  generalize (lg_sl ([.ref a_t, .int p1]) ++ List.replicate (3 - (lg_sl ([.ref a_t, .int p1])).length) Slot.unset).toArray = ls at hl ⊢
  have hl : lv_has ls 3 [(0, .ref a_t), (1, .int p1)] := hl
  obtain ⟨y, hB, hK0⟩ : ∃ y, f_X9_keep g_t_now g_t_isKept p1 = some y ∧ KEnd R0 y := ⟨R0, hB, rfl⟩
  have hKT := hK
  have hK := hK0
  obtain ⟨H, hHe⟩ : ∃ H, H = s.heap := ⟨_, rfl⟩
  obtain ⟨locs, hLe⟩ : ∃ L : List Loc, L = [] := ⟨_, rfl⟩
  rw [← hHe] at hP
  have hS : va_S A s.heap H locs := by rw [hHe, hLe]; exact hS
  show W p l e rm_X9_keep s m ([.ref a_t, .int p1] : List Value).toArray below meth c s.heap [] 0 0 _ _
  suffices hgo : W p l e rm_X9_keep s m ([.ref a_t, .int p1] : List Value).toArray below meth c H locs 0 0 (MQ below (QcI G A (wd_X9_keep cs a_t a_t_text a_t_opinions a_t_lines a_t_draftBook a_t_scribes a_t_turn a_t_bent a_t_need a_t_now a_t_isKept a_t_far a_t_marginOf a_t_marginSays v_t_trace v_t_typed v_t_needTold v_t_at v_t_start v_t_sort v_t_value v_t_fault v_t_target v_t_went v_t_ender v_t_had v_t_margins R0.2.1 R0.2.2) R0.1) ([.ref a_t, .int p1] : List Value).toArray s 0 0 A) (F0 m 0 ls []) by rw [hHe, hLe] at hgo; exact hgo
  refine lv_iload_n hx hb dX9_keep_0 rfl (lv_at hl 1 rfl) ?_
  refine lv_iconst (v := 0) hx hb dX9_keep_1 (by decide) ?_
  refine lv_iconst (v := 1) hx hb dX9_keep_2 (by decide) ?_
  obtain ⟨q1, hq1, hB⟩ := bnd hB
  refine kr_S (WC := wd_X9_in cs ) (As := [.int p1, .int (0 : Int32), .int (1 : Int32)]) (rest := []) (r0 := q1) ⟨hx, hb, hml, hown, hg⟩ (k_X9_in l G cs p1 (0 : Int32) (1 : Int32) q1 hq1) gM_X9_57 mS_X9_in (rmk rfl) hP hKT hN [] rfl rfl hl.1 rfl (Nat.le_of_ble_eq_true rfl) dX9_keep_3 ?_
  refine lv_if_ne (tgt := 11) hx hb dX9_keep_6 (by decide) (fun c_2 => ?_) (fun c_2 => ?_)
  · have hB := ifN c_2 hB
    refine lv_iconst (v := 0) hx hb dX9_keep_11 (by decide) ?_
    refine lv_istore_n (lv' := [(2, .int (0 : Int32)), (0, .ref a_t), (1, .int p1)]) hx hb dX9_keep_12 rfl hl (by decide) rfl (fun ls hl => ?_)
    refine lp_ind (Wh := fun (z3 : Int32 × (Nat → Int32)) => ∀ (H : Heap) (locs : List Loc), va_P G vwCl (wd_X9_keep cs a_t a_t_text a_t_opinions a_t_lines a_t_draftBook a_t_scribes a_t_turn a_t_bent a_t_need a_t_now a_t_isKept a_t_far a_t_marginOf a_t_marginSays v_t_trace v_t_typed v_t_needTold v_t_at v_t_start v_t_sort v_t_value v_t_fault v_t_target v_t_went v_t_ender v_t_had v_t_margins z3.2 g_t_isKept) H → va_D A (wd_X9_keep cs a_t a_t_text a_t_opinions a_t_lines a_t_draftBook a_t_scribes a_t_turn a_t_bent a_t_need a_t_now a_t_isKept a_t_far a_t_marginOf a_t_marginSays v_t_trace v_t_typed v_t_needTold v_t_at v_t_start v_t_sort v_t_value v_t_fault v_t_target v_t_went v_t_ender v_t_had v_t_margins z3.2 g_t_isKept) → va_S A s.heap H locs → ∀ (ls : Array Slot), lv_has ls 3 [(0, .ref a_t), (1, .int p1), (2, .int z3.1)] → W p l e rm_X9_keep s m ([.ref a_t, .int p1] : List Value).toArray below meth c H locs 0 0 (MQ below (QcI G A (wd_X9_keep cs a_t a_t_text a_t_opinions a_t_lines a_t_draftBook a_t_scribes a_t_turn a_t_bent a_t_need a_t_now a_t_isKept a_t_far a_t_marginOf a_t_marginSays v_t_trace v_t_typed v_t_needTold v_t_at v_t_start v_t_sort v_t_value v_t_fault v_t_target v_t_went v_t_ender v_t_had v_t_margins R0.2.1 R0.2.2) R0.1) ([.ref a_t, .int p1] : List Value).toArray s 0 0 A) (F0 m 13 ls [])) ?_ FU _ _ hB hK H locs hP hD hS ls (lv_sub hl [1, 2, 0] rfl)
    rintro ⟨z3_0, z3_1⟩ y hB hK H locs hP hD hS ls hl
    have hl : lv_has ls 3 [(0, .ref a_t), (1, .int p1), (2, .int z3_0)] := hl
    have hP : va_P G vwCl (wd_X9_keep cs a_t a_t_text a_t_opinions a_t_lines a_t_draftBook a_t_scribes a_t_turn a_t_bent a_t_need a_t_now a_t_isKept a_t_far a_t_marginOf a_t_marginSays v_t_trace v_t_typed v_t_needTold v_t_at v_t_start v_t_sort v_t_value v_t_fault v_t_target v_t_went v_t_ender v_t_had v_t_margins z3_1 g_t_isKept) H := hP
    have hD : va_D A (wd_X9_keep cs a_t a_t_text a_t_opinions a_t_lines a_t_draftBook a_t_scribes a_t_turn a_t_bent a_t_need a_t_now a_t_isKept a_t_far a_t_marginOf a_t_marginSays v_t_trace v_t_typed v_t_needTold v_t_at v_t_start v_t_sort v_t_value v_t_fault v_t_target v_t_went v_t_ender v_t_had v_t_margins z3_1 g_t_isKept) := hD
    refine lv_iload_n hx hb dX9_keep_13 rfl (lv_at hl 2 rfl) ?_
    refine lv_bipush (v := 100) hx hb dX9_keep_14 (by decide) ?_
    refine lv_icmp_ge (tgt := 44) hx hb dX9_keep_16 (by decide) (fun c_4 => ?_) (fun c_4 => ?_)
    · have hB := ifP c_4 hB
      refine lv_aload_n hx hb dX9_keep_44 rfl (lv_at hl 0 rfl) ?_
      refine va_get (D := G) (ci := 9) (v := .ref a_t_isKept) (C := RX9) (T := TX9) (N := 26) hx hb hg inX9 hown hKT hP 0 rfl rfl 17 (by decide) (hg _ gF_X9_38) (fun _ h9 => h9) rfl dX9_keep_45 ?_
      refine lv_iload_n hx hb dX9_keep_48 rfl (lv_at hl 1 rfl) ?_
      refine lv_iconst (v := 1) hx hb dX9_keep_49 (by decide) ?_
      obtain ⟨h_5, hB⟩ := ifS hB
      refine va_zast hx hb hKT hP hD hS 2 2 rfl rfl h_5 dX9_keep_50 (fun H locs hP hD hS => ?_)
      have hP : va_P G vwCl (wd_X9_keep cs a_t a_t_text a_t_opinions a_t_lines a_t_draftBook a_t_scribes a_t_turn a_t_bent a_t_need a_t_now a_t_isKept a_t_far a_t_marginOf a_t_marginSays v_t_trace v_t_typed v_t_needTold v_t_at v_t_start v_t_sort v_t_value v_t_fault v_t_target v_t_went v_t_ender v_t_had v_t_margins z3_1 (upd g_t_isKept p1.toNatClampNeg (vp_nar .boolean (1 : Int32)))) H := hP
      have hD : va_D A (wd_X9_keep cs a_t a_t_text a_t_opinions a_t_lines a_t_draftBook a_t_scribes a_t_turn a_t_bent a_t_need a_t_now a_t_isKept a_t_far a_t_marginOf a_t_marginSays v_t_trace v_t_typed v_t_needTold v_t_at v_t_start v_t_sort v_t_value v_t_fault v_t_target v_t_went v_t_ender v_t_had v_t_margins z3_1 (upd g_t_isKept p1.toNatClampNeg (vp_nar .boolean (1 : Int32)))) := hD
      refine lv_aload_n hx hb dX9_keep_51 rfl (lv_at hl 0 rfl) ?_
      refine va_get (D := G) (ci := 9) (v := .ref a_t_now) (C := RX9) (T := TX9) (N := 26) hx hb hg inX9 hown hKT hP 0 rfl rfl 16 (by decide) (hg _ gF_X9_35) (fun _ h9 => h9) rfl dX9_keep_52 ?_
      refine lv_iconst (v := 1) hx hb dX9_keep_55 (by decide) ?_
      refine va_iald hx hb hKT hP 1 0 rfl rfl (vinC (by decide)) dX9_keep_56 ?_
      have hK := leafK hB hK
      have hK := elimR hK
      have hK : (z3_1 (1 : Int32).toNatClampNeg, z3_1, upd g_t_isKept p1.toNatClampNeg (vp_nar .boolean (1 : Int32))) = R0 := hK
      subst hK
      exact W.iret (v := z3_1 (1 : Int32).toNatClampNeg) hx hb hr (fun t ht hW => ⟨⟨_, (), rfl, rfl, by rw [ht]; exact hP, hD⟩, hS.F ht⟩) hS.2.2 dX9_keep_57
    · have hB := ifN c_4 hB
      refine lv_aload_n hx hb dX9_keep_19 rfl (lv_at hl 0 rfl) ?_
      refine va_get (D := G) (ci := 9) (v := .ref a_t_now) (C := RX9) (T := TX9) (N := 26) hx hb hg inX9 hown hKT hP 0 rfl rfl 16 (by decide) (hg _ gF_X9_35) (fun _ h9 => h9) rfl dX9_keep_20 ?_
      refine lv_bipush (v := 100) hx hb dX9_keep_23 (by decide) ?_
      refine lv_iconst (v := 1) hx hb dX9_keep_25 (by decide) ?_
      refine lv_iload_n hx hb dX9_keep_26 rfl (lv_at hl 1 rfl) ?_
      refine lv_iadd hx hb dX9_keep_27 ?_
      refine lv_imul hx hb dX9_keep_28 ?_
      refine lv_iload_n hx hb dX9_keep_29 rfl (lv_at hl 2 rfl) ?_
      refine lv_iadd hx hb dX9_keep_30 ?_
      refine lv_aload_n hx hb dX9_keep_31 rfl (lv_at hl 0 rfl) ?_
      refine va_get (D := G) (ci := 9) (v := .ref a_t_now) (C := RX9) (T := TX9) (N := 26) hx hb hg inX9 hown hKT hP 0 rfl rfl 16 (by decide) (hg _ gF_X9_35) (fun _ h9 => h9) rfl dX9_keep_32 ?_
      refine lv_iload_n hx hb dX9_keep_35 rfl (lv_at hl 2 rfl) ?_
      obtain ⟨h_6, hB⟩ := ifS hB
      refine va_iald hx hb hKT hP 1 0 rfl rfl h_6 dX9_keep_36 ?_
      obtain ⟨h_7, hB⟩ := ifS hB
      refine va_iast hx hb hKT hP hD hS 1 0 rfl rfl h_7 dX9_keep_37 (fun H locs hP hD hS => ?_)
      have hP : va_P G vwCl (wd_X9_keep cs a_t a_t_text a_t_opinions a_t_lines a_t_draftBook a_t_scribes a_t_turn a_t_bent a_t_need a_t_now a_t_isKept a_t_far a_t_marginOf a_t_marginSays v_t_trace v_t_typed v_t_needTold v_t_at v_t_start v_t_sort v_t_value v_t_fault v_t_target v_t_went v_t_ender v_t_had v_t_margins (upd z3_1 (((100 : Int32) * ((1 : Int32) + p1)) + z3_0).toNatClampNeg (z3_1 z3_0.toNatClampNeg)) g_t_isKept) H := hP
      have hD : va_D A (wd_X9_keep cs a_t a_t_text a_t_opinions a_t_lines a_t_draftBook a_t_scribes a_t_turn a_t_bent a_t_need a_t_now a_t_isKept a_t_far a_t_marginOf a_t_marginSays v_t_trace v_t_typed v_t_needTold v_t_at v_t_start v_t_sort v_t_value v_t_fault v_t_target v_t_went v_t_ender v_t_had v_t_margins (upd z3_1 (((100 : Int32) * ((1 : Int32) + p1)) + z3_0).toNatClampNeg (z3_1 z3_0.toNatClampNeg)) g_t_isKept) := hD
      refine lv_iinc (v := z3_0 + (1 : Int32)) (lv' := [(2, .int (z3_0 + (1 : Int32))), (0, .ref a_t), (1, .int p1)]) hx hb dX9_keep_38 hl (k := 2) rfl (inc_ok (by decide)) (by decide) rfl (fun ls hl => ?_)
      refine lv_goto (tgt := 13) hx hb dX9_keep_41 (by decide) ?_
      have hK := leafK hB hK
      have hK := elimL hK
      exact hK H locs hP hD hS ls (lv_sub hl [1, 2, 0] rfl)
  · have hB := ifP c_2 hB
    refine lv_iconst (v := -1) hx hb dX9_keep_9 (by decide) ?_
    have hK := leafK hB hK
    have hK : ((-1 : Int32), g_t_now, g_t_isKept) = R0 := hK
    subst hK
    exact W.iret (v := (-1 : Int32)) hx hb hr (fun t ht hW => ⟨⟨_, (), rfl, rfl, by rw [ht]; exact hP, hD⟩, hS.F ht⟩) hS.2.2 dX9_keep_10
def wd_X9_back (cs : Nat → ClassId) (a_t a_t_text a_t_opinions a_t_lines a_t_draftBook a_t_scribes a_t_turn a_t_bent a_t_need a_t_now a_t_isKept a_t_far a_t_marginOf a_t_marginSays : Nat) (v_t_trace : Int64) (v_t_typed : Int32) (v_t_needTold : Int32) (v_t_at : Int32) (v_t_start : Int32) (v_t_sort : Int32) (v_t_value : Int32) (v_t_fault : Int32) (v_t_target : Int32) (v_t_went : Int32) (v_t_ender : Int32) (v_t_had : Int32) (v_t_margins : Int32) (g_t_now : Nat → Int32) (g_t_isKept : Nat → Int32) : va_W := [(a_t, .inr (9, [.long v_t_trace, .ref a_t_text, .int v_t_typed, .ref a_t_opinions, .ref a_t_lines, .ref a_t_draftBook, .ref a_t_scribes, .ref a_t_turn, .ref a_t_bent, .ref a_t_need, .int v_t_needTold, .int v_t_at, .int v_t_start, .int v_t_sort, .int v_t_value, .int v_t_fault, .ref a_t_now, .ref a_t_isKept, .int v_t_target, .int v_t_went, .int v_t_ender, .int v_t_had, .ref a_t_far, .ref a_t_marginOf, .ref a_t_marginSays, .int v_t_margins])), (a_t_now, .inl (cs 0, 300, .inl g_t_now)), (a_t_isKept, .inl (cs 2, 2, .inl g_t_isKept))]
def rm_X9_back : Room := { frames := 1, cells := 0, slots := 0, locals := 22 }
theorem mI_X9_back : MI yX9_back RX9 cX9_back 3 (some .int) 1 := ⟨gI_X9_back, gE_X9_back, gN_X9, gC_X9_back, by decide +kernel⟩
set_option maxHeartbeats 4000000 in
set_option maxRecDepth 100000 in
theorem k_X9_back (l : Launch) (G : va_G) (cs : Nat → ClassId) (a_t a_t_text a_t_opinions a_t_lines a_t_draftBook a_t_scribes a_t_turn a_t_bent a_t_need a_t_now a_t_isKept a_t_far a_t_marginOf a_t_marginSays : Nat) (v_t_trace : Int64) (v_t_typed : Int32) (v_t_needTold : Int32) (v_t_at : Int32) (v_t_start : Int32) (v_t_sort : Int32) (v_t_value : Int32) (v_t_fault : Int32) (v_t_target : Int32) (v_t_went : Int32) (v_t_ender : Int32) (v_t_had : Int32) (v_t_margins : Int32) (g_t_now : Nat → Int32) (g_t_isKept : Nat → Int32) (p1 : Int32) (sz : Nat) (R0 : Int32 × (Nat → Int32)) (hB : f_X9_back g_t_now g_t_isKept p1 = some R0) : Met l yX9_back (.code yX9_back cX9_back 3 (some .int) :: GW) rm_X9_back (PcW G cs [.ref a_t, .int p1] (wd_X9_back cs a_t a_t_text a_t_opinions a_t_lines a_t_draftBook a_t_scribes a_t_turn a_t_bent a_t_need a_t_now a_t_isKept a_t_far a_t_marginOf a_t_marginSays v_t_trace v_t_typed v_t_needTold v_t_at v_t_start v_t_sort v_t_value v_t_fault v_t_target v_t_went v_t_ender v_t_had v_t_margins g_t_now g_t_isKept) sz) (QcI G (va_A (wd_X9_back cs a_t a_t_text a_t_opinions a_t_lines a_t_draftBook a_t_scribes a_t_turn a_t_bent a_t_need a_t_now a_t_isKept a_t_far a_t_marginOf a_t_marginSays v_t_trace v_t_typed v_t_needTold v_t_at v_t_start v_t_sort v_t_value v_t_fault v_t_target v_t_went v_t_ender v_t_had v_t_margins g_t_now g_t_isKept) sz) (wd_X9_back cs a_t a_t_text a_t_opinions a_t_lines a_t_draftBook a_t_scribes a_t_turn a_t_bent a_t_need a_t_now a_t_isKept a_t_far a_t_marginOf a_t_marginSays v_t_trace v_t_typed v_t_needTold v_t_at v_t_start v_t_sort v_t_value v_t_fault v_t_target v_t_went v_t_ender v_t_had v_t_margins R0.2 g_t_isKept) R0.1) 0 0 (va_A (wd_X9_back cs a_t a_t_text a_t_opinions a_t_lines a_t_draftBook a_t_scribes a_t_turn a_t_bent a_t_need a_t_now a_t_isKept a_t_far a_t_marginOf a_t_marginSays v_t_trace v_t_typed v_t_needTold v_t_at v_t_start v_t_sort v_t_value v_t_fault v_t_target v_t_went v_t_ender v_t_had v_t_margins g_t_now g_t_isKept) sz) := by
  refine Met.ofW (cc := cX9_back) (maxL := 3) (ret := (some .int)) (by decide) rfl ?_
  intro p e s m args below meth c s₁ B hml hv
  obtain ⟨rfl, hsz, hP, hD0, hK, hN⟩ := hv
  have hx := B.exec
  have hb := B.bytes
  have hr := B.returns
  have hts := atoms_spec (ws := .code yX9_back cX9_back 3 (some .int) :: GW) B.pre
  have hg : ∀ w ∈ GW, w.before _ s = true := fun w h => hts w (List.mem_cons_of_mem _ h)
  have hown : s.vm.findClass RX9 = some m.cls := findClass_of_methodNamed B.named
  have hlocks := B.notSynchronized
  subst hsz
  have hD := hD0.self (sz := s.heap.size)
  generalize hAe : va_A (wd_X9_back cs a_t a_t_text a_t_opinions a_t_lines a_t_draftBook a_t_scribes a_t_turn a_t_bent a_t_need a_t_now a_t_isKept a_t_far a_t_marginOf a_t_marginSays v_t_trace v_t_typed v_t_needTold v_t_at v_t_start v_t_sort v_t_value v_t_fault v_t_target v_t_went v_t_ender v_t_had v_t_margins g_t_now g_t_isKept) s.heap.size = A at hD ⊢
  have hA : ∀ q : Nat, s.heap.size ≤ q → A q := fun q h => by rw [← hAe]; exact Or.inr h
  have hS : va_S A s.heap s.heap [] := va_S.rf
  have hl := lv_entry ([.ref a_t, .int p1]) (n := 3) (Nat.le_of_ble_eq_true rfl)
  rw [lg_entry_eq]
  generalize (lg_sl ([.ref a_t, .int p1]) ++ List.replicate (3 - (lg_sl ([.ref a_t, .int p1])).length) Slot.unset).toArray = ls at hl ⊢
  have hl : lv_has ls 3 [(0, .ref a_t), (1, .int p1)] := hl
  obtain ⟨y, hB, hK0⟩ : ∃ y, f_X9_back g_t_now g_t_isKept p1 = some y ∧ KEnd R0 y := ⟨R0, hB, rfl⟩
  have hKT := hK
  have hK := hK0
  obtain ⟨H, hHe⟩ : ∃ H, H = s.heap := ⟨_, rfl⟩
  obtain ⟨locs, hLe⟩ : ∃ L : List Loc, L = [] := ⟨_, rfl⟩
  rw [← hHe] at hP
  have hS : va_S A s.heap H locs := by rw [hHe, hLe]; exact hS
  show W p l e rm_X9_back s m ([.ref a_t, .int p1] : List Value).toArray below meth c s.heap [] 0 0 _ _
  suffices hgo : W p l e rm_X9_back s m ([.ref a_t, .int p1] : List Value).toArray below meth c H locs 0 0 (MQ below (QcI G A (wd_X9_back cs a_t a_t_text a_t_opinions a_t_lines a_t_draftBook a_t_scribes a_t_turn a_t_bent a_t_need a_t_now a_t_isKept a_t_far a_t_marginOf a_t_marginSays v_t_trace v_t_typed v_t_needTold v_t_at v_t_start v_t_sort v_t_value v_t_fault v_t_target v_t_went v_t_ender v_t_had v_t_margins R0.2 g_t_isKept) R0.1) ([.ref a_t, .int p1] : List Value).toArray s 0 0 A) (F0 m 0 ls []) by rw [hHe, hLe] at hgo; exact hgo
  refine lv_iload_n hx hb dX9_back_0 rfl (lv_at hl 1 rfl) ?_
  refine lv_iconst (v := 0) hx hb dX9_back_1 (by decide) ?_
  refine lv_iconst (v := 1) hx hb dX9_back_2 (by decide) ?_
  obtain ⟨q1, hq1, hB⟩ := bnd hB
  refine kr_S (WC := wd_X9_in cs ) (As := [.int p1, .int (0 : Int32), .int (1 : Int32)]) (rest := []) (r0 := q1) ⟨hx, hb, hml, hown, hg⟩ (k_X9_in l G cs p1 (0 : Int32) (1 : Int32) q1 hq1) gM_X9_57 mS_X9_in (rmk rfl) hP hKT hN [] rfl rfl hl.1 rfl (Nat.le_of_ble_eq_true rfl) dX9_back_3 ?_
  refine lv_if_ne (tgt := 11) hx hb dX9_back_6 (by decide) (fun c_2 => ?_) (fun c_2 => ?_)
  · have hB := ifN c_2 hB
    refine lv_aload_n hx hb dX9_back_11 rfl (lv_at hl 0 rfl) ?_
    refine va_get (D := G) (ci := 9) (v := .ref a_t_isKept) (C := RX9) (T := TX9) (N := 26) hx hb hg inX9 hown hKT hP 0 rfl rfl 17 (by decide) (hg _ gF_X9_38) (fun _ h9 => h9) rfl dX9_back_12 ?_
    refine lv_iload_n hx hb dX9_back_15 rfl (lv_at hl 1 rfl) ?_
    obtain ⟨h_3, hB⟩ := ifS hB
    refine va_zald hx hb hKT hP 2 2 rfl rfl h_3 dX9_back_16 ?_
    refine lv_if_ne (tgt := 23) hx hb dX9_back_17 (by decide) (fun c_4 => ?_) (fun c_4 => ?_)
    · have hB := ifN c_4 hB
      refine lv_iconst (v := 0) hx hb dX9_back_23 (by decide) ?_
      refine lv_istore_n (lv' := [(2, .int (0 : Int32)), (0, .ref a_t), (1, .int p1)]) hx hb dX9_back_24 rfl hl (by decide) rfl (fun ls hl => ?_)
      refine lp_ind (Wh := fun (z5 : Int32 × (Nat → Int32)) => ∀ (H : Heap) (locs : List Loc), va_P G vwCl (wd_X9_back cs a_t a_t_text a_t_opinions a_t_lines a_t_draftBook a_t_scribes a_t_turn a_t_bent a_t_need a_t_now a_t_isKept a_t_far a_t_marginOf a_t_marginSays v_t_trace v_t_typed v_t_needTold v_t_at v_t_start v_t_sort v_t_value v_t_fault v_t_target v_t_went v_t_ender v_t_had v_t_margins z5.2 g_t_isKept) H → va_D A (wd_X9_back cs a_t a_t_text a_t_opinions a_t_lines a_t_draftBook a_t_scribes a_t_turn a_t_bent a_t_need a_t_now a_t_isKept a_t_far a_t_marginOf a_t_marginSays v_t_trace v_t_typed v_t_needTold v_t_at v_t_start v_t_sort v_t_value v_t_fault v_t_target v_t_went v_t_ender v_t_had v_t_margins z5.2 g_t_isKept) → va_S A s.heap H locs → ∀ (ls : Array Slot), lv_has ls 3 [(0, .ref a_t), (1, .int p1), (2, .int z5.1)] → W p l e rm_X9_back s m ([.ref a_t, .int p1] : List Value).toArray below meth c H locs 0 0 (MQ below (QcI G A (wd_X9_back cs a_t a_t_text a_t_opinions a_t_lines a_t_draftBook a_t_scribes a_t_turn a_t_bent a_t_need a_t_now a_t_isKept a_t_far a_t_marginOf a_t_marginSays v_t_trace v_t_typed v_t_needTold v_t_at v_t_start v_t_sort v_t_value v_t_fault v_t_target v_t_went v_t_ender v_t_had v_t_margins R0.2 g_t_isKept) R0.1) ([.ref a_t, .int p1] : List Value).toArray s 0 0 A) (F0 m 25 ls [])) ?_ FU _ _ hB hK H locs hP hD hS ls (lv_sub hl [1, 2, 0] rfl)
      rintro ⟨z5_0, z5_1⟩ y hB hK H locs hP hD hS ls hl
      have hl : lv_has ls 3 [(0, .ref a_t), (1, .int p1), (2, .int z5_0)] := hl
      have hP : va_P G vwCl (wd_X9_back cs a_t a_t_text a_t_opinions a_t_lines a_t_draftBook a_t_scribes a_t_turn a_t_bent a_t_need a_t_now a_t_isKept a_t_far a_t_marginOf a_t_marginSays v_t_trace v_t_typed v_t_needTold v_t_at v_t_start v_t_sort v_t_value v_t_fault v_t_target v_t_went v_t_ender v_t_had v_t_margins z5_1 g_t_isKept) H := hP
      have hD : va_D A (wd_X9_back cs a_t a_t_text a_t_opinions a_t_lines a_t_draftBook a_t_scribes a_t_turn a_t_bent a_t_need a_t_now a_t_isKept a_t_far a_t_marginOf a_t_marginSays v_t_trace v_t_typed v_t_needTold v_t_at v_t_start v_t_sort v_t_value v_t_fault v_t_target v_t_went v_t_ender v_t_had v_t_margins z5_1 g_t_isKept) := hD
      refine lv_iload_n hx hb dX9_back_25 rfl (lv_at hl 2 rfl) ?_
      refine lv_bipush (v := 100) hx hb dX9_back_26 (by decide) ?_
      refine lv_icmp_ge (tgt := 56) hx hb dX9_back_28 (by decide) (fun c_6 => ?_) (fun c_6 => ?_)
      · have hB := ifP c_6 hB
        refine lv_aload_n hx hb dX9_back_56 rfl (lv_at hl 0 rfl) ?_
        refine va_get (D := G) (ci := 9) (v := .ref a_t_now) (C := RX9) (T := TX9) (N := 26) hx hb hg inX9 hown hKT hP 0 rfl rfl 16 (by decide) (hg _ gF_X9_35) (fun _ h9 => h9) rfl dX9_back_57 ?_
        refine lv_iconst (v := 1) hx hb dX9_back_60 (by decide) ?_
        refine va_iald hx hb hKT hP 1 0 rfl rfl (vinC (by decide)) dX9_back_61 ?_
        have hK := leafK hB hK
        have hK := elimR hK
        have hK : (z5_1 (1 : Int32).toNatClampNeg, z5_1) = R0 := hK
        subst hK
        exact W.iret (v := z5_1 (1 : Int32).toNatClampNeg) hx hb hr (fun t ht hW => ⟨⟨_, (), rfl, rfl, by rw [ht]; exact hP, hD⟩, hS.F ht⟩) hS.2.2 dX9_back_62
      · have hB := ifN c_6 hB
        refine lv_aload_n hx hb dX9_back_31 rfl (lv_at hl 0 rfl) ?_
        refine va_get (D := G) (ci := 9) (v := .ref a_t_now) (C := RX9) (T := TX9) (N := 26) hx hb hg inX9 hown hKT hP 0 rfl rfl 16 (by decide) (hg _ gF_X9_35) (fun _ h9 => h9) rfl dX9_back_32 ?_
        refine lv_iload_n hx hb dX9_back_35 rfl (lv_at hl 2 rfl) ?_
        refine lv_aload_n hx hb dX9_back_36 rfl (lv_at hl 0 rfl) ?_
        refine va_get (D := G) (ci := 9) (v := .ref a_t_now) (C := RX9) (T := TX9) (N := 26) hx hb hg inX9 hown hKT hP 0 rfl rfl 16 (by decide) (hg _ gF_X9_35) (fun _ h9 => h9) rfl dX9_back_37 ?_
        refine lv_bipush (v := 100) hx hb dX9_back_40 (by decide) ?_
        refine lv_iconst (v := 1) hx hb dX9_back_42 (by decide) ?_
        refine lv_iload_n hx hb dX9_back_43 rfl (lv_at hl 1 rfl) ?_
        refine lv_iadd hx hb dX9_back_44 ?_
        refine lv_imul hx hb dX9_back_45 ?_
        refine lv_iload_n hx hb dX9_back_46 rfl (lv_at hl 2 rfl) ?_
        refine lv_iadd hx hb dX9_back_47 ?_
        obtain ⟨h_7, hB⟩ := ifS hB
        refine va_iald hx hb hKT hP 1 0 rfl rfl h_7 dX9_back_48 ?_
        obtain ⟨h_8, hB⟩ := ifS hB
        refine va_iast hx hb hKT hP hD hS 1 0 rfl rfl h_8 dX9_back_49 (fun H locs hP hD hS => ?_)
        have hP : va_P G vwCl (wd_X9_back cs a_t a_t_text a_t_opinions a_t_lines a_t_draftBook a_t_scribes a_t_turn a_t_bent a_t_need a_t_now a_t_isKept a_t_far a_t_marginOf a_t_marginSays v_t_trace v_t_typed v_t_needTold v_t_at v_t_start v_t_sort v_t_value v_t_fault v_t_target v_t_went v_t_ender v_t_had v_t_margins (upd z5_1 z5_0.toNatClampNeg (z5_1 (((100 : Int32) * ((1 : Int32) + p1)) + z5_0).toNatClampNeg)) g_t_isKept) H := hP
        have hD : va_D A (wd_X9_back cs a_t a_t_text a_t_opinions a_t_lines a_t_draftBook a_t_scribes a_t_turn a_t_bent a_t_need a_t_now a_t_isKept a_t_far a_t_marginOf a_t_marginSays v_t_trace v_t_typed v_t_needTold v_t_at v_t_start v_t_sort v_t_value v_t_fault v_t_target v_t_went v_t_ender v_t_had v_t_margins (upd z5_1 z5_0.toNatClampNeg (z5_1 (((100 : Int32) * ((1 : Int32) + p1)) + z5_0).toNatClampNeg)) g_t_isKept) := hD
        refine lv_iinc (v := z5_0 + (1 : Int32)) (lv' := [(2, .int (z5_0 + (1 : Int32))), (0, .ref a_t), (1, .int p1)]) hx hb dX9_back_50 hl (k := 2) rfl (inc_ok (by decide)) (by decide) rfl (fun ls hl => ?_)
        refine lv_goto (tgt := 25) hx hb dX9_back_53 (by decide) ?_
        have hK := leafK hB hK
        have hK := elimL hK
        exact hK H locs hP hD hS ls (lv_sub hl [1, 2, 0] rfl)
    · have hB := ifP c_4 hB
      refine lv_bipush (v := -2) hx hb dX9_back_20 (by decide) ?_
      have hK := leafK hB hK
      have hK : ((-2 : Int32), g_t_now) = R0 := hK
      subst hK
      exact W.iret (v := (-2 : Int32)) hx hb hr (fun t ht hW => ⟨⟨_, (), rfl, rfl, by rw [ht]; exact hP, hD⟩, hS.F ht⟩) hS.2.2 dX9_back_22
  · have hB := ifP c_2 hB
    refine lv_iconst (v := -1) hx hb dX9_back_9 (by decide) ?_
    have hK := leafK hB hK
    have hK : ((-1 : Int32), g_t_now) = R0 := hK
    subst hK
    exact W.iret (v := (-1 : Int32)) hx hb hr (fun t ht hW => ⟨⟨_, (), rfl, rfl, by rw [ht]; exact hP, hD⟩, hS.F ht⟩) hS.2.2 dX9_back_10
def wd_X9_count (cs : Nat → ClassId) (a_t a_t_text a_t_opinions a_t_lines a_t_draftBook a_t_scribes a_t_turn a_t_bent a_t_need a_t_now a_t_isKept a_t_far a_t_marginOf a_t_marginSays : Nat) (v_t_trace : Int64) (v_t_typed : Int32) (v_t_needTold : Int32) (v_t_at : Int32) (v_t_start : Int32) (v_t_sort : Int32) (v_t_value : Int32) (v_t_fault : Int32) (v_t_target : Int32) (v_t_went : Int32) (v_t_ender : Int32) (v_t_had : Int32) (v_t_margins : Int32) (g_t_opinions : Nat → Int32) (g_t_lines : Nat → Int32) (g_t_scribes : Nat → Int32) (g_t_need : Nat → Int32) (g_t_now : Nat → Int32) : va_W := [(a_t, .inr (9, [.long v_t_trace, .ref a_t_text, .int v_t_typed, .ref a_t_opinions, .ref a_t_lines, .ref a_t_draftBook, .ref a_t_scribes, .ref a_t_turn, .ref a_t_bent, .ref a_t_need, .int v_t_needTold, .int v_t_at, .int v_t_start, .int v_t_sort, .int v_t_value, .int v_t_fault, .ref a_t_now, .ref a_t_isKept, .int v_t_target, .int v_t_went, .int v_t_ender, .int v_t_had, .ref a_t_far, .ref a_t_marginOf, .ref a_t_marginSays, .int v_t_margins])), (a_t_opinions, .inl (cs 0, 2, .inl g_t_opinions)), (a_t_lines, .inl (cs 0, 2, .inl g_t_lines)), (a_t_scribes, .inl (cs 0, 2, .inl g_t_scribes)), (a_t_need, .inl (cs 0, 2, .inl g_t_need)), (a_t_now, .inl (cs 0, 300, .inl g_t_now))]
def rm_X9_count : Room := { frames := 0, cells := 0, slots := 0, locals := 0 }
theorem mI_X9_count : MI yX9_count RX9 cX9_count 2 (some .int) 1 := ⟨gI_X9_count, gE_X9_count, gN_X9, gC_X9_count, by decide +kernel⟩
set_option maxHeartbeats 4000000 in
set_option maxRecDepth 100000 in
theorem k_X9_count (l : Launch) (G : va_G) (cs : Nat → ClassId) (a_t a_t_text a_t_opinions a_t_lines a_t_draftBook a_t_scribes a_t_turn a_t_bent a_t_need a_t_now a_t_isKept a_t_far a_t_marginOf a_t_marginSays : Nat) (v_t_trace : Int64) (v_t_typed : Int32) (v_t_needTold : Int32) (v_t_at : Int32) (v_t_start : Int32) (v_t_sort : Int32) (v_t_value : Int32) (v_t_fault : Int32) (v_t_target : Int32) (v_t_went : Int32) (v_t_ender : Int32) (v_t_had : Int32) (v_t_margins : Int32) (g_t_opinions : Nat → Int32) (g_t_lines : Nat → Int32) (g_t_scribes : Nat → Int32) (g_t_need : Nat → Int32) (g_t_now : Nat → Int32) (p1 : Int32) (R0 : Int32) (hB : f_X9_count v_t_typed v_t_margins g_t_opinions g_t_lines g_t_scribes g_t_need g_t_now p1 = some R0) : Met l yX9_count (.code yX9_count cX9_count 2 (some .int) :: GW) rm_X9_count (PcR G cs [.ref a_t, .int p1] (wd_X9_count cs a_t a_t_text a_t_opinions a_t_lines a_t_draftBook a_t_scribes a_t_turn a_t_bent a_t_need a_t_now a_t_isKept a_t_far a_t_marginOf a_t_marginSays v_t_trace v_t_typed v_t_needTold v_t_at v_t_start v_t_sort v_t_value v_t_fault v_t_target v_t_went v_t_ender v_t_had v_t_margins g_t_opinions g_t_lines g_t_scribes g_t_need g_t_now)) (vp_Si (fun r => r = R0)) 0 0 (fun _ => False) := by
  refine Met.ofW (cc := cX9_count) (maxL := 2) (ret := (some .int)) (by decide) rfl ?_
  intro p e s m args below meth c s₁ B hml hv
  obtain ⟨rfl, hP, hK, hN⟩ := hv
  have hx := B.exec
  have hb := B.bytes
  have hr := B.returns
  have hts := atoms_spec (ws := .code yX9_count cX9_count 2 (some .int) :: GW) B.pre
  have hg : ∀ w ∈ GW, w.before _ s = true := fun w h => hts w (List.mem_cons_of_mem _ h)
  have hown : s.vm.findClass RX9 = some m.cls := findClass_of_methodNamed B.named
  have hlocks := B.notSynchronized
  have hl := lv_entry ([.ref a_t, .int p1]) (n := 2) (Nat.le_of_ble_eq_true rfl)
  rw [lg_entry_eq]
  generalize (lg_sl ([.ref a_t, .int p1]) ++ List.replicate (2 - (lg_sl ([.ref a_t, .int p1])).length) Slot.unset).toArray = ls at hl ⊢
  have hl : lv_has ls 2 [(0, .ref a_t), (1, .int p1)] := hl
  obtain ⟨y, hB, hK0⟩ : ∃ y, f_X9_count v_t_typed v_t_margins g_t_opinions g_t_lines g_t_scribes g_t_need g_t_now p1 = some y ∧ KEnd R0 y := ⟨R0, hB, rfl⟩
  have hKT := hK
  have hK := hK0
  show W p l e rm_X9_count s m ([.ref a_t, .int p1] : List Value).toArray below meth c s.heap [] 0 0 (MQ below (vp_Si (fun r => r = R0)) ([.ref a_t, .int p1] : List Value).toArray s 0 0 (fun _ => False)) (F0 m 0 ls [])
  refine lv_iload_n hx hb dX9_count_0 rfl (lv_at hl 1 rfl) ?_
  by_cases c_1_0 : p1 = 0
  · have hB := ifP c_1_0 hB
    refine lv_tableIn (off := 43) (tgt := 44) hx hb dX9_count_1 (by rw [c_1_0]; decide) (by rw [c_1_0]; decide) (by rw [c_1_0]; decide) (by decide) ?_
    refine lv_aload_n hx hb dX9_count_44 rfl (lv_at hl 0 rfl) ?_
    refine va_get (D := G) (ci := 9) (v := .ref a_t_opinions) (C := RX9) (T := TX9) (N := 26) hx hb hg inX9 hown hKT hP 0 rfl rfl 3 (by decide) (hg _ gF_X9_13) (fun _ h9 => h9) rfl dX9_count_45 ?_
    refine lv_iconst (v := 0) hx hb dX9_count_48 (by decide) ?_
    refine va_iald hx hb hKT hP 1 0 rfl rfl (vinC (by decide)) dX9_count_49 ?_
    have hK := leafK hB hK
    have hK : (g_t_opinions (0 : Int32).toNatClampNeg) = R0 := hK
    subst hK
    exact W.iret (v := g_t_opinions (0 : Int32).toNatClampNeg) hx hb hr (fun t ht hW => ⟨_, rfl, rfl, ht⟩) (fun _ h => by cases h) dX9_count_50
  have hB := ifN c_1_0 hB
  by_cases c_1_1 : p1 = 1
  · have hB := ifP c_1_1 hB
    refine lv_tableIn (off := 50) (tgt := 51) hx hb dX9_count_1 (by rw [c_1_1]; decide) (by rw [c_1_1]; decide) (by rw [c_1_1]; decide) (by decide) ?_
    refine lv_aload_n hx hb dX9_count_51 rfl (lv_at hl 0 rfl) ?_
    refine va_get (D := G) (ci := 9) (v := .ref a_t_lines) (C := RX9) (T := TX9) (N := 26) hx hb hg inX9 hown hKT hP 0 rfl rfl 4 (by decide) (hg _ gF_X9_17) (fun _ h9 => h9) rfl dX9_count_52 ?_
    refine lv_iconst (v := 0) hx hb dX9_count_55 (by decide) ?_
    refine va_iald hx hb hKT hP 2 0 rfl rfl (vinC (by decide)) dX9_count_56 ?_
    have hK := leafK hB hK
    have hK : (g_t_lines (0 : Int32).toNatClampNeg) = R0 := hK
    subst hK
    exact W.iret (v := g_t_lines (0 : Int32).toNatClampNeg) hx hb hr (fun t ht hW => ⟨_, rfl, rfl, ht⟩) (fun _ h => by cases h) dX9_count_57
  have hB := ifN c_1_1 hB
  by_cases c_1_2 : p1 = 2
  · have hB := ifP c_1_2 hB
    refine lv_tableIn (off := 57) (tgt := 58) hx hb dX9_count_1 (by rw [c_1_2]; decide) (by rw [c_1_2]; decide) (by rw [c_1_2]; decide) (by decide) ?_
    refine lv_aload_n hx hb dX9_count_58 rfl (lv_at hl 0 rfl) ?_
    refine va_get (D := G) (ci := 9) (v := .ref a_t_scribes) (C := RX9) (T := TX9) (N := 26) hx hb hg inX9 hown hKT hP 0 rfl rfl 6 (by decide) (hg _ gF_X9_23) (fun _ h9 => h9) rfl dX9_count_59 ?_
    refine lv_iconst (v := 0) hx hb dX9_count_62 (by decide) ?_
    refine va_iald hx hb hKT hP 3 0 rfl rfl (vinC (by decide)) dX9_count_63 ?_
    have hK := leafK hB hK
    have hK : (g_t_scribes (0 : Int32).toNatClampNeg) = R0 := hK
    subst hK
    exact W.iret (v := g_t_scribes (0 : Int32).toNatClampNeg) hx hb hr (fun t ht hW => ⟨_, rfl, rfl, ht⟩) (fun _ h => by cases h) dX9_count_64
  have hB := ifN c_1_2 hB
  by_cases c_1_3 : p1 = 3
  · have hB := ifP c_1_3 hB
    refine lv_tableIn (off := 64) (tgt := 65) hx hb dX9_count_1 (by rw [c_1_3]; decide) (by rw [c_1_3]; decide) (by rw [c_1_3]; decide) (by decide) ?_
    refine lv_aload_n hx hb dX9_count_65 rfl (lv_at hl 0 rfl) ?_
    refine va_get (D := G) (ci := 9) (v := .ref a_t_need) (C := RX9) (T := TX9) (N := 26) hx hb hg inX9 hown hKT hP 0 rfl rfl 9 (by decide) (hg _ gF_X9_32) (fun _ h9 => h9) rfl dX9_count_66 ?_
    refine lv_iconst (v := 0) hx hb dX9_count_69 (by decide) ?_
    refine va_iald hx hb hKT hP 4 0 rfl rfl (vinC (by decide)) dX9_count_70 ?_
    have hK := leafK hB hK
    have hK : (g_t_need (0 : Int32).toNatClampNeg) = R0 := hK
    subst hK
    exact W.iret (v := g_t_need (0 : Int32).toNatClampNeg) hx hb hr (fun t ht hW => ⟨_, rfl, rfl, ht⟩) (fun _ h => by cases h) dX9_count_71
  have hB := ifN c_1_3 hB
  by_cases c_1_4 : p1 = 4
  · have hB := ifP c_1_4 hB
    refine lv_tableIn (off := 71) (tgt := 72) hx hb dX9_count_1 (by rw [c_1_4]; decide) (by rw [c_1_4]; decide) (by rw [c_1_4]; decide) (by decide) ?_
    refine lv_aload_n hx hb dX9_count_72 rfl (lv_at hl 0 rfl) ?_
    refine va_get (D := G) (ci := 9) (v := .int v_t_margins) (C := RX9) (T := TX9) (N := 26) hx hb hg inX9 hown hKT hP 0 rfl rfl 25 (by decide) (hg _ gF_X9_102) (fun _ h9 => h9) rfl dX9_count_73 ?_
    have hK := leafK hB hK
    have hK : v_t_margins = R0 := hK
    subst hK
    exact W.iret (v := v_t_margins) hx hb hr (fun t ht hW => ⟨_, rfl, rfl, ht⟩) (fun _ h => by cases h) dX9_count_76
  have hB := ifN c_1_4 hB
  by_cases c_1_5 : p1 = 5
  · have hB := ifP c_1_5 hB
    refine lv_tableIn (off := 76) (tgt := 77) hx hb dX9_count_1 (by rw [c_1_5]; decide) (by rw [c_1_5]; decide) (by rw [c_1_5]; decide) (by decide) ?_
    refine lv_aload_n hx hb dX9_count_77 rfl (lv_at hl 0 rfl) ?_
    refine va_get (D := G) (ci := 9) (v := .ref a_t_now) (C := RX9) (T := TX9) (N := 26) hx hb hg inX9 hown hKT hP 0 rfl rfl 16 (by decide) (hg _ gF_X9_35) (fun _ h9 => h9) rfl dX9_count_78 ?_
    refine lv_bipush (v := 9) hx hb dX9_count_81 (by decide) ?_
    refine va_iald hx hb hKT hP 5 0 rfl rfl (vinC (by decide)) dX9_count_83 ?_
    have hK := leafK hB hK
    have hK : (g_t_now (9 : Int32).toNatClampNeg) = R0 := hK
    subst hK
    exact W.iret (v := g_t_now (9 : Int32).toNatClampNeg) hx hb hr (fun t ht hW => ⟨_, rfl, rfl, ht⟩) (fun _ h => by cases h) dX9_count_84
  have hB := ifN c_1_5 hB
  by_cases c_1_6 : p1 = 6
  · have hB := ifP c_1_6 hB
    refine lv_tableIn (off := 84) (tgt := 85) hx hb dX9_count_1 (by rw [c_1_6]; decide) (by rw [c_1_6]; decide) (by rw [c_1_6]; decide) (by decide) ?_
    refine lv_aload_n hx hb dX9_count_85 rfl (lv_at hl 0 rfl) ?_
    refine va_get (D := G) (ci := 9) (v := .int v_t_typed) (C := RX9) (T := TX9) (N := 26) hx hb hg inX9 hown hKT hP 0 rfl rfl 2 (by decide) (hg _ gF_X9_61) (fun _ h9 => h9) rfl dX9_count_86 ?_
    have hK := leafK hB hK
    have hK : v_t_typed = R0 := hK
    subst hK
    exact W.iret (v := v_t_typed) hx hb hr (fun t ht hW => ⟨_, rfl, rfl, ht⟩) (fun _ h => by cases h) dX9_count_89
  have hB := ifN c_1_6 hB
  have c_1_0t := lv_neT (a := 0) c_1_0 rfl
  have c_1_1t := lv_neT (a := 1) c_1_1 rfl
  have c_1_2t := lv_neT (a := 2) c_1_2 rfl
  have c_1_3t := lv_neT (a := 3) c_1_3 rfl
  have c_1_4t := lv_neT (a := 4) c_1_4 rfl
  have c_1_5t := lv_neT (a := 5) c_1_5 rfl
  have c_1_6t := lv_neT (a := 6) c_1_6 rfl
  refine lv_tableOut (tgt := 90) hx hb dX9_count_1 (by omega) (by decide) ?_
  refine lv_iconst (v := -1) hx hb dX9_count_90 (by decide) ?_
  have hK := leafK hB hK
  have hK : (-1 : Int32) = R0 := hK
  subst hK
  exact W.iret (v := (-1 : Int32)) hx hb hr (fun t ht hW => ⟨_, rfl, rfl, ht⟩) (fun _ h => by cases h) dX9_count_91
def wd_X9_trace (cs : Nat → ClassId) (a_t a_t_text a_t_opinions a_t_lines a_t_draftBook a_t_scribes a_t_turn a_t_bent a_t_need a_t_now a_t_isKept a_t_far a_t_marginOf a_t_marginSays : Nat) (v_t_trace : Int64) (v_t_typed : Int32) (v_t_needTold : Int32) (v_t_at : Int32) (v_t_start : Int32) (v_t_sort : Int32) (v_t_value : Int32) (v_t_fault : Int32) (v_t_target : Int32) (v_t_went : Int32) (v_t_ender : Int32) (v_t_had : Int32) (v_t_margins : Int32) : va_W := [(a_t, .inr (9, [.long v_t_trace, .ref a_t_text, .int v_t_typed, .ref a_t_opinions, .ref a_t_lines, .ref a_t_draftBook, .ref a_t_scribes, .ref a_t_turn, .ref a_t_bent, .ref a_t_need, .int v_t_needTold, .int v_t_at, .int v_t_start, .int v_t_sort, .int v_t_value, .int v_t_fault, .ref a_t_now, .ref a_t_isKept, .int v_t_target, .int v_t_went, .int v_t_ender, .int v_t_had, .ref a_t_far, .ref a_t_marginOf, .ref a_t_marginSays, .int v_t_margins]))]
def rm_X9_trace : Room := { frames := 0, cells := 0, slots := 0, locals := 0 }
theorem mI_X9_trace : MI yX9_trace RX9 cX9_trace 1 (some .long) 0 := ⟨gI_X9_trace, gE_X9_trace, gN_X9, gC_X9_trace, by decide +kernel⟩
set_option maxHeartbeats 4000000 in
set_option maxRecDepth 100000 in
theorem k_X9_trace (l : Launch) (G : va_G) (cs : Nat → ClassId) (a_t a_t_text a_t_opinions a_t_lines a_t_draftBook a_t_scribes a_t_turn a_t_bent a_t_need a_t_now a_t_isKept a_t_far a_t_marginOf a_t_marginSays : Nat) (v_t_trace : Int64) (v_t_typed : Int32) (v_t_needTold : Int32) (v_t_at : Int32) (v_t_start : Int32) (v_t_sort : Int32) (v_t_value : Int32) (v_t_fault : Int32) (v_t_target : Int32) (v_t_went : Int32) (v_t_ender : Int32) (v_t_had : Int32) (v_t_margins : Int32) (R0 : Int64) (hB : f_X9_trace v_t_trace = some R0) : Met l yX9_trace (.code yX9_trace cX9_trace 1 (some .long) :: GW) rm_X9_trace (PcR G cs [.ref a_t] (wd_X9_trace cs a_t a_t_text a_t_opinions a_t_lines a_t_draftBook a_t_scribes a_t_turn a_t_bent a_t_need a_t_now a_t_isKept a_t_far a_t_marginOf a_t_marginSays v_t_trace v_t_typed v_t_needTold v_t_at v_t_start v_t_sort v_t_value v_t_fault v_t_target v_t_went v_t_ender v_t_had v_t_margins)) (vp_Sl (fun r => r = R0)) 0 0 (fun _ => False) := by
  refine Met.ofW (cc := cX9_trace) (maxL := 1) (ret := (some .long)) (by decide) rfl ?_
  intro p e s m args below meth c s₁ B hml hv
  obtain ⟨rfl, hP, hK, hN⟩ := hv
  have hx := B.exec
  have hb := B.bytes
  have hr := B.returns
  have hts := atoms_spec (ws := .code yX9_trace cX9_trace 1 (some .long) :: GW) B.pre
  have hg : ∀ w ∈ GW, w.before _ s = true := fun w h => hts w (List.mem_cons_of_mem _ h)
  have hown : s.vm.findClass RX9 = some m.cls := findClass_of_methodNamed B.named
  have hlocks := B.notSynchronized
  have hl := lv_entry ([.ref a_t]) (n := 1) (Nat.le_of_ble_eq_true rfl)
  rw [lg_entry_eq]
  generalize (lg_sl ([.ref a_t]) ++ List.replicate (1 - (lg_sl ([.ref a_t])).length) Slot.unset).toArray = ls at hl ⊢
  have hl : lv_has ls 1 [(0, .ref a_t)] := hl
  obtain ⟨y, hB, hK0⟩ : ∃ y, f_X9_trace v_t_trace = some y ∧ KEnd R0 y := ⟨R0, hB, rfl⟩
  have hKT := hK
  have hK := hK0
  show W p l e rm_X9_trace s m ([.ref a_t] : List Value).toArray below meth c s.heap [] 0 0 (MQ below (vp_Sl (fun r => r = R0)) ([.ref a_t] : List Value).toArray s 0 0 (fun _ => False)) (F0 m 0 ls [])
  refine lv_aload_n hx hb dX9_trace_0 rfl (lv_at hl 0 rfl) ?_
  refine va_get (D := G) (ci := 9) (v := .long v_t_trace) (C := RX9) (T := TX9) (N := 26) hx hb hg inX9 hown hKT hP 0 rfl rfl 0 (by decide) (hg _ gF_X9_187) (fun _ h9 => h9) rfl dX9_trace_1 ?_
  have hK := leafK hB hK
  have hK : v_t_trace = R0 := hK
  subst hK
  exact W.lret (v := v_t_trace) hx hb hr (fun t ht hW => ⟨_, rfl, rfl, ht⟩) (fun _ h => by cases h) dX9_trace_4
